section ZZL
theorem zc0 : zz_Cl 0 RJx4a65c TJx4a65c 3 tyJx4a65c := ⟨rfl, (fun w hw => zz_inws [60, 56, 58] (by decide +kernel) w hw), tyJx4a65c_ok, nmJx4a65c⟩
theorem zc1 : zz_Cl 1 RX0 TX0 5 tyX0 := ⟨rfl, (fun w hw => zz_inws [1045, 1047, 1049, 1051, 1053] (by decide +kernel) w hw), tyX0_ok, nmX0⟩
theorem zc2 : zz_Cl 2 RX1 TX1 7 tyX1 := ⟨rfl, (fun w hw => zz_inws [491, 493, 495, 497, 499, 501, 503] (by decide +kernel) w hw), tyX1_ok, nmX1⟩
theorem zc3 : zz_Cl 3 RX2 TX2 1 tyX2 := ⟨rfl, (fun w hw => zz_inws [470] (by decide +kernel) w hw), tyX2_ok, nmX2⟩
theorem zc4 : zz_Cl 4 RX3 TX3 7 tyX3 := ⟨rfl, (fun w hw => zz_inws [533, 535, 537, 539, 541, 543, 545] (by decide +kernel) w hw), tyX3_ok, nmX3⟩
theorem zc5 : zz_Cl 5 RX4 TX4 1 tyX4 := ⟨rfl, (fun w hw => zz_inws [70] (by decide +kernel) w hw), tyX4_ok, nmX4⟩
theorem zc6 : zz_Cl 6 RX5 TX5 2 tyX5 := ⟨rfl, (fun w hw => zz_inws [84, 86] (by decide +kernel) w hw), tyX5_ok, nmX5⟩
theorem zc7 : zz_Cl 7 RX6 TX6 6 tyX6 := ⟨rfl, (fun w hw => zz_inws [728, 730, 732, 734, 736, 738] (by decide +kernel) w hw), tyX6_ok, nmX6⟩
theorem zc8 : zz_Cl 8 RX7 TX7 6 tyX7 := ⟨rfl, (fun w hw => zz_inws [560, 562, 564, 566, 568, 570] (by decide +kernel) w hw), tyX7_ok, nmX7⟩
theorem zc9 : zz_Cl 9 RX8 TX8 3 tyX8 := ⟨rfl, (fun w hw => zz_inws [452, 454, 456] (by decide +kernel) w hw), tyX8_ok, nmX8⟩
theorem zc10 : zz_Cl 10 RX9 TX9 6 tyX9 := ⟨rfl, (fun w hw => zz_inws [159, 161, 163, 165, 167, 169] (by decide +kernel) w hw), tyX9_ok, nmX9⟩
theorem zc11 : zz_Cl 11 RX10 TX10 34 tyX10 := ⟨rfl, (fun w hw => zz_inws [1288, 1290, 1292, 1294, 1296, 1298, 1300, 1302, 1304, 1306, 1308, 1310, 1312, 1314, 1316, 1318, 1320, 1322, 1324, 1326, 1328, 1330, 1332, 1334, 1336, 1338, 1340, 1342, 1344, 1346, 1348, 1350, 1352, 1354] (by decide +kernel) w hw), tyX10_ok, nmX10⟩
theorem fl_X9_10 : zz_Fl "Springseat" 10 10 0 RX9 TX9 6 tyX9 "Springseat" := ⟨zc10, by decide, q_153, Or.inl rfl⟩
theorem fl_X9_16 : zz_Fl "Springseat" 16 10 1 RX9 TX9 6 tyX9 "Springseat" := ⟨zc10, by decide, q_154, Or.inl rfl⟩
theorem fl_X9_19 : zz_Fl "Springseat" 19 10 2 RX9 TX9 6 tyX9 "Springseat" := ⟨zc10, by decide, q_155, Or.inl rfl⟩
theorem fl_X9_22 : zz_Fl "Springseat" 22 10 3 RX9 TX9 6 tyX9 "Springseat" := ⟨zc10, by decide, q_156, Or.inl rfl⟩
theorem fl_X9_28 : zz_Fl "Springseat" 28 10 4 RX9 TX9 6 tyX9 "Springseat" := ⟨zc10, by decide, q_157, Or.inl rfl⟩
theorem fl_X9_32 : zz_Fl "Springseat" 32 10 5 RX9 TX9 6 tyX9 "Springseat" := ⟨zc10, by decide, q_158, Or.inl rfl⟩
theorem fn_X9_66 : zz_Fn "Springseat" 66 8 0 RX7 TX7 6 tyX7 "Springseat" := ⟨zc8, by decide, q_549⟩
theorem fn_X9_70 : zz_Fn "Springseat" 70 4 2 RX3 TX3 7 tyX3 "Springseat" := ⟨zc4, by decide, q_525⟩
theorem fn_X9_76 : zz_Fn "Springseat" 76 8 1 RX7 TX7 6 tyX7 "Springseat" := ⟨zc8, by decide, q_551⟩
theorem fn_X9_95 : zz_Fn "Springseat" 95 4 3 RX3 TX3 7 tyX3 "Springseat" := ⟨zc4, by decide, q_529⟩
theorem fn_X9_105 : zz_Fn "Springseat" 105 4 0 RX3 TX3 7 tyX3 "Springseat" := ⟨zc4, by decide, q_521⟩
theorem fn_X9_108 : zz_Fn "Springseat" 108 4 1 RX3 TX3 7 tyX3 "Springseat" := ⟨zc4, by decide, q_524⟩
theorem fn_X9_130 : zz_Fn "Springseat" 130 8 2 RX7 TX7 6 tyX7 "Springseat" := ⟨zc8, by decide, q_553⟩
theorem fn_X9_144 : zz_Fn "Springseat" 144 8 3 RX7 TX7 6 tyX7 "Springseat" := ⟨zc8, by decide, q_555⟩
theorem fn_X9_157 : zz_Fn "Springseat" 157 1 1 RX0 TX0 5 tyX0 "Springseat" := ⟨zc1, by decide, q_1039⟩
theorem fn_X9_173 : zz_Fn "Springseat" 173 1 4 RX0 TX0 5 tyX0 "Springseat" := ⟨zc1, by decide, q_1044⟩
theorem fn_X9_188 : zz_Fn "Springseat" 188 9 1 RX8 TX8 3 tyX8 "Springseat" := ⟨zc9, by decide, q_449⟩
theorem fn_X9_201 : zz_Fn "Springseat" 201 9 2 RX8 TX8 3 tyX8 "Springseat" := ⟨zc9, by decide, q_451⟩
theorem fn_X9_214 : zz_Fn "Springseat" 214 7 3 RX6 TX6 6 tyX6 "Springseat" := ⟨zc7, by decide, q_724⟩
theorem fn_X9_252 : zz_Fn "Springseat" 252 1 0 RX0 TX0 5 tyX0 "Springseat" := ⟨zc1, by decide, q_1037⟩
theorem fn_X9_261 : zz_Fn "Springseat" 261 1 3 RX0 TX0 5 tyX0 "Springseat" := ⟨zc1, by decide, q_1042⟩
theorem fn_X9_267 : zz_Fn "Springseat" 267 8 4 RX7 TX7 6 tyX7 "Springseat" := ⟨zc8, by decide, q_557⟩
theorem fn_X9_271 : zz_Fn "Springseat" 271 2 1 RX1 TX1 7 tyX1 "Springseat" := ⟨zc2, by decide, q_483⟩
theorem fn_X9_288 : zz_Fn "Springseat" 288 2 6 RX1 TX1 7 tyX1 "Springseat" := ⟨zc2, by decide, q_490⟩
theorem fn_X9_295 : zz_Fn "Springseat" 295 6 1 RX5 TX5 2 tyX5 "Springseat" := ⟨zc6, by decide, q_83⟩
theorem fn_X9_298 : zz_Fn "Springseat" 298 6 0 RX5 TX5 2 tyX5 "Springseat" := ⟨zc6, by decide, q_81⟩
theorem fn_X9_312 : zz_Fn "Springseat" 312 7 5 RX6 TX6 6 tyX6 "Springseat" := ⟨zc7, by decide, q_727⟩
theorem fn_X9_318 : zz_Fn "Springseat" 318 8 5 RX7 TX7 6 tyX7 "Springseat" := ⟨zc8, by decide, q_559⟩
theorem fn_X9_321 : zz_Fn "Springseat" 321 2 5 RX1 TX1 7 tyX1 "Springseat" := ⟨zc2, by decide, q_488⟩
theorem fn_X9_371 : zz_Fn "Springseat" 371 3 0 RX2 TX2 1 tyX2 "Springseat" := ⟨zc3, by decide, q_469⟩
theorem fl_X0_9 : zz_Fl "Springseat$Cloth" 9 1 2 RX0 TX0 5 tyX0 "Springseat$Cloth" := ⟨zc1, by decide, q_1040, Or.inl rfl⟩
theorem fl_X0_15 : zz_Fl "Springseat$Cloth" 15 1 0 RX0 TX0 5 tyX0 "Springseat$Cloth" := ⟨zc1, by decide, q_1036, Or.inl rfl⟩
theorem fl_X0_19 : zz_Fl "Springseat$Cloth" 19 1 1 RX0 TX0 5 tyX0 "Springseat$Cloth" := ⟨zc1, by decide, q_1038, Or.inl rfl⟩
theorem fl_X0_22 : zz_Fl "Springseat$Cloth" 22 1 3 RX0 TX0 5 tyX0 "Springseat$Cloth" := ⟨zc1, by decide, q_1041, Or.inl rfl⟩
theorem fl_X1_9 : zz_Fl "Springseat$Cover" 9 2 0 RX1 TX1 7 tyX1 "Springseat$Cover" := ⟨zc2, by decide, q_481, Or.inl rfl⟩
theorem fn_X1_15 : zz_Fn "Springseat$Cover" 15 1 4 RX0 TX0 5 tyX0 "Springseat" := ⟨zc1, by decide, q_1043⟩
theorem fl_X1_25 : zz_Fl "Springseat$Cover" 25 2 3 RX1 TX1 7 tyX1 "Springseat$Cover" := ⟨zc2, by decide, q_485, Or.inl rfl⟩
theorem fl_X1_29 : zz_Fl "Springseat$Cover" 29 2 4 RX1 TX1 7 tyX1 "Springseat$Cover" := ⟨zc2, by decide, q_486, Or.inl rfl⟩
theorem fl_X1_32 : zz_Fl "Springseat$Cover" 32 2 1 RX1 TX1 7 tyX1 "Springseat$Cover" := ⟨zc2, by decide, q_482, Or.inl rfl⟩
theorem fl_X1_35 : zz_Fl "Springseat$Cover" 35 2 2 RX1 TX1 7 tyX1 "Springseat$Cover" := ⟨zc2, by decide, q_484, Or.inl rfl⟩
theorem fl_X2_12 : zz_Fl "Springseat$Filling" 12 3 0 RX2 TX2 1 tyX2 "Springseat$Filling" := ⟨zc3, by decide, q_468, Or.inl rfl⟩
theorem fn_X2_43 : zz_Fn "Springseat$Filling" 43 7 3 RX6 TX6 6 tyX6 "Springseat" := ⟨zc7, by decide, q_723⟩
theorem fn_X2_54 : zz_Fn "Springseat$Filling" 54 7 0 RX6 TX6 6 tyX6 "Springseat" := ⟨zc7, by decide, q_719⟩
theorem fl_X3_12 : zz_Fl "Springseat$Frame" 12 4 3 RX3 TX3 7 tyX3 "Springseat$Frame" := ⟨zc4, by decide, q_528, Or.inl rfl⟩
theorem fl_X3_18 : zz_Fl "Springseat$Frame" 18 4 4 RX3 TX3 7 tyX3 "Springseat$Frame" := ⟨zc4, by decide, q_530, Or.inl rfl⟩
theorem fl_X3_21 : zz_Fl "Springseat$Frame" 21 4 5 RX3 TX3 7 tyX3 "Springseat$Frame" := ⟨zc4, by decide, q_531, Or.inl rfl⟩
theorem fl_X3_25 : zz_Fl "Springseat$Frame" 25 4 6 RX3 TX3 7 tyX3 "Springseat$Frame" := ⟨zc4, by decide, q_532, Or.inl rfl⟩
theorem fl_X3_28 : zz_Fl "Springseat$Frame" 28 4 0 RX3 TX3 7 tyX3 "Springseat$Frame" := ⟨zc4, by decide, q_519, Or.inl rfl⟩
theorem fl_X3_32 : zz_Fl "Springseat$Frame" 32 4 1 RX3 TX3 7 tyX3 "Springseat$Frame" := ⟨zc4, by decide, q_522, Or.inl rfl⟩
theorem fl_X3_79 : zz_Fl "Springseat$Frame" 79 4 2 RX3 TX3 7 tyX3 "Springseat$Frame" := ⟨zc4, by decide, q_527, Or.inl rfl⟩
theorem fl_X4_9 : zz_Fl "Springseat$Grid" 9 5 0 RX4 TX4 1 tyX4 "Springseat$Grid" := ⟨zc5, by decide, q_69, Or.inl rfl⟩
theorem fl_X5_9 : zz_Fl "Springseat$Land" 9 6 0 RX5 TX5 2 tyX5 "Springseat$Land" := ⟨zc6, by decide, q_80, Or.inl rfl⟩
theorem fl_X5_15 : zz_Fl "Springseat$Land" 15 6 1 RX5 TX5 2 tyX5 "Springseat$Land" := ⟨zc6, by decide, q_82, Or.inl rfl⟩
theorem fl_X6_9 : zz_Fl "Springseat$Layer" 9 7 0 RX6 TX6 6 tyX6 "Springseat$Layer" := ⟨zc7, by decide, q_718, Or.inl rfl⟩
theorem fl_X6_15 : zz_Fl "Springseat$Layer" 15 7 1 RX6 TX6 6 tyX6 "Springseat$Layer" := ⟨zc7, by decide, q_720, Or.inl rfl⟩
theorem fl_X6_19 : zz_Fl "Springseat$Layer" 19 7 2 RX6 TX6 6 tyX6 "Springseat$Layer" := ⟨zc7, by decide, q_721, Or.inl rfl⟩
theorem fl_X6_22 : zz_Fl "Springseat$Layer" 22 7 3 RX6 TX6 6 tyX6 "Springseat$Layer" := ⟨zc7, by decide, q_722, Or.inl rfl⟩
theorem fl_X6_25 : zz_Fl "Springseat$Layer" 25 7 4 RX6 TX6 6 tyX6 "Springseat$Layer" := ⟨zc7, by decide, q_725, Or.inl rfl⟩
theorem fl_X6_41 : zz_Fl "Springseat$Layer" 41 7 5 RX6 TX6 6 tyX6 "Springseat$Layer" := ⟨zc7, by decide, q_726, Or.inl rfl⟩
theorem fl_X7_12 : zz_Fl "Springseat$Seat" 12 8 1 RX7 TX7 6 tyX7 "Springseat$Seat" := ⟨zc8, by decide, q_550, Or.inl rfl⟩
theorem fl_X7_21 : zz_Fl "Springseat$Seat" 21 8 2 RX7 TX7 6 tyX7 "Springseat$Seat" := ⟨zc8, by decide, q_552, Or.inl rfl⟩
theorem fl_X7_28 : zz_Fl "Springseat$Seat" 28 8 3 RX7 TX7 6 tyX7 "Springseat$Seat" := ⟨zc8, by decide, q_554, Or.inl rfl⟩
theorem fl_X7_35 : zz_Fl "Springseat$Seat" 35 8 4 RX7 TX7 6 tyX7 "Springseat$Seat" := ⟨zc8, by decide, q_556, Or.inl rfl⟩
theorem fl_X7_39 : zz_Fl "Springseat$Seat" 39 8 5 RX7 TX7 6 tyX7 "Springseat$Seat" := ⟨zc8, by decide, q_558, Or.inl rfl⟩
theorem fl_X7_48 : zz_Fl "Springseat$Seat" 48 8 0 RX7 TX7 6 tyX7 "Springseat$Seat" := ⟨zc8, by decide, q_548, Or.inl rfl⟩
theorem fn_X7_52 : zz_Fn "Springseat$Seat" 52 9 1 RX8 TX8 3 tyX8 "Springseat" := ⟨zc9, by decide, q_447⟩
theorem fn_X7_59 : zz_Fn "Springseat$Seat" 59 4 1 RX3 TX3 7 tyX3 "Springseat" := ⟨zc4, by decide, q_523⟩
theorem fn_X7_66 : zz_Fn "Springseat$Seat" 66 4 0 RX3 TX3 7 tyX3 "Springseat" := ⟨zc4, by decide, q_520⟩
theorem fn_X7_76 : zz_Fn "Springseat$Seat" 76 2 5 RX1 TX1 7 tyX1 "Springseat" := ⟨zc2, by decide, q_487⟩
theorem fn_X7_79 : zz_Fn "Springseat$Seat" 79 2 6 RX1 TX1 7 tyX1 "Springseat" := ⟨zc2, by decide, q_489⟩
theorem fn_X7_108 : zz_Fn "Springseat$Seat" 108 4 2 RX3 TX3 7 tyX3 "Springseat" := ⟨zc4, by decide, q_526⟩
theorem fl_X8_9 : zz_Fl "Springseat$Steps" 9 9 0 RX8 TX8 3 tyX8 "Springseat$Steps" := ⟨zc9, by decide, q_446, Or.inl rfl⟩
theorem fl_X8_15 : zz_Fl "Springseat$Steps" 15 9 1 RX8 TX8 3 tyX8 "Springseat$Steps" := ⟨zc9, by decide, q_448, Or.inl rfl⟩
theorem fl_X8_23 : zz_Fl "Springseat$Steps" 23 9 2 RX8 TX8 3 tyX8 "Springseat$Steps" := ⟨zc9, by decide, q_450, Or.inl rfl⟩
theorem fl_X10_9 : zz_Fl "SpringseatModel" 9 11 0 RX10 TX10 34 tyX10 "SpringseatModel" := ⟨zc11, by decide, q_1254, Or.inl rfl⟩
theorem fl_X10_13 : zz_Fl "SpringseatModel" 13 11 1 RX10 TX10 34 tyX10 "SpringseatModel" := ⟨zc11, by decide, q_1255, Or.inl rfl⟩
theorem fl_X10_16 : zz_Fl "SpringseatModel" 16 11 2 RX10 TX10 34 tyX10 "SpringseatModel" := ⟨zc11, by decide, q_1256, Or.inl rfl⟩
theorem fl_X10_21 : zz_Fl "SpringseatModel" 21 11 3 RX10 TX10 34 tyX10 "SpringseatModel" := ⟨zc11, by decide, q_1257, Or.inl rfl⟩
theorem fl_X10_26 : zz_Fl "SpringseatModel" 26 11 4 RX10 TX10 34 tyX10 "SpringseatModel" := ⟨zc11, by decide, q_1258, Or.inl rfl⟩
theorem fl_X10_29 : zz_Fl "SpringseatModel" 29 11 5 RX10 TX10 34 tyX10 "SpringseatModel" := ⟨zc11, by decide, q_1259, Or.inl rfl⟩
theorem fl_X10_34 : zz_Fl "SpringseatModel" 34 11 6 RX10 TX10 34 tyX10 "SpringseatModel" := ⟨zc11, by decide, q_1260, Or.inl rfl⟩
theorem fl_X10_37 : zz_Fl "SpringseatModel" 37 11 7 RX10 TX10 34 tyX10 "SpringseatModel" := ⟨zc11, by decide, q_1261, Or.inl rfl⟩
theorem fl_X10_42 : zz_Fl "SpringseatModel" 42 11 8 RX10 TX10 34 tyX10 "SpringseatModel" := ⟨zc11, by decide, q_1262, Or.inl rfl⟩
theorem fl_X10_45 : zz_Fl "SpringseatModel" 45 11 9 RX10 TX10 34 tyX10 "SpringseatModel" := ⟨zc11, by decide, q_1263, Or.inl rfl⟩
theorem fl_X10_48 : zz_Fl "SpringseatModel" 48 11 10 RX10 TX10 34 tyX10 "SpringseatModel" := ⟨zc11, by decide, q_1264, Or.inl rfl⟩
theorem fl_X10_51 : zz_Fl "SpringseatModel" 51 11 11 RX10 TX10 34 tyX10 "SpringseatModel" := ⟨zc11, by decide, q_1265, Or.inl rfl⟩
theorem fl_X10_54 : zz_Fl "SpringseatModel" 54 11 12 RX10 TX10 34 tyX10 "SpringseatModel" := ⟨zc11, by decide, q_1266, Or.inl rfl⟩
theorem fl_X10_57 : zz_Fl "SpringseatModel" 57 11 13 RX10 TX10 34 tyX10 "SpringseatModel" := ⟨zc11, by decide, q_1267, Or.inl rfl⟩
theorem fl_X10_62 : zz_Fl "SpringseatModel" 62 11 14 RX10 TX10 34 tyX10 "SpringseatModel" := ⟨zc11, by decide, q_1268, Or.inl rfl⟩
theorem fl_X10_65 : zz_Fl "SpringseatModel" 65 11 15 RX10 TX10 34 tyX10 "SpringseatModel" := ⟨zc11, by decide, q_1269, Or.inl rfl⟩
theorem fl_X10_68 : zz_Fl "SpringseatModel" 68 11 16 RX10 TX10 34 tyX10 "SpringseatModel" := ⟨zc11, by decide, q_1270, Or.inl rfl⟩
theorem fl_X10_71 : zz_Fl "SpringseatModel" 71 11 17 RX10 TX10 34 tyX10 "SpringseatModel" := ⟨zc11, by decide, q_1271, Or.inl rfl⟩
theorem fl_X10_74 : zz_Fl "SpringseatModel" 74 11 18 RX10 TX10 34 tyX10 "SpringseatModel" := ⟨zc11, by decide, q_1272, Or.inl rfl⟩
theorem fl_X10_77 : zz_Fl "SpringseatModel" 77 11 19 RX10 TX10 34 tyX10 "SpringseatModel" := ⟨zc11, by decide, q_1273, Or.inl rfl⟩
theorem fl_X10_80 : zz_Fl "SpringseatModel" 80 11 20 RX10 TX10 34 tyX10 "SpringseatModel" := ⟨zc11, by decide, q_1274, Or.inl rfl⟩
theorem fl_X10_83 : zz_Fl "SpringseatModel" 83 11 21 RX10 TX10 34 tyX10 "SpringseatModel" := ⟨zc11, by decide, q_1275, Or.inl rfl⟩
theorem fl_X10_86 : zz_Fl "SpringseatModel" 86 11 22 RX10 TX10 34 tyX10 "SpringseatModel" := ⟨zc11, by decide, q_1276, Or.inl rfl⟩
theorem fl_X10_89 : zz_Fl "SpringseatModel" 89 11 23 RX10 TX10 34 tyX10 "SpringseatModel" := ⟨zc11, by decide, q_1277, Or.inl rfl⟩
theorem fl_X10_92 : zz_Fl "SpringseatModel" 92 11 24 RX10 TX10 34 tyX10 "SpringseatModel" := ⟨zc11, by decide, q_1278, Or.inl rfl⟩
theorem fl_X10_95 : zz_Fl "SpringseatModel" 95 11 25 RX10 TX10 34 tyX10 "SpringseatModel" := ⟨zc11, by decide, q_1279, Or.inl rfl⟩
theorem fl_X10_98 : zz_Fl "SpringseatModel" 98 11 26 RX10 TX10 34 tyX10 "SpringseatModel" := ⟨zc11, by decide, q_1280, Or.inl rfl⟩
theorem fl_X10_101 : zz_Fl "SpringseatModel" 101 11 27 RX10 TX10 34 tyX10 "SpringseatModel" := ⟨zc11, by decide, q_1281, Or.inl rfl⟩
theorem fl_X10_104 : zz_Fl "SpringseatModel" 104 11 28 RX10 TX10 34 tyX10 "SpringseatModel" := ⟨zc11, by decide, q_1282, Or.inl rfl⟩
theorem fl_X10_108 : zz_Fl "SpringseatModel" 108 11 29 RX10 TX10 34 tyX10 "SpringseatModel" := ⟨zc11, by decide, q_1283, Or.inl rfl⟩
theorem fl_X10_111 : zz_Fl "SpringseatModel" 111 11 33 RX10 TX10 34 tyX10 "SpringseatModel" := ⟨zc11, by decide, q_1287, Or.inl rfl⟩
theorem fl_X10_115 : zz_Fl "SpringseatModel" 115 11 30 RX10 TX10 34 tyX10 "SpringseatModel" := ⟨zc11, by decide, q_1284, Or.inl rfl⟩
theorem fl_X10_179 : zz_Fl "SpringseatModel" 179 11 32 RX10 TX10 34 tyX10 "SpringseatModel" := ⟨zc11, by decide, q_1286, Or.inl rfl⟩
theorem fl_X10_223 : zz_Fl "SpringseatModel" 223 11 31 RX10 TX10 34 tyX10 "SpringseatModel" := ⟨zc11, by decide, q_1285, Or.inl rfl⟩
theorem fl_Jxc12de_7 : zz_Fl "java/util/AbstractList" 7 0 0 RJx4a65c TJx4a65c 3 tyJx4a65c "java/util/AbstractList" := ⟨zc0, by decide, q_53, Or.inl rfl⟩
theorem fl_Jx4a65c_9 : zz_Fl "java/util/ArrayList" 9 0 1 RJx4a65c TJx4a65c 3 tyJx4a65c "java/util/ArrayList" := ⟨zc0, by decide, q_51, Or.inl rfl⟩
theorem fl_Jx4a65c_48 : zz_Fl "java/util/ArrayList" 48 0 2 RJx4a65c TJx4a65c 3 tyJx4a65c "java/util/ArrayList" := ⟨zc0, by decide, q_52, Or.inl rfl⟩
theorem fl_Jx4a65c_63 : zz_Fl "java/util/ArrayList" 63 0 0 RJx4a65c TJx4a65c 3 tyJx4a65c "java/util/ArrayList" := ⟨zc0, by decide, q_54, Or.inr q_55⟩
theorem nse_0 : decode prog_32_method_4_code 0 = .ok (.aload_n 0, 1) := by decide +kernel
theorem nse_1 : decode prog_32_method_4_code 1 = .ok (.aload_n 1, 1) := by decide +kernel
theorem nse_2 : decode prog_32_method_4_code 2 = .ok (.invokespecial 13, 3) := by decide +kernel
theorem nse_5 : decode prog_32_method_4_code 5 = .ok (.return_, 1) := by decide +kernel
theorem tw_10_170 : Bundle.fit (zz_E 4) = true ∧ (∀ n ∈ (["java/lang/RuntimeException", "java/lang/Exception"] : List String), Bundle.fit n = true) ∧ (∀ w ∈ (Bundle.ownAtomsX "Springseat" 170 (zz_E 4) 13 prog_32_method_4_code ["java/lang/RuntimeException", "java/lang/Exception"]).filter vx_no, w ∈ zz_G) ∧ (∀ w ∈ Cond.classLink "Springseat" 166 (zz_E 4) :: Cond.initialized (zz_E 4) :: ((Bundle.ownAtomsX "Springseat" 170 (zz_E 4) 13 prog_32_method_4_code ["java/lang/RuntimeException", "java/lang/Exception"]).filter vx_no), vx_ot w = true) := ⟨by decide +kernel, by decide +kernel, by decide +kernel, by decide +kernel⟩
theorem tw_10_184 : Bundle.fit (zz_E 3) = true ∧ (∀ n ∈ (["java/lang/RuntimeException", "java/lang/Exception"] : List String), Bundle.fit n = true) ∧ (∀ w ∈ vx_atS "Springseat" 184 (zz_E 3) ["java/lang/RuntimeException", "java/lang/Exception"], w ∈ zz_G) ∧ (∀ w ∈ Cond.classLink "Springseat" 180 (zz_E 3) :: Cond.initialized (zz_E 3) :: (vx_atS "Springseat" 184 (zz_E 3) ["java/lang/RuntimeException", "java/lang/Exception"]), vx_ot w = true) := ⟨by decide +kernel, by decide +kernel, by decide +kernel, by decide +kernel⟩
theorem tw_10_378 : Bundle.fit (zz_E 2) = true ∧ (∀ n ∈ (["java/lang/RuntimeException", "java/lang/Exception"] : List String), Bundle.fit n = true) ∧ (∀ w ∈ vx_atS "Springseat" 378 (zz_E 2) ["java/lang/RuntimeException", "java/lang/Exception"], w ∈ zz_G) ∧ (∀ w ∈ Cond.classLink "Springseat" 374 (zz_E 2) :: Cond.initialized (zz_E 2) :: (vx_atS "Springseat" 378 (zz_E 2) ["java/lang/RuntimeException", "java/lang/Exception"]), vx_ot w = true) := ⟨by decide +kernel, by decide +kernel, by decide +kernel, by decide +kernel⟩
theorem tw_10_385 : Bundle.fit (zz_E 0) = true ∧ (∀ n ∈ (["java/lang/RuntimeException", "java/lang/Exception"] : List String), Bundle.fit n = true) ∧ (∀ w ∈ vx_atS "Springseat" 385 (zz_E 0) ["java/lang/RuntimeException", "java/lang/Exception"], w ∈ zz_G) ∧ (∀ w ∈ Cond.classLink "Springseat" 381 (zz_E 0) :: Cond.initialized (zz_E 0) :: (vx_atS "Springseat" 385 (zz_E 0) ["java/lang/RuntimeException", "java/lang/Exception"]), vx_ot w = true) := ⟨by decide +kernel, by decide +kernel, by decide +kernel, by decide +kernel⟩
theorem tw_10_392 : Bundle.fit (zz_E 1) = true ∧ (∀ n ∈ (["java/lang/RuntimeException", "java/lang/Exception"] : List String), Bundle.fit n = true) ∧ (∀ w ∈ vx_atS "Springseat" 392 (zz_E 1) ["java/lang/RuntimeException", "java/lang/Exception"], w ∈ zz_G) ∧ (∀ w ∈ Cond.classLink "Springseat" 388 (zz_E 1) :: Cond.initialized (zz_E 1) :: (vx_atS "Springseat" 392 (zz_E 1) ["java/lang/RuntimeException", "java/lang/Exception"]), vx_ot w = true) := ⟨by decide +kernel, by decide +kernel, by decide +kernel, by decide +kernel⟩
end ZZL
