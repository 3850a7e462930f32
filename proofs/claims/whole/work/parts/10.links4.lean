theorem cl_7_217 : cOK 7 (217, 0, 143, 2) := fun _ => ⟨mi_X7_works, rfl, (by decide +kernel), (by decide +kernel), ⟨gmem 1438 (by decide +kernel) (by decide +kernel), him_X7_works, hse_X7_works⟩⟩
theorem cl_7_220 : cOK 7 (220, 0, 144, 2) := fun _ => ⟨mi_X7_isCell, rfl, (by decide +kernel), (by decide +kernel), ⟨gmem 1430 (by decide +kernel) (by decide +kernel), him_X7_isCell, hse_X7_isCell⟩⟩
theorem cl_7_223 : cOK 7 (223, 0, 142, 1) := fun _ => ⟨mi_X7_lays, rfl, (by decide +kernel), (by decide +kernel), ⟨gmem 1434 (by decide +kernel) (by decide +kernel), him_X7_lays, hse_X7_lays⟩⟩
theorem cl_7_226 : cOK 7 (226, 2, 145, 1) := fun _ => ⟨mi_X7_isHour, rfl, (by decide +kernel), (by decide +kernel), ⟨gmem 1446 (by decide +kernel) (by decide +kernel), hst_X7_isHour⟩⟩
theorem cl_7_229 : cOK 7 (229, 0, 150, 2) := fun _ => ⟨mi_X7_humOf, rfl, (by decide +kernel), (by decide +kernel), ⟨gmem 1449 (by decide +kernel) (by decide +kernel), him_X7_humOf, hse_X7_humOf⟩⟩
theorem cl_7_232 : cOK 7 (232, 0, 146, 2) := fun _ => ⟨mi_X7_isHouse, rfl, (by decide +kernel), (by decide +kernel), ⟨gmem 1457 (by decide +kernel) (by decide +kernel), him_X7_isHouse, hse_X7_isHouse⟩⟩
theorem cl_7_235 : cOK 7 (235, 0, 153, 2) := fun _ => ⟨mi_X7_isDone, rfl, (by decide +kernel), (by decide +kernel), ⟨gmem 1465 (by decide +kernel) (by decide +kernel), him_X7_isDone, hse_X7_isDone⟩⟩
theorem cl_7_238 : cOK 7 (238, 0, 157, 5) := fun _ => ⟨mi_X7_turns, rfl, (by decide +kernel), (by decide +kernel), ⟨gmem 1489 (by decide +kernel) (by decide +kernel), him_X7_turns, hse_X7_turns⟩⟩
theorem cl_7_242 : cOK 7 (242, 2, 155, 1) := fun _ => ⟨mi_X7_eats, rfl, (by decide +kernel), (by decide +kernel), ⟨gmem 1493 (by decide +kernel) (by decide +kernel), hst_X7_eats⟩⟩
theorem cl_7_245 : cOK 7 (245, 0, 156, 8) := fun _ => ⟨mi_X7_shines, rfl, (by decide +kernel), (by decide +kernel), ⟨gmem 1485 (by decide +kernel) (by decide +kernel), him_X7_shines, hse_X7_shines⟩⟩
theorem cl_7_249 : cOK 7 (249, 0, 158, 6) := fun _ => ⟨mi_X7_sounds, rfl, (by decide +kernel), (by decide +kernel), ⟨gmem 1508 (by decide +kernel) (by decide +kernel), him_X7_sounds, hse_X7_sounds⟩⟩
theorem cl_7_253 : cOK 7 (253, 0, 159, 3) := fun _ => ⟨mi_X7_soundsOf, rfl, (by decide +kernel), (by decide +kernel), ⟨gmem 1504 (by decide +kernel) (by decide +kernel), him_X7_soundsOf, hse_X7_soundsOf⟩⟩
theorem cl_7_256 : cOK 7 (256, 0, 161, 3) := fun _ => ⟨mi_X7_doesSound, rfl, (by decide +kernel), (by decide +kernel), ⟨gmem 1524 (by decide +kernel) (by decide +kernel), him_X7_doesSound, hse_X7_doesSound⟩⟩
theorem cl_7_260 : cOK 7 (260, 0, 162, 3) := fun _ => ⟨mi_X7_most, rfl, (by decide +kernel), (by decide +kernel), ⟨gmem 1520 (by decide +kernel) (by decide +kernel), him_X7_most, hse_X7_most⟩⟩
theorem cl_7_263 : cOK 7 (263, 0, 163, 3) := fun _ => ⟨mi_X7_needs, rfl, (by decide +kernel), (by decide +kernel), ⟨gmem 1536 (by decide +kernel) (by decide +kernel), him_X7_needs, hse_X7_needs⟩⟩
theorem cl_7_266 : cOK 7 (266, 0, 148, 2) := fun _ => ⟨mi_X7_isAir, rfl, (by decide +kernel), (by decide +kernel), ⟨gmem 1477 (by decide +kernel) (by decide +kernel), him_X7_isAir, hse_X7_isAir⟩⟩
theorem cl_7_269 : cOK 7 (269, 0, 147, 2) := fun _ => ⟨mi_X7_isSource, rfl, (by decide +kernel), (by decide +kernel), ⟨gmem 1481 (by decide +kernel) (by decide +kernel), him_X7_isSource, hse_X7_isSource⟩⟩
theorem cl_7_272 : cOK 7 (272, 0, 165, 6) := fun _ => ⟨mi_X7_badRay, rfl, (by decide +kernel), (by decide +kernel), ⟨gmem 1473 (by decide +kernel) (by decide +kernel), him_X7_badRay, hse_X7_badRay⟩⟩
theorem cl_7_276 : cOK 7 (276, 0, 160, 2) := fun _ => ⟨mi_X7_laysLoud, rfl, (by decide +kernel), (by decide +kernel), ⟨gmem 1516 (by decide +kernel) (by decide +kernel), him_X7_laysLoud, hse_X7_laysLoud⟩⟩
theorem cl_7_279 : cOK 7 (279, 0, 164, 3) := fun _ => ⟨mi_X7_hearsAny, rfl, (by decide +kernel), (by decide +kernel), ⟨gmem 1532 (by decide +kernel) (by decide +kernel), him_X7_hearsAny, hse_X7_hearsAny⟩⟩
theorem cl_7_282 : cOK 7 (282, 0, 174, 3) := fun _ => ⟨mi_X7_wakesOf, rfl, (by decide +kernel), (by decide +kernel), ⟨gmem 1556 (by decide +kernel) (by decide +kernel), him_X7_wakesOf, hse_X7_wakesOf⟩⟩
theorem cl_7_285 : cOK 7 (285, 0, 177, 3) := fun _ => ⟨mi_X7_meanOf, rfl, (by decide +kernel), (by decide +kernel), ⟨gmem 1568 (by decide +kernel) (by decide +kernel), him_X7_meanOf, hse_X7_meanOf⟩⟩
theorem cl_7_294 : cOK 7 (294, 0, 180, 2) := fun _ => ⟨mi_X7_areHouses, rfl, (by decide +kernel), (by decide +kernel), ⟨gmem 1580 (by decide +kernel) (by decide +kernel), him_X7_areHouses, hse_X7_areHouses⟩⟩
theorem cl_7_297 : cOK 7 (297, 0, 181, 4) := fun _ => ⟨mi_X7_findLeast, rfl, (by decide +kernel), (by decide +kernel), ⟨gmem 1584 (by decide +kernel) (by decide +kernel), him_X7_findLeast, hse_X7_findLeast⟩⟩
theorem cl_7_301 : cOK 7 (301, 0, 186, 4) := fun _ => ⟨mi_X7_hearsOne, rfl, (by decide +kernel), (by decide +kernel), ⟨gmem 1604 (by decide +kernel) (by decide +kernel), him_X7_hearsOne, hse_X7_hearsOne⟩⟩
theorem cl_7_306 : cOK 7 (306, 0, 190, 5) := fun _ => ⟨mi_X7_couldBe, rfl, (by decide +kernel), (by decide +kernel), ⟨gmem 1620 (by decide +kernel) (by decide +kernel), him_X7_couldBe, hse_X7_couldBe⟩⟩
theorem cl_7_313 : cOK 7 (313, 0, 195, 4) := fun _ => ⟨mi_X7_moves, rfl, (by decide +kernel), (by decide +kernel), ⟨gmem 1646 (by decide +kernel) (by decide +kernel), him_X7_moves, hse_X7_moves⟩⟩
theorem cl_7_317 : cOK 7 (317, 0, 196, 3) := fun _ => ⟨mi_X7_movesAll, rfl, (by decide +kernel), (by decide +kernel), ⟨gmem 1642 (by decide +kernel) (by decide +kernel), him_X7_movesAll, hse_X7_movesAll⟩⟩
theorem cl_8_7 : cOK 8 (7, 0, 50, 2) := fun _ => ⟨mi_X6_land, rfl, (by decide +kernel), (by decide +kernel), ⟨gmem 518 (by decide +kernel) (by decide +kernel), him_X6_land, hse_X6_land⟩⟩
theorem cl_8_15 : cOK 8 (15, 0, 51, 2) := fun _ => ⟨mi_X6_air, rfl, (by decide +kernel), (by decide +kernel), ⟨gmem 727 (by decide +kernel) (by decide +kernel), him_X6_air, hse_X6_air⟩⟩
theorem cl_8_18 : cOK 8 (18, 0, 53, 2) := fun _ => ⟨mi_X6_told, rfl, (by decide +kernel), (by decide +kernel), ⟨gmem 754 (by decide +kernel) (by decide +kernel), him_X6_told, hse_X6_told⟩⟩
theorem cl_8_21 : cOK 8 (21, 0, 54, 3) := fun _ => ⟨mi_X6_cell, rfl, (by decide +kernel), (by decide +kernel), ⟨gmem 766 (by decide +kernel) (by decide +kernel), him_X6_cell, hse_X6_cell⟩⟩
theorem cl_8_27 : cOK 8 (27, 0, 55, 2) := fun _ => ⟨mi_X6_hum, rfl, (by decide +kernel), (by decide +kernel), ⟨gmem 793 (by decide +kernel) (by decide +kernel), him_X6_hum, hse_X6_hum⟩⟩
theorem cl_8_30 : cOK 8 (30, 0, 56, 2) := fun _ => ⟨mi_X6_ear, rfl, (by decide +kernel), (by decide +kernel), ⟨gmem 809 (by decide +kernel) (by decide +kernel), him_X6_ear, hse_X6_ear⟩⟩
theorem cl_8_35 : cOK 8 (35, 0, 57, 2) := fun _ => ⟨mi_X6_does, rfl, (by decide +kernel), (by decide +kernel), ⟨gmem 840 (by decide +kernel) (by decide +kernel), him_X6_does, hse_X6_does⟩⟩
theorem cl_8_38 : cOK 8 (38, 0, 58, 6) := fun _ => ⟨mi_X6_ray, rfl, (by decide +kernel), (by decide +kernel), ⟨gmem 858 (by decide +kernel) (by decide +kernel), him_X6_ray, hse_X6_ray⟩⟩
theorem cl_8_42 : cOK 8 (42, 0, 59, 6) := fun _ => ⟨mi_X6_left, rfl, (by decide +kernel), (by decide +kernel), ⟨gmem 904 (by decide +kernel) (by decide +kernel), him_X6_left, hse_X6_left⟩⟩
theorem cl_8_45 : cOK 8 (45, 0, 60, 4) := fun _ => ⟨mi_X6_loud, rfl, (by decide +kernel), (by decide +kernel), ⟨gmem 911 (by decide +kernel) (by decide +kernel), him_X6_loud, hse_X6_loud⟩⟩
theorem cl_8_49 : cOK 8 (49, 0, 61, 4) := fun _ => ⟨mi_X6_at, rfl, (by decide +kernel), (by decide +kernel), ⟨gmem 936 (by decide +kernel) (by decide +kernel), him_X6_at, hse_X6_at⟩⟩
theorem cl_8_52 : cOK 8 (52, 0, 62, 3) := fun _ => ⟨mi_X6_hears, rfl, (by decide +kernel), (by decide +kernel), ⟨gmem 953 (by decide +kernel) (by decide +kernel), him_X6_hears, hse_X6_hears⟩⟩
theorem cl_8_55 : cOK 8 (55, 0, 63, 4) := fun _ => ⟨mi_X6_zones, rfl, (by decide +kernel), (by decide +kernel), ⟨gmem 969 (by decide +kernel) (by decide +kernel), him_X6_zones, hse_X6_zones⟩⟩
theorem cl_8_58 : cOK 8 (58, 0, 64, 4) := fun _ => ⟨mi_X6_why, rfl, (by decide +kernel), (by decide +kernel), ⟨gmem 984 (by decide +kernel) (by decide +kernel), him_X6_why, hse_X6_why⟩⟩
theorem cl_8_61 : cOK 8 (61, 0, 65, 4) := fun _ => ⟨mi_X6_nights, rfl, (by decide +kernel), (by decide +kernel), ⟨gmem 991 (by decide +kernel) (by decide +kernel), him_X6_nights, hse_X6_nights⟩⟩
theorem cl_8_64 : cOK 8 (64, 0, 66, 3) := fun _ => ⟨mi_X6_wakes, rfl, (by decide +kernel), (by decide +kernel), ⟨gmem 998 (by decide +kernel) (by decide +kernel), him_X6_wakes, hse_X6_wakes⟩⟩
theorem cl_8_67 : cOK 8 (67, 0, 67, 2) := fun _ => ⟨mi_X6_badly, rfl, (by decide +kernel), (by decide +kernel), ⟨gmem 1009 (by decide +kernel) (by decide +kernel), him_X6_badly, hse_X6_badly⟩⟩
theorem cl_8_70 : cOK 8 (70, 0, 68, 3) := fun _ => ⟨mi_X6_mean, rfl, (by decide +kernel), (by decide +kernel), ⟨gmem 1016 (by decide +kernel) (by decide +kernel), him_X6_mean, hse_X6_mean⟩⟩
theorem cl_8_73 : cOK 8 (73, 0, 69, 4) := fun _ => ⟨mi_X6_hides, rfl, (by decide +kernel), (by decide +kernel), ⟨gmem 1027 (by decide +kernel) (by decide +kernel), him_X6_hides, hse_X6_hides⟩⟩
theorem cl_8_76 : cOK 8 (76, 0, 70, 5) := fun _ => ⟨mi_X6_least, rfl, (by decide +kernel), (by decide +kernel), ⟨gmem 1034 (by decide +kernel) (by decide +kernel), him_X6_least, hse_X6_least⟩⟩
theorem cl_8_80 : cOK 8 (80, 0, 71, 4) := fun _ => ⟨mi_X6_bound, rfl, (by decide +kernel), (by decide +kernel), ⟨gmem 1067 (by decide +kernel) (by decide +kernel), him_X6_bound, hse_X6_bound⟩⟩
theorem cl_8_83 : cOK 8 (83, 0, 72, 6) := fun _ => ⟨mi_X6_helps, rfl, (by decide +kernel), (by decide +kernel), ⟨gmem 1074 (by decide +kernel) (by decide +kernel), him_X6_helps, hse_X6_helps⟩⟩
theorem cl_8_86 : cOK 8 (86, 0, 73, 6) := fun _ => ⟨mi_X6_bell, rfl, (by decide +kernel), (by decide +kernel), ⟨gmem 1081 (by decide +kernel) (by decide +kernel), him_X6_bell, hse_X6_bell⟩⟩
theorem cl_8_89 : cOK 8 (89, 0, 74, 5) := fun _ => ⟨mi_X6_which, rfl, (by decide +kernel), (by decide +kernel), ⟨gmem 1105 (by decide +kernel) (by decide +kernel), him_X6_which, hse_X6_which⟩⟩
theorem cl_8_92 : cOK 8 (92, 0, 75, 5) := fun _ => ⟨mi_X6_saying, rfl, (by decide +kernel), (by decide +kernel), ⟨gmem 1120 (by decide +kernel) (by decide +kernel), him_X6_saying, hse_X6_saying⟩⟩
theorem cl_8_95 : cOK 8 (95, 0, 76, 3) := fun _ => ⟨mi_X6_tell, rfl, (by decide +kernel), (by decide +kernel), ⟨gmem 1130 (by decide +kernel) (by decide +kernel), him_X6_tell, hse_X6_tell⟩⟩
theorem cl_8_98 : cOK 8 (98, 0, 77, 6) := fun _ => ⟨mi_X6_bang, rfl, (by decide +kernel), (by decide +kernel), ⟨gmem 1137 (by decide +kernel) (by decide +kernel), him_X6_bang, hse_X6_bang⟩⟩
theorem cl_8_102 : cOK 8 (102, 0, 78, 2) := fun _ => ⟨mi_X6_click, rfl, (by decide +kernel), (by decide +kernel), ⟨gmem 1152 (by decide +kernel) (by decide +kernel), him_X6_click, hse_X6_click⟩⟩
theorem cl_8_105 : cOK 8 (105, 0, 79, 3) := fun _ => ⟨mi_X6_wagons, rfl, (by decide +kernel), (by decide +kernel), ⟨gmem 1167 (by decide +kernel) (by decide +kernel), him_X6_wagons, hse_X6_wagons⟩⟩
theorem cl_8_112 : cOK 8 (112, 0, 49, 6) := fun _ => ⟨mi_X6_feed, rfl, (by decide +kernel), (by decide +kernel), ⟨gmem 441 (by decide +kernel) (by decide +kernel), him_X6_feed, hse_X6_feed⟩⟩
theorem cl_8_115 : cOK 8 (115, 0, 120, 6) := fun _ => ⟨mi_X7_feed, rfl, (by decide +kernel), (by decide +kernel), ⟨gmem 1331 (by decide +kernel) (by decide +kernel), him_X7_feed, hse_X7_feed⟩⟩
theorem cl_8_116 : cOK 8 (116, 2, 201, 3) := fun _ => ⟨mi_L_land, rfl, (by decide +kernel), (by decide +kernel), ⟨gmem 514 (by decide +kernel) (by decide +kernel), hst_L_land⟩⟩
theorem cl_8_121 : cOK 8 (121, 0, 137, 2) := fun _ => ⟨mi_X7_land, rfl, (by decide +kernel), (by decide +kernel), ⟨gmem 1335 (by decide +kernel) (by decide +kernel), him_X7_land, hse_X7_land⟩⟩
theorem cl_8_122 : cOK 8 (122, 0, 117, 1) := fun _ => ⟨mi_X7_thrown, rfl, (by decide +kernel), (by decide +kernel), ⟨gmem 1327 (by decide +kernel) (by decide +kernel), him_X7_thrown, hse_X7_thrown⟩⟩
theorem cl_8_126 : cOK 8 (126, 2, 202, 3) := fun _ => ⟨mi_L_air, rfl, (by decide +kernel), (by decide +kernel), ⟨gmem 724 (by decide +kernel) (by decide +kernel), hst_L_air⟩⟩
theorem cl_8_128 : cOK 8 (128, 0, 139, 2) := fun _ => ⟨mi_X7_air, rfl, (by decide +kernel), (by decide +kernel), ⟨gmem 1410 (by decide +kernel) (by decide +kernel), him_X7_air, hse_X7_air⟩⟩
theorem cl_8_129 : cOK 8 (129, 0, 52, 1) := fun _ => ⟨mi_X6_fault, rfl, (by decide +kernel), (by decide +kernel), ⟨gmem 449 (by decide +kernel) (by decide +kernel), him_X6_fault, hse_X6_fault⟩⟩
theorem cl_8_132 : cOK 8 (132, 0, 140, 1) := fun _ => ⟨mi_X7_fault, rfl, (by decide +kernel), (by decide +kernel), ⟨gmem 1418 (by decide +kernel) (by decide +kernel), him_X7_fault, hse_X7_fault⟩⟩
theorem cl_8_133 : cOK 8 (133, 2, 203, 3) := fun _ => ⟨mi_L_told, rfl, (by decide +kernel), (by decide +kernel), ⟨gmem 751 (by decide +kernel) (by decide +kernel), hst_L_told⟩⟩
theorem cl_8_135 : cOK 8 (135, 0, 141, 2) := fun _ => ⟨mi_X7_told, rfl, (by decide +kernel), (by decide +kernel), ⟨gmem 1422 (by decide +kernel) (by decide +kernel), him_X7_told, hse_X7_told⟩⟩
theorem cl_8_136 : cOK 8 (136, 2, 204, 4) := fun _ => ⟨mi_L_cell, rfl, (by decide +kernel), (by decide +kernel), ⟨gmem 762 (by decide +kernel) (by decide +kernel), hst_L_cell⟩⟩
theorem cl_8_139 : cOK 8 (139, 0, 149, 3) := fun _ => ⟨mi_X7_cell, rfl, (by decide +kernel), (by decide +kernel), ⟨gmem 1426 (by decide +kernel) (by decide +kernel), him_X7_cell, hse_X7_cell⟩⟩
theorem cl_8_140 : cOK 8 (140, 2, 205, 3) := fun _ => ⟨mi_L_hum, rfl, (by decide +kernel), (by decide +kernel), ⟨gmem 790 (by decide +kernel) (by decide +kernel), hst_L_hum⟩⟩
theorem cl_8_142 : cOK 8 (142, 0, 151, 2) := fun _ => ⟨mi_X7_hum, rfl, (by decide +kernel), (by decide +kernel), ⟨gmem 1442 (by decide +kernel) (by decide +kernel), him_X7_hum, hse_X7_hum⟩⟩
theorem cl_8_143 : cOK 8 (143, 2, 206, 3) := fun _ => ⟨mi_L_ear, rfl, (by decide +kernel), (by decide +kernel), ⟨gmem 805 (by decide +kernel) (by decide +kernel), hst_L_ear⟩⟩
theorem cl_8_145 : cOK 8 (145, 0, 152, 2) := fun _ => ⟨mi_X7_ear, rfl, (by decide +kernel), (by decide +kernel), ⟨gmem 1453 (by decide +kernel) (by decide +kernel), him_X7_ear, hse_X7_ear⟩⟩
theorem cl_8_146 : cOK 8 (146, 2, 207, 3) := fun _ => ⟨mi_L_does, rfl, (by decide +kernel), (by decide +kernel), ⟨gmem 837 (by decide +kernel) (by decide +kernel), hst_L_does⟩⟩
theorem cl_8_148 : cOK 8 (148, 0, 154, 2) := fun _ => ⟨mi_X7_does, rfl, (by decide +kernel), (by decide +kernel), ⟨gmem 1461 (by decide +kernel) (by decide +kernel), him_X7_does, hse_X7_does⟩⟩
theorem cl_8_149 : cOK 8 (149, 2, 208, 7) := fun _ => ⟨mi_L_ray, rfl, (by decide +kernel), (by decide +kernel), ⟨gmem 855 (by decide +kernel) (by decide +kernel), hst_L_ray⟩⟩
theorem cl_8_152 : cOK 8 (152, 0, 166, 6) := fun _ => ⟨mi_X7_ray, rfl, (by decide +kernel), (by decide +kernel), ⟨gmem 1469 (by decide +kernel) (by decide +kernel), him_X7_ray, hse_X7_ray⟩⟩
theorem cl_8_153 : cOK 8 (153, 2, 209, 7) := fun _ => ⟨mi_L_left, rfl, (by decide +kernel), (by decide +kernel), ⟨gmem 901 (by decide +kernel) (by decide +kernel), hst_L_left⟩⟩
theorem cl_8_155 : cOK 8 (155, 0, 167, 6) := fun _ => ⟨mi_X7_left, rfl, (by decide +kernel), (by decide +kernel), ⟨gmem 1496 (by decide +kernel) (by decide +kernel), him_X7_left, hse_X7_left⟩⟩
theorem cl_8_156 : cOK 8 (156, 2, 210, 5) := fun _ => ⟨mi_L_loud, rfl, (by decide +kernel), (by decide +kernel), ⟨gmem 908 (by decide +kernel) (by decide +kernel), hst_L_loud⟩⟩
theorem cl_8_159 : cOK 8 (159, 0, 168, 4) := fun _ => ⟨mi_X7_loud, rfl, (by decide +kernel), (by decide +kernel), ⟨gmem 1500 (by decide +kernel) (by decide +kernel), him_X7_loud, hse_X7_loud⟩⟩
theorem cl_8_160 : cOK 8 (160, 2, 211, 5) := fun _ => ⟨mi_L_at, rfl, (by decide +kernel), (by decide +kernel), ⟨gmem 933 (by decide +kernel) (by decide +kernel), hst_L_at⟩⟩
theorem cl_8_162 : cOK 8 (162, 0, 169, 4) := fun _ => ⟨mi_X7_at, rfl, (by decide +kernel), (by decide +kernel), ⟨gmem 1512 (by decide +kernel) (by decide +kernel), him_X7_at, hse_X7_at⟩⟩
theorem cl_8_163 : cOK 8 (163, 2, 212, 4) := fun _ => ⟨mi_L_hears, rfl, (by decide +kernel), (by decide +kernel), ⟨gmem 950 (by decide +kernel) (by decide +kernel), hst_L_hears⟩⟩
theorem cl_8_165 : cOK 8 (165, 0, 170, 3) := fun _ => ⟨mi_X7_hears, rfl, (by decide +kernel), (by decide +kernel), ⟨gmem 1528 (by decide +kernel) (by decide +kernel), him_X7_hears, hse_X7_hears⟩⟩
theorem cl_8_166 : cOK 8 (166, 2, 213, 5) := fun _ => ⟨mi_L_zones, rfl, (by decide +kernel), (by decide +kernel), ⟨gmem 966 (by decide +kernel) (by decide +kernel), hst_L_zones⟩⟩
theorem cl_8_168 : cOK 8 (168, 0, 171, 4) := fun _ => ⟨mi_X7_zones, rfl, (by decide +kernel), (by decide +kernel), ⟨gmem 1540 (by decide +kernel) (by decide +kernel), him_X7_zones, hse_X7_zones⟩⟩
theorem cl_8_169 : cOK 8 (169, 2, 214, 5) := fun _ => ⟨mi_L_why, rfl, (by decide +kernel), (by decide +kernel), ⟨gmem 981 (by decide +kernel) (by decide +kernel), hst_L_why⟩⟩
theorem cl_8_171 : cOK 8 (171, 0, 172, 4) := fun _ => ⟨mi_X7_why, rfl, (by decide +kernel), (by decide +kernel), ⟨gmem 1544 (by decide +kernel) (by decide +kernel), him_X7_why, hse_X7_why⟩⟩
theorem cl_8_172 : cOK 8 (172, 2, 215, 5) := fun _ => ⟨mi_L_nights, rfl, (by decide +kernel), (by decide +kernel), ⟨gmem 988 (by decide +kernel) (by decide +kernel), hst_L_nights⟩⟩
theorem cl_8_174 : cOK 8 (174, 0, 173, 4) := fun _ => ⟨mi_X7_nights, rfl, (by decide +kernel), (by decide +kernel), ⟨gmem 1548 (by decide +kernel) (by decide +kernel), him_X7_nights, hse_X7_nights⟩⟩
theorem cl_8_175 : cOK 8 (175, 2, 216, 4) := fun _ => ⟨mi_L_wakes, rfl, (by decide +kernel), (by decide +kernel), ⟨gmem 995 (by decide +kernel) (by decide +kernel), hst_L_wakes⟩⟩
theorem cl_8_177 : cOK 8 (177, 0, 175, 3) := fun _ => ⟨mi_X7_wakes, rfl, (by decide +kernel), (by decide +kernel), ⟨gmem 1552 (by decide +kernel) (by decide +kernel), him_X7_wakes, hse_X7_wakes⟩⟩
theorem cl_8_178 : cOK 8 (178, 2, 217, 3) := fun _ => ⟨mi_L_badly, rfl, (by decide +kernel), (by decide +kernel), ⟨gmem 1006 (by decide +kernel) (by decide +kernel), hst_L_badly⟩⟩
theorem cl_8_180 : cOK 8 (180, 0, 176, 2) := fun _ => ⟨mi_X7_badly, rfl, (by decide +kernel), (by decide +kernel), ⟨gmem 1560 (by decide +kernel) (by decide +kernel), him_X7_badly, hse_X7_badly⟩⟩
theorem cl_8_181 : cOK 8 (181, 2, 218, 4) := fun _ => ⟨mi_L_mean, rfl, (by decide +kernel), (by decide +kernel), ⟨gmem 1013 (by decide +kernel) (by decide +kernel), hst_L_mean⟩⟩
theorem cl_8_183 : cOK 8 (183, 0, 178, 3) := fun _ => ⟨mi_X7_mean, rfl, (by decide +kernel), (by decide +kernel), ⟨gmem 1564 (by decide +kernel) (by decide +kernel), him_X7_mean, hse_X7_mean⟩⟩
theorem cl_8_184 : cOK 8 (184, 2, 219, 5) := fun _ => ⟨mi_L_hides, rfl, (by decide +kernel), (by decide +kernel), ⟨gmem 1024 (by decide +kernel) (by decide +kernel), hst_L_hides⟩⟩
theorem cl_8_186 : cOK 8 (186, 0, 179, 4) := fun _ => ⟨mi_X7_hides, rfl, (by decide +kernel), (by decide +kernel), ⟨gmem 1572 (by decide +kernel) (by decide +kernel), him_X7_hides, hse_X7_hides⟩⟩
theorem cl_8_187 : cOK 8 (187, 2, 220, 6) := fun _ => ⟨mi_L_least, rfl, (by decide +kernel), (by decide +kernel), ⟨gmem 1031 (by decide +kernel) (by decide +kernel), hst_L_least⟩⟩
theorem cl_8_190 : cOK 8 (190, 0, 182, 5) := fun _ => ⟨mi_X7_least, rfl, (by decide +kernel), (by decide +kernel), ⟨gmem 1576 (by decide +kernel) (by decide +kernel), him_X7_least, hse_X7_least⟩⟩
theorem cl_8_191 : cOK 8 (191, 2, 221, 5) := fun _ => ⟨mi_L_bound, rfl, (by decide +kernel), (by decide +kernel), ⟨gmem 1064 (by decide +kernel) (by decide +kernel), hst_L_bound⟩⟩
theorem cl_8_193 : cOK 8 (193, 0, 183, 4) := fun _ => ⟨mi_X7_bound, rfl, (by decide +kernel), (by decide +kernel), ⟨gmem 1588 (by decide +kernel) (by decide +kernel), him_X7_bound, hse_X7_bound⟩⟩
theorem cl_8_194 : cOK 8 (194, 2, 222, 7) := fun _ => ⟨mi_L_helps, rfl, (by decide +kernel), (by decide +kernel), ⟨gmem 1071 (by decide +kernel) (by decide +kernel), hst_L_helps⟩⟩
theorem cl_8_196 : cOK 8 (196, 0, 184, 6) := fun _ => ⟨mi_X7_helps, rfl, (by decide +kernel), (by decide +kernel), ⟨gmem 1592 (by decide +kernel) (by decide +kernel), him_X7_helps, hse_X7_helps⟩⟩
theorem cl_8_197 : cOK 8 (197, 2, 223, 7) := fun _ => ⟨mi_L_bell, rfl, (by decide +kernel), (by decide +kernel), ⟨gmem 1078 (by decide +kernel) (by decide +kernel), hst_L_bell⟩⟩
theorem cl_8_199 : cOK 8 (199, 0, 185, 6) := fun _ => ⟨mi_X7_bell, rfl, (by decide +kernel), (by decide +kernel), ⟨gmem 1596 (by decide +kernel) (by decide +kernel), him_X7_bell, hse_X7_bell⟩⟩
theorem cl_8_200 : cOK 8 (200, 2, 224, 6) := fun _ => ⟨mi_L_which, rfl, (by decide +kernel), (by decide +kernel), ⟨gmem 1102 (by decide +kernel) (by decide +kernel), hst_L_which⟩⟩
theorem cl_8_202 : cOK 8 (202, 0, 187, 5) := fun _ => ⟨mi_X7_which, rfl, (by decide +kernel), (by decide +kernel), ⟨gmem 1600 (by decide +kernel) (by decide +kernel), him_X7_which, hse_X7_which⟩⟩
theorem cl_8_203 : cOK 8 (203, 2, 225, 6) := fun _ => ⟨mi_L_saying, rfl, (by decide +kernel), (by decide +kernel), ⟨gmem 1117 (by decide +kernel) (by decide +kernel), hst_L_saying⟩⟩
theorem cl_8_205 : cOK 8 (205, 0, 188, 5) := fun _ => ⟨mi_X7_saying, rfl, (by decide +kernel), (by decide +kernel), ⟨gmem 1608 (by decide +kernel) (by decide +kernel), him_X7_saying, hse_X7_saying⟩⟩
theorem cl_8_206 : cOK 8 (206, 2, 226, 4) := fun _ => ⟨mi_L_tell, rfl, (by decide +kernel), (by decide +kernel), ⟨gmem 1127 (by decide +kernel) (by decide +kernel), hst_L_tell⟩⟩
theorem cl_8_208 : cOK 8 (208, 0, 189, 3) := fun _ => ⟨mi_X7_tell, rfl, (by decide +kernel), (by decide +kernel), ⟨gmem 1612 (by decide +kernel) (by decide +kernel), him_X7_tell, hse_X7_tell⟩⟩
theorem cl_8_209 : cOK 8 (209, 2, 227, 7) := fun _ => ⟨mi_L_bang, rfl, (by decide +kernel), (by decide +kernel), ⟨gmem 1134 (by decide +kernel) (by decide +kernel), hst_L_bang⟩⟩
theorem cl_8_211 : cOK 8 (211, 0, 191, 6) := fun _ => ⟨mi_X7_bang, rfl, (by decide +kernel), (by decide +kernel), ⟨gmem 1616 (by decide +kernel) (by decide +kernel), him_X7_bang, hse_X7_bang⟩⟩
theorem cl_8_212 : cOK 8 (212, 2, 228, 3) := fun _ => ⟨mi_L_click, rfl, (by decide +kernel), (by decide +kernel), ⟨gmem 1149 (by decide +kernel) (by decide +kernel), hst_L_click⟩⟩
theorem cl_8_214 : cOK 8 (214, 0, 192, 2) := fun _ => ⟨mi_X7_click, rfl, (by decide +kernel), (by decide +kernel), ⟨gmem 1626 (by decide +kernel) (by decide +kernel), him_X7_click, hse_X7_click⟩⟩
theorem cl_8_215 : cOK 8 (215, 2, 229, 4) := fun _ => ⟨mi_L_wagons, rfl, (by decide +kernel), (by decide +kernel), ⟨gmem 1164 (by decide +kernel) (by decide +kernel), hst_L_wagons⟩⟩
theorem cl_8_217 : cOK 8 (217, 0, 193, 3) := fun _ => ⟨mi_X7_wagons, rfl, (by decide +kernel), (by decide +kernel), ⟨gmem 1630 (by decide +kernel) (by decide +kernel), him_X7_wagons, hse_X7_wagons⟩⟩
theorem cl_8_218 : cOK 8 (218, 0, 80, 1) := fun _ => ⟨mi_X6_forget, rfl, (by decide +kernel), (by decide +kernel), ⟨gmem 453 (by decide +kernel) (by decide +kernel), him_X6_forget, hse_X6_forget⟩⟩
theorem cl_8_221 : cOK 8 (221, 0, 194, 1) := fun _ => ⟨mi_X7_forget, rfl, (by decide +kernel), (by decide +kernel), ⟨gmem 1634 (by decide +kernel) (by decide +kernel), him_X7_forget, hse_X7_forget⟩⟩
theorem cl_8_222 : cOK 8 (222, 0, 81, 1) := fun _ => ⟨mi_X6_image, rfl, (by decide +kernel), (by decide +kernel), ⟨gmem 457 (by decide +kernel) (by decide +kernel), him_X6_image, hse_X6_image⟩⟩
theorem cl_8_225 : cOK 8 (225, 0, 197, 1) := fun _ => ⟨mi_X7_image, rfl, (by decide +kernel), (by decide +kernel), ⟨gmem 1638 (by decide +kernel) (by decide +kernel), him_X7_image, hse_X7_image⟩⟩
theorem cl_8_226 : cOK 8 (226, 0, 82, 1) := fun _ => ⟨mi_X6_restore, rfl, (by decide +kernel), (by decide +kernel), ⟨gmem 468 (by decide +kernel) (by decide +kernel), him_X6_restore, hse_X6_restore⟩⟩
theorem cl_8_229 : cOK 8 (229, 0, 198, 1) := fun _ => ⟨mi_X7_restore, rfl, (by decide +kernel), (by decide +kernel), ⟨gmem 1650 (by decide +kernel) (by decide +kernel), him_X7_restore, hse_X7_restore⟩⟩
theorem cl_8_230 : cOK 8 (230, 0, 83, 2) := fun _ => ⟨mi_X6_status, rfl, (by decide +kernel), (by decide +kernel), ⟨gmem 506 (by decide +kernel) (by decide +kernel), him_X6_status, hse_X6_status⟩⟩
theorem cl_8_233 : cOK 8 (233, 0, 199, 2) := fun _ => ⟨mi_X7_status, rfl, (by decide +kernel), (by decide +kernel), ⟨gmem 1654 (by decide +kernel) (by decide +kernel), him_X7_status, hse_X7_status⟩⟩
theorem cl_8_234 : cOK 8 (234, 0, 84, 2) := fun _ => ⟨mi_X6_count, rfl, (by decide +kernel), (by decide +kernel), ⟨gmem 510 (by decide +kernel) (by decide +kernel), him_X6_count, hse_X6_count⟩⟩
theorem cl_8_237 : cOK 8 (237, 0, 200, 2) := fun _ => ⟨mi_X7_count, rfl, (by decide +kernel), (by decide +kernel), ⟨gmem 1658 (by decide +kernel) (by decide +kernel), him_X7_count, hse_X7_count⟩⟩
theorem fl_0_9 : fOK 0 (9, 0, 0) := ⟨_, rfl, by decide, Or.inl (gmem 378 (by decide +kernel) (by decide +kernel))⟩
theorem fl_0_21 : fOK 0 (21, 0, 1) := ⟨_, rfl, by decide, Or.inl (gmem 380 (by decide +kernel) (by decide +kernel))⟩
theorem fl_0_25 : fOK 0 (25, 0, 2) := ⟨_, rfl, by decide, Or.inl (gmem 382 (by decide +kernel) (by decide +kernel))⟩
theorem fl_0_28 : fOK 0 (28, 0, 3) := ⟨_, rfl, by decide, Or.inl (gmem 384 (by decide +kernel) (by decide +kernel))⟩
theorem fl_0_41 : fOK 0 (41, 5, 3) := ⟨_, rfl, by decide, Or.inr (nmem 160 (by decide +kernel) (by decide +kernel))⟩
theorem fl_0_54 : fOK 0 (54, 5, 4) := ⟨_, rfl, by decide, Or.inr (nmem 164 (by decide +kernel) (by decide +kernel))⟩
theorem fl_1_9 : fOK 1 (9, 1, 1) := ⟨_, rfl, by decide, Or.inl (gmem 200 (by decide +kernel) (by decide +kernel))⟩
theorem fl_1_15 : fOK 1 (15, 1, 2) := ⟨_, rfl, by decide, Or.inl (gmem 203 (by decide +kernel) (by decide +kernel))⟩
theorem fl_1_18 : fOK 1 (18, 1, 3) := ⟨_, rfl, by decide, Or.inl (gmem 206 (by decide +kernel) (by decide +kernel))⟩
theorem fl_1_21 : fOK 1 (21, 1, 5) := ⟨_, rfl, by decide, Or.inl (gmem 211 (by decide +kernel) (by decide +kernel))⟩
theorem fl_1_24 : fOK 1 (24, 1, 6) := ⟨_, rfl, by decide, Or.inl (gmem 213 (by decide +kernel) (by decide +kernel))⟩
theorem fl_1_27 : fOK 1 (27, 1, 7) := ⟨_, rfl, by decide, Or.inl (gmem 215 (by decide +kernel) (by decide +kernel))⟩
theorem fl_1_30 : fOK 1 (30, 1, 9) := ⟨_, rfl, by decide, Or.inl (gmem 219 (by decide +kernel) (by decide +kernel))⟩
theorem fl_1_33 : fOK 1 (33, 1, 10) := ⟨_, rfl, by decide, Or.inl (gmem 221 (by decide +kernel) (by decide +kernel))⟩
theorem fl_1_36 : fOK 1 (36, 1, 11) := ⟨_, rfl, by decide, Or.inl (gmem 223 (by decide +kernel) (by decide +kernel))⟩
theorem fl_1_39 : fOK 1 (39, 1, 12) := ⟨_, rfl, by decide, Or.inl (gmem 225 (by decide +kernel) (by decide +kernel))⟩
theorem fl_1_42 : fOK 1 (42, 1, 14) := ⟨_, rfl, by decide, Or.inl (gmem 228 (by decide +kernel) (by decide +kernel))⟩
theorem fl_1_45 : fOK 1 (45, 1, 15) := ⟨_, rfl, by decide, Or.inl (gmem 229 (by decide +kernel) (by decide +kernel))⟩
theorem fl_1_48 : fOK 1 (48, 1, 16) := ⟨_, rfl, by decide, Or.inl (gmem 230 (by decide +kernel) (by decide +kernel))⟩
theorem fl_1_51 : fOK 1 (51, 1, 17) := ⟨_, rfl, by decide, Or.inl (gmem 231 (by decide +kernel) (by decide +kernel))⟩
theorem fl_1_57 : fOK 1 (57, 1, 0) := ⟨_, rfl, by decide, Or.inl (gmem 196 (by decide +kernel) (by decide +kernel))⟩
theorem fl_1_67 : fOK 1 (67, 1, 4) := ⟨_, rfl, by decide, Or.inl (gmem 209 (by decide +kernel) (by decide +kernel))⟩
theorem fl_1_70 : fOK 1 (70, 1, 8) := ⟨_, rfl, by decide, Or.inl (gmem 216 (by decide +kernel) (by decide +kernel))⟩
theorem fl_1_73 : fOK 1 (73, 1, 13) := ⟨_, rfl, by decide, Or.inl (gmem 226 (by decide +kernel) (by decide +kernel))⟩
theorem fl_1_102 : fOK 1 (102, 5, 3) := ⟨_, rfl, by decide, Or.inr (nmem 162 (by decide +kernel) (by decide +kernel))⟩
theorem fl_1_119 : fOK 1 (119, 5, 4) := ⟨_, rfl, by decide, Or.inr (nmem 166 (by decide +kernel) (by decide +kernel))⟩
theorem fl_2_9 : fOK 2 (9, 2, 0) := ⟨_, rfl, by decide, Or.inl (gmem 282 (by decide +kernel) (by decide +kernel))⟩
theorem fl_2_15 : fOK 2 (15, 2, 2) := ⟨_, rfl, by decide, Or.inl (gmem 286 (by decide +kernel) (by decide +kernel))⟩
theorem fl_2_18 : fOK 2 (18, 2, 3) := ⟨_, rfl, by decide, Or.inl (gmem 288 (by decide +kernel) (by decide +kernel))⟩
theorem fl_2_24 : fOK 2 (24, 2, 1) := ⟨_, rfl, by decide, Or.inl (gmem 284 (by decide +kernel) (by decide +kernel))⟩
theorem fl_2_34 : fOK 2 (34, 2, 4) := ⟨_, rfl, by decide, Or.inl (gmem 290 (by decide +kernel) (by decide +kernel))⟩
theorem fl_3_9 : fOK 3 (9, 3, 0) := ⟨_, rfl, by decide, Or.inl (gmem 316 (by decide +kernel) (by decide +kernel))⟩
theorem fl_3_15 : fOK 3 (15, 3, 1) := ⟨_, rfl, by decide, Or.inl (gmem 318 (by decide +kernel) (by decide +kernel))⟩
theorem fl_3_18 : fOK 3 (18, 3, 2) := ⟨_, rfl, by decide, Or.inl (gmem 319 (by decide +kernel) (by decide +kernel))⟩
theorem fl_3_21 : fOK 3 (21, 3, 3) := ⟨_, rfl, by decide, Or.inl (gmem 321 (by decide +kernel) (by decide +kernel))⟩
theorem fl_3_24 : fOK 3 (24, 1, 9) := ⟨_, rfl, by decide, Or.inr (nmem 220 (by decide +kernel) (by decide +kernel))⟩
theorem fl_3_30 : fOK 3 (30, 1, 10) := ⟨_, rfl, by decide, Or.inr (nmem 222 (by decide +kernel) (by decide +kernel))⟩
theorem fl_3_33 : fOK 3 (33, 1, 11) := ⟨_, rfl, by decide, Or.inr (nmem 224 (by decide +kernel) (by decide +kernel))⟩
theorem fl_3_40 : fOK 3 (40, 3, 4) := ⟨_, rfl, by decide, Or.inl (gmem 322 (by decide +kernel) (by decide +kernel))⟩
theorem fl_3_43 : fOK 3 (43, 3, 5) := ⟨_, rfl, by decide, Or.inl (gmem 323 (by decide +kernel) (by decide +kernel))⟩
theorem fl_3_46 : fOK 3 (46, 3, 6) := ⟨_, rfl, by decide, Or.inl (gmem 325 (by decide +kernel) (by decide +kernel))⟩
theorem fl_3_49 : fOK 3 (49, 1, 2) := ⟨_, rfl, by decide, Or.inr (nmem 204 (by decide +kernel) (by decide +kernel))⟩
theorem fl_3_52 : fOK 3 (52, 3, 7) := ⟨_, rfl, by decide, Or.inl (gmem 326 (by decide +kernel) (by decide +kernel))⟩
theorem fl_3_55 : fOK 3 (55, 3, 8) := ⟨_, rfl, by decide, Or.inl (gmem 328 (by decide +kernel) (by decide +kernel))⟩
theorem fl_3_58 : fOK 3 (58, 3, 9) := ⟨_, rfl, by decide, Or.inl (gmem 329 (by decide +kernel) (by decide +kernel))⟩
theorem fl_3_61 : fOK 3 (61, 1, 0) := ⟨_, rfl, by decide, Or.inr (nmem 197 (by decide +kernel) (by decide +kernel))⟩
theorem fl_3_73 : fOK 3 (73, 1, 1) := ⟨_, rfl, by decide, Or.inr (nmem 201 (by decide +kernel) (by decide +kernel))⟩
theorem fl_3_76 : fOK 3 (76, 1, 3) := ⟨_, rfl, by decide, Or.inr (nmem 207 (by decide +kernel) (by decide +kernel))⟩
theorem fl_3_79 : fOK 3 (79, 0, 0) := ⟨_, rfl, by decide, Or.inr (nmem 379 (by decide +kernel) (by decide +kernel))⟩
theorem fl_3_88 : fOK 3 (88, 0, 1) := ⟨_, rfl, by decide, Or.inr (nmem 381 (by decide +kernel) (by decide +kernel))⟩
theorem fl_4_12 : fOK 4 (12, 4, 0) := ⟨_, rfl, by decide, Or.inl (gmem 355 (by decide +kernel) (by decide +kernel))⟩
theorem fl_4_20 : fOK 4 (20, 4, 1) := ⟨_, rfl, by decide, Or.inl (gmem 357 (by decide +kernel) (by decide +kernel))⟩
theorem fl_4_23 : fOK 4 (23, 4, 2) := ⟨_, rfl, by decide, Or.inl (gmem 358 (by decide +kernel) (by decide +kernel))⟩
theorem fl_4_27 : fOK 4 (27, 4, 3) := ⟨_, rfl, by decide, Or.inl (gmem 359 (by decide +kernel) (by decide +kernel))⟩
theorem fl_4_31 : fOK 4 (31, 4, 4) := ⟨_, rfl, by decide, Or.inl (gmem 360 (by decide +kernel) (by decide +kernel))⟩
theorem fl_4_52 : fOK 4 (52, 1, 8) := ⟨_, rfl, by decide, Or.inr (nmem 217 (by decide +kernel) (by decide +kernel))⟩
theorem fl_4_62 : fOK 4 (62, 1, 0) := ⟨_, rfl, by decide, Or.inr (nmem 198 (by decide +kernel) (by decide +kernel))⟩
theorem fl_4_71 : fOK 4 (71, 3, 2) := ⟨_, rfl, by decide, Or.inr (nmem 320 (by decide +kernel) (by decide +kernel))⟩
theorem fl_4_74 : fOK 4 (74, 3, 0) := ⟨_, rfl, by decide, Or.inr (nmem 317 (by decide +kernel) (by decide +kernel))⟩
theorem fl_4_89 : fOK 4 (89, 3, 5) := ⟨_, rfl, by decide, Or.inr (nmem 324 (by decide +kernel) (by decide +kernel))⟩
theorem fl_4_92 : fOK 4 (92, 3, 9) := ⟨_, rfl, by decide, Or.inr (nmem 330 (by decide +kernel) (by decide +kernel))⟩
theorem fl_5_9 : fOK 5 (9, 5, 0) := ⟨_, rfl, by decide, Or.inl (gmem 156 (by decide +kernel) (by decide +kernel))⟩
theorem fl_5_15 : fOK 5 (15, 5, 5) := ⟨_, rfl, by decide, Or.inl (gmem 167 (by decide +kernel) (by decide +kernel))⟩
theorem fl_5_19 : fOK 5 (19, 5, 1) := ⟨_, rfl, by decide, Or.inl (gmem 158 (by decide +kernel) (by decide +kernel))⟩
theorem fl_5_28 : fOK 5 (28, 5, 2) := ⟨_, rfl, by decide, Or.inl (gmem 159 (by decide +kernel) (by decide +kernel))⟩
theorem fl_5_31 : fOK 5 (31, 5, 3) := ⟨_, rfl, by decide, Or.inl (gmem 161 (by decide +kernel) (by decide +kernel))⟩
theorem fl_5_34 : fOK 5 (34, 5, 4) := ⟨_, rfl, by decide, Or.inl (gmem 163 (by decide +kernel) (by decide +kernel))⟩
theorem fl_6_10 : fOK 6 (10, 6, 0) := ⟨_, rfl, by decide, Or.inl (gmem 395 (by decide +kernel) (by decide +kernel))⟩
theorem fl_6_19 : fOK 6 (19, 6, 1) := ⟨_, rfl, by decide, Or.inl (gmem 396 (by decide +kernel) (by decide +kernel))⟩
theorem fl_6_23 : fOK 6 (23, 6, 2) := ⟨_, rfl, by decide, Or.inl (gmem 397 (by decide +kernel) (by decide +kernel))⟩
theorem fl_6_26 : fOK 6 (26, 6, 3) := ⟨_, rfl, by decide, Or.inl (gmem 398 (by decide +kernel) (by decide +kernel))⟩
theorem fl_6_29 : fOK 6 (29, 6, 4) := ⟨_, rfl, by decide, Or.inl (gmem 399 (by decide +kernel) (by decide +kernel))⟩
theorem fl_6_34 : fOK 6 (34, 6, 5) := ⟨_, rfl, by decide, Or.inl (gmem 400 (by decide +kernel) (by decide +kernel))⟩
theorem fl_6_41 : fOK 6 (41, 6, 7) := ⟨_, rfl, by decide, Or.inl (gmem 402 (by decide +kernel) (by decide +kernel))⟩
theorem fl_6_45 : fOK 6 (45, 6, 8) := ⟨_, rfl, by decide, Or.inl (gmem 403 (by decide +kernel) (by decide +kernel))⟩
theorem fl_6_52 : fOK 6 (52, 6, 10) := ⟨_, rfl, by decide, Or.inl (gmem 405 (by decide +kernel) (by decide +kernel))⟩
theorem fl_6_56 : fOK 6 (56, 6, 11) := ⟨_, rfl, by decide, Or.inl (gmem 406 (by decide +kernel) (by decide +kernel))⟩
theorem fl_6_60 : fOK 6 (60, 6, 12) := ⟨_, rfl, by decide, Or.inl (gmem 407 (by decide +kernel) (by decide +kernel))⟩
theorem fl_6_64 : fOK 6 (64, 6, 13) := ⟨_, rfl, by decide, Or.inl (gmem 408 (by decide +kernel) (by decide +kernel))⟩
theorem fl_6_67 : fOK 6 (67, 6, 14) := ⟨_, rfl, by decide, Or.inl (gmem 409 (by decide +kernel) (by decide +kernel))⟩
theorem fl_6_71 : fOK 6 (71, 5, 1) := ⟨_, rfl, by decide, Or.inr (nmem 157 (by decide +kernel) (by decide +kernel))⟩
theorem fl_6_89 : fOK 6 (89, 5, 4) := ⟨_, rfl, by decide, Or.inr (nmem 165 (by decide +kernel) (by decide +kernel))⟩
theorem fl_6_95 : fOK 6 (95, 6, 9) := ⟨_, rfl, by decide, Or.inl (gmem 404 (by decide +kernel) (by decide +kernel))⟩
theorem fl_6_101 : fOK 6 (101, 1, 4) := ⟨_, rfl, by decide, Or.inr (nmem 210 (by decide +kernel) (by decide +kernel))⟩
theorem fl_6_110 : fOK 6 (110, 6, 6) := ⟨_, rfl, by decide, Or.inl (gmem 401 (by decide +kernel) (by decide +kernel))⟩
theorem fl_6_114 : fOK 6 (114, 5, 5) := ⟨_, rfl, by decide, Or.inr (nmem 168 (by decide +kernel) (by decide +kernel))⟩
theorem fl_6_121 : fOK 6 (121, 1, 0) := ⟨_, rfl, by decide, Or.inr (nmem 199 (by decide +kernel) (by decide +kernel))⟩
theorem fl_6_124 : fOK 6 (124, 1, 8) := ⟨_, rfl, by decide, Or.inr (nmem 218 (by decide +kernel) (by decide +kernel))⟩
theorem fl_6_127 : fOK 6 (127, 1, 13) := ⟨_, rfl, by decide, Or.inr (nmem 227 (by decide +kernel) (by decide +kernel))⟩
theorem fl_6_133 : fOK 6 (133, 1, 1) := ⟨_, rfl, by decide, Or.inr (nmem 202 (by decide +kernel) (by decide +kernel))⟩
theorem fl_6_136 : fOK 6 (136, 1, 2) := ⟨_, rfl, by decide, Or.inr (nmem 205 (by decide +kernel) (by decide +kernel))⟩
theorem fl_6_139 : fOK 6 (139, 1, 3) := ⟨_, rfl, by decide, Or.inr (nmem 208 (by decide +kernel) (by decide +kernel))⟩
theorem fl_6_152 : fOK 6 (152, 1, 6) := ⟨_, rfl, by decide, Or.inr (nmem 214 (by decide +kernel) (by decide +kernel))⟩
theorem fl_6_183 : fOK 6 (183, 4, 0) := ⟨_, rfl, by decide, Or.inr (nmem 356 (by decide +kernel) (by decide +kernel))⟩
theorem fl_6_187 : fOK 6 (187, 3, 7) := ⟨_, rfl, by decide, Or.inr (nmem 327 (by decide +kernel) (by decide +kernel))⟩
theorem fl_6_192 : fOK 6 (192, 3, 9) := ⟨_, rfl, by decide, Or.inr (nmem 331 (by decide +kernel) (by decide +kernel))⟩
theorem fl_6_220 : fOK 6 (220, 0, 2) := ⟨_, rfl, by decide, Or.inr (nmem 383 (by decide +kernel) (by decide +kernel))⟩
theorem fl_6_229 : fOK 6 (229, 1, 5) := ⟨_, rfl, by decide, Or.inr (nmem 212 (by decide +kernel) (by decide +kernel))⟩
theorem fl_6_272 : fOK 6 (272, 0, 3) := ⟨_, rfl, by decide, Or.inr (nmem 385 (by decide +kernel) (by decide +kernel))⟩
theorem fl_6_278 : fOK 6 (278, 2, 2) := ⟨_, rfl, by decide, Or.inr (nmem 287 (by decide +kernel) (by decide +kernel))⟩
theorem fl_6_291 : fOK 6 (291, 2, 4) := ⟨_, rfl, by decide, Or.inr (nmem 291 (by decide +kernel) (by decide +kernel))⟩
theorem fl_6_303 : fOK 6 (303, 2, 1) := ⟨_, rfl, by decide, Or.inr (nmem 285 (by decide +kernel) (by decide +kernel))⟩
theorem fl_6_323 : fOK 6 (323, 2, 0) := ⟨_, rfl, by decide, Or.inr (nmem 283 (by decide +kernel) (by decide +kernel))⟩
theorem fl_6_354 : fOK 6 (354, 2, 3) := ⟨_, rfl, by decide, Or.inr (nmem 289 (by decide +kernel) (by decide +kernel))⟩
theorem fl_7_9 : fOK 7 (9, 7, 3) := ⟨_, rfl, by decide, Or.inl (gmem 1185 (by decide +kernel) (by decide +kernel))⟩
theorem fl_7_13 : fOK 7 (13, 7, 8) := ⟨_, rfl, by decide, Or.inl (gmem 1190 (by decide +kernel) (by decide +kernel))⟩
theorem fl_7_17 : fOK 7 (17, 7, 9) := ⟨_, rfl, by decide, Or.inl (gmem 1191 (by decide +kernel) (by decide +kernel))⟩
theorem fl_7_20 : fOK 7 (20, 7, 10) := ⟨_, rfl, by decide, Or.inl (gmem 1192 (by decide +kernel) (by decide +kernel))⟩
theorem fl_7_23 : fOK 7 (23, 7, 11) := ⟨_, rfl, by decide, Or.inl (gmem 1193 (by decide +kernel) (by decide +kernel))⟩
theorem fl_7_26 : fOK 7 (26, 7, 12) := ⟨_, rfl, by decide, Or.inl (gmem 1194 (by decide +kernel) (by decide +kernel))⟩
theorem fl_7_29 : fOK 7 (29, 7, 13) := ⟨_, rfl, by decide, Or.inl (gmem 1195 (by decide +kernel) (by decide +kernel))⟩
theorem fl_7_32 : fOK 7 (32, 7, 14) := ⟨_, rfl, by decide, Or.inl (gmem 1196 (by decide +kernel) (by decide +kernel))⟩
theorem fl_7_35 : fOK 7 (35, 7, 15) := ⟨_, rfl, by decide, Or.inl (gmem 1197 (by decide +kernel) (by decide +kernel))⟩
theorem fl_7_38 : fOK 7 (38, 7, 16) := ⟨_, rfl, by decide, Or.inl (gmem 1198 (by decide +kernel) (by decide +kernel))⟩
theorem fl_7_41 : fOK 7 (41, 7, 17) := ⟨_, rfl, by decide, Or.inl (gmem 1199 (by decide +kernel) (by decide +kernel))⟩
theorem fl_7_44 : fOK 7 (44, 7, 18) := ⟨_, rfl, by decide, Or.inl (gmem 1200 (by decide +kernel) (by decide +kernel))⟩
theorem fl_7_47 : fOK 7 (47, 7, 19) := ⟨_, rfl, by decide, Or.inl (gmem 1201 (by decide +kernel) (by decide +kernel))⟩
theorem fl_7_52 : fOK 7 (52, 7, 20) := ⟨_, rfl, by decide, Or.inl (gmem 1202 (by decide +kernel) (by decide +kernel))⟩
theorem fl_7_55 : fOK 7 (55, 7, 21) := ⟨_, rfl, by decide, Or.inl (gmem 1203 (by decide +kernel) (by decide +kernel))⟩
theorem fl_7_58 : fOK 7 (58, 7, 22) := ⟨_, rfl, by decide, Or.inl (gmem 1204 (by decide +kernel) (by decide +kernel))⟩
theorem fl_7_61 : fOK 7 (61, 7, 23) := ⟨_, rfl, by decide, Or.inl (gmem 1205 (by decide +kernel) (by decide +kernel))⟩
theorem fl_7_64 : fOK 7 (64, 7, 24) := ⟨_, rfl, by decide, Or.inl (gmem 1206 (by decide +kernel) (by decide +kernel))⟩
theorem fl_7_67 : fOK 7 (67, 7, 25) := ⟨_, rfl, by decide, Or.inl (gmem 1207 (by decide +kernel) (by decide +kernel))⟩
theorem fl_7_70 : fOK 7 (70, 7, 27) := ⟨_, rfl, by decide, Or.inl (gmem 1209 (by decide +kernel) (by decide +kernel))⟩
theorem fl_7_73 : fOK 7 (73, 7, 28) := ⟨_, rfl, by decide, Or.inl (gmem 1210 (by decide +kernel) (by decide +kernel))⟩
theorem fl_7_76 : fOK 7 (76, 7, 33) := ⟨_, rfl, by decide, Or.inl (gmem 1215 (by decide +kernel) (by decide +kernel))⟩
theorem fl_7_79 : fOK 7 (79, 7, 34) := ⟨_, rfl, by decide, Or.inl (gmem 1216 (by decide +kernel) (by decide +kernel))⟩
theorem fl_7_82 : fOK 7 (82, 7, 35) := ⟨_, rfl, by decide, Or.inl (gmem 1217 (by decide +kernel) (by decide +kernel))⟩
theorem fl_7_85 : fOK 7 (85, 7, 36) := ⟨_, rfl, by decide, Or.inl (gmem 1218 (by decide +kernel) (by decide +kernel))⟩
theorem fl_7_88 : fOK 7 (88, 7, 37) := ⟨_, rfl, by decide, Or.inl (gmem 1219 (by decide +kernel) (by decide +kernel))⟩
theorem fl_7_91 : fOK 7 (91, 7, 38) := ⟨_, rfl, by decide, Or.inl (gmem 1220 (by decide +kernel) (by decide +kernel))⟩
theorem fl_7_94 : fOK 7 (94, 7, 39) := ⟨_, rfl, by decide, Or.inl (gmem 1221 (by decide +kernel) (by decide +kernel))⟩
theorem fl_7_97 : fOK 7 (97, 7, 40) := ⟨_, rfl, by decide, Or.inl (gmem 1222 (by decide +kernel) (by decide +kernel))⟩
theorem fl_7_100 : fOK 7 (100, 7, 41) := ⟨_, rfl, by decide, Or.inl (gmem 1223 (by decide +kernel) (by decide +kernel))⟩
theorem fl_7_103 : fOK 7 (103, 7, 42) := ⟨_, rfl, by decide, Or.inl (gmem 1224 (by decide +kernel) (by decide +kernel))⟩
theorem fl_7_106 : fOK 7 (106, 7, 43) := ⟨_, rfl, by decide, Or.inl (gmem 1225 (by decide +kernel) (by decide +kernel))⟩
theorem fl_7_109 : fOK 7 (109, 7, 44) := ⟨_, rfl, by decide, Or.inl (gmem 1226 (by decide +kernel) (by decide +kernel))⟩
theorem fl_7_112 : fOK 7 (112, 7, 45) := ⟨_, rfl, by decide, Or.inl (gmem 1227 (by decide +kernel) (by decide +kernel))⟩
theorem fl_7_115 : fOK 7 (115, 7, 0) := ⟨_, rfl, by decide, Or.inl (gmem 1182 (by decide +kernel) (by decide +kernel))⟩
theorem fl_7_118 : fOK 7 (118, 7, 1) := ⟨_, rfl, by decide, Or.inl (gmem 1183 (by decide +kernel) (by decide +kernel))⟩
theorem fl_7_121 : fOK 7 (121, 7, 2) := ⟨_, rfl, by decide, Or.inl (gmem 1184 (by decide +kernel) (by decide +kernel))⟩
theorem fl_7_124 : fOK 7 (124, 7, 4) := ⟨_, rfl, by decide, Or.inl (gmem 1186 (by decide +kernel) (by decide +kernel))⟩
theorem fl_7_131 : fOK 7 (131, 7, 5) := ⟨_, rfl, by decide, Or.inl (gmem 1187 (by decide +kernel) (by decide +kernel))⟩
theorem fl_7_134 : fOK 7 (134, 7, 6) := ⟨_, rfl, by decide, Or.inl (gmem 1188 (by decide +kernel) (by decide +kernel))⟩
theorem fl_7_161 : fOK 7 (161, 7, 7) := ⟨_, rfl, by decide, Or.inl (gmem 1189 (by decide +kernel) (by decide +kernel))⟩
theorem fl_7_202 : fOK 7 (202, 7, 29) := ⟨_, rfl, by decide, Or.inl (gmem 1211 (by decide +kernel) (by decide +kernel))⟩
theorem fl_7_205 : fOK 7 (205, 7, 30) := ⟨_, rfl, by decide, Or.inl (gmem 1212 (by decide +kernel) (by decide +kernel))⟩
theorem fl_7_208 : fOK 7 (208, 7, 31) := ⟨_, rfl, by decide, Or.inl (gmem 1213 (by decide +kernel) (by decide +kernel))⟩
theorem fl_7_211 : fOK 7 (211, 7, 26) := ⟨_, rfl, by decide, Or.inl (gmem 1208 (by decide +kernel) (by decide +kernel))⟩
theorem fl_7_288 : fOK 7 (288, 7, 46) := ⟨_, rfl, by decide, Or.inl (gmem 1228 (by decide +kernel) (by decide +kernel))⟩
theorem fl_7_291 : fOK 7 (291, 7, 47) := ⟨_, rfl, by decide, Or.inl (gmem 1229 (by decide +kernel) (by decide +kernel))⟩
theorem fl_7_310 : fOK 7 (310, 7, 32) := ⟨_, rfl, by decide, Or.inl (gmem 1214 (by decide +kernel) (by decide +kernel))⟩
theorem kc_1_150 : Cond.constant (clsN 1) 150 (16777215) ∈ gTb := gmem 718 (by decide +kernel) (by decide +kernel)
theorem kc_5_62 : Cond.constant (clsN 5) 62 (99999999) ∈ gTb := gmem 693 (by decide +kernel) (by decide +kernel)
theorem kc_7_148 : Cond.constant (clsN 7) 148 (100000000) ∈ gTb := gmem 1396 (by decide +kernel) (by decide +kernel)
theorem kc_7_181 : Cond.constant (clsN 7) 181 (16777215) ∈ gTb := gmem 1397 (by decide +kernel) (by decide +kernel)
theorem kc_7_304 : Cond.constant (clsN 7) 304 (-1000000) ∈ gTb := gmem 1624 (by decide +kernel) (by decide +kernel)
theorem kc_7_305 : Cond.constant (clsN 7) 305 (1000000) ∈ gTb := gmem 1625 (by decide +kernel) (by decide +kernel)
theorem cls_M_0 : ∀ q ∈ (cp_0).2.1, cOK 0 q := List.forall_mem_cons.mpr ⟨cl_0_15, List.forall_mem_cons.mpr ⟨cl_0_31, List.forall_mem_cons.mpr ⟨cl_0_37, List.forall_mem_cons.mpr ⟨cl_0_46, List.forall_mem_cons.mpr ⟨cl_0_50, List.forall_mem_cons.mpr ⟨cl_0_57, List.forall_mem_cons.mpr ⟨cl_0_61, List.forall_mem_cons.mpr ⟨cl_0_65, List.forall_mem_nil _⟩⟩⟩⟩⟩⟩⟩⟩
theorem cls_M_1 : ∀ q ∈ (cp_1).2.1, cOK 1 q := List.forall_mem_cons.mpr ⟨cl_1_54, List.forall_mem_cons.mpr ⟨cl_1_61, List.forall_mem_cons.mpr ⟨cl_1_76, List.forall_mem_cons.mpr ⟨cl_1_80, List.forall_mem_cons.mpr ⟨cl_1_86, List.forall_mem_cons.mpr ⟨cl_1_92, List.forall_mem_cons.mpr ⟨cl_1_98, List.forall_mem_cons.mpr ⟨cl_1_107, List.forall_mem_cons.mpr ⟨cl_1_111, List.forall_mem_cons.mpr ⟨cl_1_115, List.forall_mem_cons.mpr ⟨cl_1_122, List.forall_mem_cons.mpr ⟨cl_1_126, List.forall_mem_cons.mpr ⟨cl_1_129, List.forall_mem_cons.mpr ⟨cl_1_132, List.forall_mem_cons.mpr ⟨cl_1_135, List.forall_mem_cons.mpr ⟨cl_1_138, List.forall_mem_cons.mpr ⟨cl_1_141, List.forall_mem_cons.mpr ⟨cl_1_144, List.forall_mem_cons.mpr ⟨cl_1_147, List.forall_mem_cons.mpr ⟨cl_1_151, List.forall_mem_cons.mpr ⟨cl_1_154, List.forall_mem_cons.mpr ⟨cl_1_157, List.forall_mem_cons.mpr ⟨cl_1_161, List.forall_mem_nil _⟩⟩⟩⟩⟩⟩⟩⟩⟩⟩⟩⟩⟩⟩⟩⟩⟩⟩⟩⟩⟩⟩⟩
theorem cls_M_2 : ∀ q ∈ (cp_2).2.1, cOK 2 q := List.forall_mem_cons.mpr ⟨cl_2_28, List.forall_mem_cons.mpr ⟨cl_2_37, List.forall_mem_nil _⟩⟩
theorem cls_M_3 : ∀ q ∈ (cp_3).2.1, cOK 3 q := List.forall_mem_cons.mpr ⟨cl_3_36, List.forall_mem_cons.mpr ⟨cl_3_64, List.forall_mem_cons.mpr ⟨cl_3_84, List.forall_mem_cons.mpr ⟨cl_3_91, List.forall_mem_nil _⟩⟩⟩⟩
theorem cls_M_4 : ∀ q ∈ (cp_4).2.1, cOK 4 q := List.forall_mem_cons.mpr ⟨cl_4_34, List.forall_mem_cons.mpr ⟨cl_4_38, List.forall_mem_cons.mpr ⟨cl_4_42, List.forall_mem_cons.mpr ⟨cl_4_46, List.forall_mem_cons.mpr ⟨cl_4_58, List.forall_mem_cons.mpr ⟨cl_4_65, List.forall_mem_cons.mpr ⟨cl_4_77, List.forall_mem_cons.mpr ⟨cl_4_81, List.forall_mem_cons.mpr ⟨cl_4_85, List.forall_mem_nil _⟩⟩⟩⟩⟩⟩⟩⟩⟩
theorem cls_M_5 : ∀ q ∈ (cp_5).2.1, cOK 5 q := List.forall_mem_cons.mpr ⟨cl_5_22, List.forall_mem_cons.mpr ⟨cl_5_37, List.forall_mem_cons.mpr ⟨cl_5_41, List.forall_mem_cons.mpr ⟨cl_5_44, List.forall_mem_cons.mpr ⟨cl_5_50, List.forall_mem_cons.mpr ⟨cl_5_54, List.forall_mem_cons.mpr ⟨cl_5_58, List.forall_mem_nil _⟩⟩⟩⟩⟩⟩⟩
theorem cls_M_6 : ∀ q ∈ (cp_6).2.1, cOK 6 q := List.forall_mem_cons.mpr ⟨cl_6_74, List.forall_mem_cons.mpr ⟨cl_6_78, List.forall_mem_cons.mpr ⟨cl_6_82, List.forall_mem_cons.mpr ⟨cl_6_85, List.forall_mem_cons.mpr ⟨cl_6_92, List.forall_mem_cons.mpr ⟨cl_6_98, List.forall_mem_cons.mpr ⟨cl_6_104, List.forall_mem_cons.mpr ⟨cl_6_113, List.forall_mem_cons.mpr ⟨cl_6_117, List.forall_mem_cons.mpr ⟨cl_6_130, List.forall_mem_cons.mpr ⟨cl_6_142, List.forall_mem_cons.mpr ⟨cl_6_145, List.forall_mem_cons.mpr ⟨cl_6_149, List.forall_mem_cons.mpr ⟨cl_6_155, List.forall_mem_cons.mpr ⟨cl_6_158, List.forall_mem_cons.mpr ⟨cl_6_162, List.forall_mem_cons.mpr ⟨cl_6_166, List.forall_mem_cons.mpr ⟨cl_6_169, List.forall_mem_cons.mpr ⟨cl_6_172, List.forall_mem_cons.mpr ⟨cl_6_175, List.forall_mem_cons.mpr ⟨cl_6_179, List.forall_mem_cons.mpr ⟨cl_6_195, List.forall_mem_cons.mpr ⟨cl_6_198, List.forall_mem_cons.mpr ⟨cl_6_201, List.forall_mem_cons.mpr ⟨cl_6_205, List.forall_mem_cons.mpr ⟨cl_6_209, List.forall_mem_cons.mpr ⟨cl_6_213, List.forall_mem_cons.mpr ⟨cl_6_217, List.forall_mem_cons.mpr ⟨cl_6_223, List.forall_mem_cons.mpr ⟨cl_6_226, List.forall_mem_cons.mpr ⟨cl_6_232, List.forall_mem_cons.mpr ⟨cl_6_235, List.forall_mem_cons.mpr ⟨cl_6_238, List.forall_mem_cons.mpr ⟨cl_6_241, List.forall_mem_cons.mpr ⟨cl_6_244, List.forall_mem_cons.mpr ⟨cl_6_248, List.forall_mem_cons.mpr ⟨cl_6_252, List.forall_mem_cons.mpr ⟨cl_6_256, List.forall_mem_cons.mpr ⟨cl_6_260, List.forall_mem_cons.mpr ⟨cl_6_264, List.forall_mem_cons.mpr ⟨cl_6_268, List.forall_mem_cons.mpr ⟨cl_6_275, List.forall_mem_cons.mpr ⟨cl_6_281, List.forall_mem_cons.mpr ⟨cl_6_284, List.forall_mem_cons.mpr ⟨cl_6_288, List.forall_mem_cons.mpr ⟨cl_6_294, List.forall_mem_cons.mpr ⟨cl_6_297, List.forall_mem_cons.mpr ⟨cl_6_300, List.forall_mem_cons.mpr ⟨cl_6_326, List.forall_mem_cons.mpr ⟨cl_6_327, List.forall_mem_cons.mpr ⟨cl_6_330, List.forall_mem_cons.mpr ⟨cl_6_333, List.forall_mem_cons.mpr ⟨cl_6_336, List.forall_mem_cons.mpr ⟨cl_6_339, List.forall_mem_cons.mpr ⟨cl_6_345, List.forall_mem_cons.mpr ⟨cl_6_348, List.forall_mem_cons.mpr ⟨cl_6_351, List.forall_mem_nil _⟩⟩⟩⟩⟩⟩⟩⟩⟩⟩⟩⟩⟩⟩⟩⟩⟩⟩⟩⟩⟩⟩⟩⟩⟩⟩⟩⟩⟩⟩⟩⟩⟩⟩⟩⟩⟩⟩⟩⟩⟩⟩⟩⟩⟩⟩⟩⟩⟩⟩⟩⟩⟩⟩⟩⟩⟩
theorem cls_M_7 : ∀ q ∈ (cp_7).2.1, cOK 7 q := List.forall_mem_cons.mpr ⟨cl_7_127, List.forall_mem_cons.mpr ⟨cl_7_137, List.forall_mem_cons.mpr ⟨cl_7_140, List.forall_mem_cons.mpr ⟨cl_7_144, List.forall_mem_cons.mpr ⟨cl_7_149, List.forall_mem_cons.mpr ⟨cl_7_153, List.forall_mem_cons.mpr ⟨cl_7_157, List.forall_mem_cons.mpr ⟨cl_7_164, List.forall_mem_cons.mpr ⟨cl_7_168, List.forall_mem_cons.mpr ⟨cl_7_171, List.forall_mem_cons.mpr ⟨cl_7_174, List.forall_mem_cons.mpr ⟨cl_7_177, List.forall_mem_cons.mpr ⟨cl_7_182, List.forall_mem_cons.mpr ⟨cl_7_186, List.forall_mem_cons.mpr ⟨cl_7_189, List.forall_mem_cons.mpr ⟨cl_7_192, List.forall_mem_cons.mpr ⟨cl_7_196, List.forall_mem_cons.mpr ⟨cl_7_199, List.forall_mem_cons.mpr ⟨cl_7_214, List.forall_mem_cons.mpr ⟨cl_7_217, List.forall_mem_cons.mpr ⟨cl_7_220, List.forall_mem_cons.mpr ⟨cl_7_223, List.forall_mem_cons.mpr ⟨cl_7_226, List.forall_mem_cons.mpr ⟨cl_7_229, List.forall_mem_cons.mpr ⟨cl_7_232, List.forall_mem_cons.mpr ⟨cl_7_235, List.forall_mem_cons.mpr ⟨cl_7_238, List.forall_mem_cons.mpr ⟨cl_7_242, List.forall_mem_cons.mpr ⟨cl_7_245, List.forall_mem_cons.mpr ⟨cl_7_249, List.forall_mem_cons.mpr ⟨cl_7_253, List.forall_mem_cons.mpr ⟨cl_7_256, List.forall_mem_cons.mpr ⟨cl_7_260, List.forall_mem_cons.mpr ⟨cl_7_263, List.forall_mem_cons.mpr ⟨cl_7_266, List.forall_mem_cons.mpr ⟨cl_7_269, List.forall_mem_cons.mpr ⟨cl_7_272, List.forall_mem_cons.mpr ⟨cl_7_276, List.forall_mem_cons.mpr ⟨cl_7_279, List.forall_mem_cons.mpr ⟨cl_7_282, List.forall_mem_cons.mpr ⟨cl_7_285, List.forall_mem_cons.mpr ⟨cl_7_294, List.forall_mem_cons.mpr ⟨cl_7_297, List.forall_mem_cons.mpr ⟨cl_7_301, List.forall_mem_cons.mpr ⟨cl_7_306, List.forall_mem_cons.mpr ⟨cl_7_313, List.forall_mem_cons.mpr ⟨cl_7_317, List.forall_mem_nil _⟩⟩⟩⟩⟩⟩⟩⟩⟩⟩⟩⟩⟩⟩⟩⟩⟩⟩⟩⟩⟩⟩⟩⟩⟩⟩⟩⟩⟩⟩⟩⟩⟩⟩⟩⟩⟩⟩⟩⟩⟩⟩⟩⟩⟩⟩⟩
theorem cls_M_8 : ∀ q ∈ (cp_8).2.1, cOK 8 q := List.forall_mem_cons.mpr ⟨cl_8_7, List.forall_mem_cons.mpr ⟨cl_8_15, List.forall_mem_cons.mpr ⟨cl_8_18, List.forall_mem_cons.mpr ⟨cl_8_21, List.forall_mem_cons.mpr ⟨cl_8_27, List.forall_mem_cons.mpr ⟨cl_8_30, List.forall_mem_cons.mpr ⟨cl_8_35, List.forall_mem_cons.mpr ⟨cl_8_38, List.forall_mem_cons.mpr ⟨cl_8_42, List.forall_mem_cons.mpr ⟨cl_8_45, List.forall_mem_cons.mpr ⟨cl_8_49, List.forall_mem_cons.mpr ⟨cl_8_52, List.forall_mem_cons.mpr ⟨cl_8_55, List.forall_mem_cons.mpr ⟨cl_8_58, List.forall_mem_cons.mpr ⟨cl_8_61, List.forall_mem_cons.mpr ⟨cl_8_64, List.forall_mem_cons.mpr ⟨cl_8_67, List.forall_mem_cons.mpr ⟨cl_8_70, List.forall_mem_cons.mpr ⟨cl_8_73, List.forall_mem_cons.mpr ⟨cl_8_76, List.forall_mem_cons.mpr ⟨cl_8_80, List.forall_mem_cons.mpr ⟨cl_8_83, List.forall_mem_cons.mpr ⟨cl_8_86, List.forall_mem_cons.mpr ⟨cl_8_89, List.forall_mem_cons.mpr ⟨cl_8_92, List.forall_mem_cons.mpr ⟨cl_8_95, List.forall_mem_cons.mpr ⟨cl_8_98, List.forall_mem_cons.mpr ⟨cl_8_102, List.forall_mem_cons.mpr ⟨cl_8_105, List.forall_mem_cons.mpr ⟨cl_8_112, List.forall_mem_cons.mpr ⟨cl_8_115, List.forall_mem_cons.mpr ⟨cl_8_116, List.forall_mem_cons.mpr ⟨cl_8_121, List.forall_mem_cons.mpr ⟨cl_8_122, List.forall_mem_cons.mpr ⟨cl_8_126, List.forall_mem_cons.mpr ⟨cl_8_128, List.forall_mem_cons.mpr ⟨cl_8_129, List.forall_mem_cons.mpr ⟨cl_8_132, List.forall_mem_cons.mpr ⟨cl_8_133, List.forall_mem_cons.mpr ⟨cl_8_135, List.forall_mem_cons.mpr ⟨cl_8_136, List.forall_mem_cons.mpr ⟨cl_8_139, List.forall_mem_cons.mpr ⟨cl_8_140, List.forall_mem_cons.mpr ⟨cl_8_142, List.forall_mem_cons.mpr ⟨cl_8_143, List.forall_mem_cons.mpr ⟨cl_8_145, List.forall_mem_cons.mpr ⟨cl_8_146, List.forall_mem_cons.mpr ⟨cl_8_148, List.forall_mem_cons.mpr ⟨cl_8_149, List.forall_mem_cons.mpr ⟨cl_8_152, List.forall_mem_cons.mpr ⟨cl_8_153, List.forall_mem_cons.mpr ⟨cl_8_155, List.forall_mem_cons.mpr ⟨cl_8_156, List.forall_mem_cons.mpr ⟨cl_8_159, List.forall_mem_cons.mpr ⟨cl_8_160, List.forall_mem_cons.mpr ⟨cl_8_162, List.forall_mem_cons.mpr ⟨cl_8_163, List.forall_mem_cons.mpr ⟨cl_8_165, List.forall_mem_cons.mpr ⟨cl_8_166, List.forall_mem_cons.mpr ⟨cl_8_168, List.forall_mem_cons.mpr ⟨cl_8_169, List.forall_mem_cons.mpr ⟨cl_8_171, List.forall_mem_cons.mpr ⟨cl_8_172, List.forall_mem_cons.mpr ⟨cl_8_174, List.forall_mem_cons.mpr ⟨cl_8_175, List.forall_mem_cons.mpr ⟨cl_8_177, List.forall_mem_cons.mpr ⟨cl_8_178, List.forall_mem_cons.mpr ⟨cl_8_180, List.forall_mem_cons.mpr ⟨cl_8_181, List.forall_mem_cons.mpr ⟨cl_8_183, List.forall_mem_cons.mpr ⟨cl_8_184, List.forall_mem_cons.mpr ⟨cl_8_186, List.forall_mem_cons.mpr ⟨cl_8_187, List.forall_mem_cons.mpr ⟨cl_8_190, List.forall_mem_cons.mpr ⟨cl_8_191, List.forall_mem_cons.mpr ⟨cl_8_193, List.forall_mem_cons.mpr ⟨cl_8_194, List.forall_mem_cons.mpr ⟨cl_8_196, List.forall_mem_cons.mpr ⟨cl_8_197, List.forall_mem_cons.mpr ⟨cl_8_199, List.forall_mem_cons.mpr ⟨cl_8_200, List.forall_mem_cons.mpr ⟨cl_8_202, List.forall_mem_cons.mpr ⟨cl_8_203, List.forall_mem_cons.mpr ⟨cl_8_205, List.forall_mem_cons.mpr ⟨cl_8_206, List.forall_mem_cons.mpr ⟨cl_8_208, List.forall_mem_cons.mpr ⟨cl_8_209, List.forall_mem_cons.mpr ⟨cl_8_211, List.forall_mem_cons.mpr ⟨cl_8_212, List.forall_mem_cons.mpr ⟨cl_8_214, List.forall_mem_cons.mpr ⟨cl_8_215, List.forall_mem_cons.mpr ⟨cl_8_217, List.forall_mem_cons.mpr ⟨cl_8_218, List.forall_mem_cons.mpr ⟨cl_8_221, List.forall_mem_cons.mpr ⟨cl_8_222, List.forall_mem_cons.mpr ⟨cl_8_225, List.forall_mem_cons.mpr ⟨cl_8_226, List.forall_mem_cons.mpr ⟨cl_8_229, List.forall_mem_cons.mpr ⟨cl_8_230, List.forall_mem_cons.mpr ⟨cl_8_233, List.forall_mem_cons.mpr ⟨cl_8_234, List.forall_mem_cons.mpr ⟨cl_8_237, List.forall_mem_nil _⟩⟩⟩⟩⟩⟩⟩⟩⟩⟩⟩⟩⟩⟩⟩⟩⟩⟩⟩⟩⟩⟩⟩⟩⟩⟩⟩⟩⟩⟩⟩⟩⟩⟩⟩⟩⟩⟩⟩⟩⟩⟩⟩⟩⟩⟩⟩⟩⟩⟩⟩⟩⟩⟩⟩⟩⟩⟩⟩⟩⟩⟩⟩⟩⟩⟩⟩⟩⟩⟩⟩⟩⟩⟩⟩⟩⟩⟩⟩⟩⟩⟩⟩⟩⟩⟩⟩⟩⟩⟩⟩⟩⟩⟩⟩⟩⟩⟩⟩⟩⟩⟩
theorem cls_M_9 : ∀ q ∈ (cp_9).2.1, cOK 9 q := List.forall_mem_nil _
theorem cls_F_0 : ∀ q ∈ (cp_0).1, fOK 0 q := List.forall_mem_cons.mpr ⟨fl_0_9, List.forall_mem_cons.mpr ⟨fl_0_21, List.forall_mem_cons.mpr ⟨fl_0_25, List.forall_mem_cons.mpr ⟨fl_0_28, List.forall_mem_cons.mpr ⟨fl_0_41, List.forall_mem_cons.mpr ⟨fl_0_54, List.forall_mem_nil _⟩⟩⟩⟩⟩⟩
theorem cls_F_1 : ∀ q ∈ (cp_1).1, fOK 1 q := List.forall_mem_cons.mpr ⟨fl_1_9, List.forall_mem_cons.mpr ⟨fl_1_15, List.forall_mem_cons.mpr ⟨fl_1_18, List.forall_mem_cons.mpr ⟨fl_1_21, List.forall_mem_cons.mpr ⟨fl_1_24, List.forall_mem_cons.mpr ⟨fl_1_27, List.forall_mem_cons.mpr ⟨fl_1_30, List.forall_mem_cons.mpr ⟨fl_1_33, List.forall_mem_cons.mpr ⟨fl_1_36, List.forall_mem_cons.mpr ⟨fl_1_39, List.forall_mem_cons.mpr ⟨fl_1_42, List.forall_mem_cons.mpr ⟨fl_1_45, List.forall_mem_cons.mpr ⟨fl_1_48, List.forall_mem_cons.mpr ⟨fl_1_51, List.forall_mem_cons.mpr ⟨fl_1_57, List.forall_mem_cons.mpr ⟨fl_1_67, List.forall_mem_cons.mpr ⟨fl_1_70, List.forall_mem_cons.mpr ⟨fl_1_73, List.forall_mem_cons.mpr ⟨fl_1_102, List.forall_mem_cons.mpr ⟨fl_1_119, List.forall_mem_nil _⟩⟩⟩⟩⟩⟩⟩⟩⟩⟩⟩⟩⟩⟩⟩⟩⟩⟩⟩⟩
theorem cls_F_2 : ∀ q ∈ (cp_2).1, fOK 2 q := List.forall_mem_cons.mpr ⟨fl_2_9, List.forall_mem_cons.mpr ⟨fl_2_15, List.forall_mem_cons.mpr ⟨fl_2_18, List.forall_mem_cons.mpr ⟨fl_2_24, List.forall_mem_cons.mpr ⟨fl_2_34, List.forall_mem_nil _⟩⟩⟩⟩⟩
theorem cls_F_3 : ∀ q ∈ (cp_3).1, fOK 3 q := List.forall_mem_cons.mpr ⟨fl_3_9, List.forall_mem_cons.mpr ⟨fl_3_15, List.forall_mem_cons.mpr ⟨fl_3_18, List.forall_mem_cons.mpr ⟨fl_3_21, List.forall_mem_cons.mpr ⟨fl_3_24, List.forall_mem_cons.mpr ⟨fl_3_30, List.forall_mem_cons.mpr ⟨fl_3_33, List.forall_mem_cons.mpr ⟨fl_3_40, List.forall_mem_cons.mpr ⟨fl_3_43, List.forall_mem_cons.mpr ⟨fl_3_46, List.forall_mem_cons.mpr ⟨fl_3_49, List.forall_mem_cons.mpr ⟨fl_3_52, List.forall_mem_cons.mpr ⟨fl_3_55, List.forall_mem_cons.mpr ⟨fl_3_58, List.forall_mem_cons.mpr ⟨fl_3_61, List.forall_mem_cons.mpr ⟨fl_3_73, List.forall_mem_cons.mpr ⟨fl_3_76, List.forall_mem_cons.mpr ⟨fl_3_79, List.forall_mem_cons.mpr ⟨fl_3_88, List.forall_mem_nil _⟩⟩⟩⟩⟩⟩⟩⟩⟩⟩⟩⟩⟩⟩⟩⟩⟩⟩⟩
theorem cls_F_4 : ∀ q ∈ (cp_4).1, fOK 4 q := List.forall_mem_cons.mpr ⟨fl_4_12, List.forall_mem_cons.mpr ⟨fl_4_20, List.forall_mem_cons.mpr ⟨fl_4_23, List.forall_mem_cons.mpr ⟨fl_4_27, List.forall_mem_cons.mpr ⟨fl_4_31, List.forall_mem_cons.mpr ⟨fl_4_52, List.forall_mem_cons.mpr ⟨fl_4_62, List.forall_mem_cons.mpr ⟨fl_4_71, List.forall_mem_cons.mpr ⟨fl_4_74, List.forall_mem_cons.mpr ⟨fl_4_89, List.forall_mem_cons.mpr ⟨fl_4_92, List.forall_mem_nil _⟩⟩⟩⟩⟩⟩⟩⟩⟩⟩⟩
theorem cls_F_5 : ∀ q ∈ (cp_5).1, fOK 5 q := List.forall_mem_cons.mpr ⟨fl_5_9, List.forall_mem_cons.mpr ⟨fl_5_15, List.forall_mem_cons.mpr ⟨fl_5_19, List.forall_mem_cons.mpr ⟨fl_5_28, List.forall_mem_cons.mpr ⟨fl_5_31, List.forall_mem_cons.mpr ⟨fl_5_34, List.forall_mem_nil _⟩⟩⟩⟩⟩⟩
theorem cls_F_6 : ∀ q ∈ (cp_6).1, fOK 6 q := List.forall_mem_cons.mpr ⟨fl_6_10, List.forall_mem_cons.mpr ⟨fl_6_19, List.forall_mem_cons.mpr ⟨fl_6_23, List.forall_mem_cons.mpr ⟨fl_6_26, List.forall_mem_cons.mpr ⟨fl_6_29, List.forall_mem_cons.mpr ⟨fl_6_34, List.forall_mem_cons.mpr ⟨fl_6_41, List.forall_mem_cons.mpr ⟨fl_6_45, List.forall_mem_cons.mpr ⟨fl_6_52, List.forall_mem_cons.mpr ⟨fl_6_56, List.forall_mem_cons.mpr ⟨fl_6_60, List.forall_mem_cons.mpr ⟨fl_6_64, List.forall_mem_cons.mpr ⟨fl_6_67, List.forall_mem_cons.mpr ⟨fl_6_71, List.forall_mem_cons.mpr ⟨fl_6_89, List.forall_mem_cons.mpr ⟨fl_6_95, List.forall_mem_cons.mpr ⟨fl_6_101, List.forall_mem_cons.mpr ⟨fl_6_110, List.forall_mem_cons.mpr ⟨fl_6_114, List.forall_mem_cons.mpr ⟨fl_6_121, List.forall_mem_cons.mpr ⟨fl_6_124, List.forall_mem_cons.mpr ⟨fl_6_127, List.forall_mem_cons.mpr ⟨fl_6_133, List.forall_mem_cons.mpr ⟨fl_6_136, List.forall_mem_cons.mpr ⟨fl_6_139, List.forall_mem_cons.mpr ⟨fl_6_152, List.forall_mem_cons.mpr ⟨fl_6_183, List.forall_mem_cons.mpr ⟨fl_6_187, List.forall_mem_cons.mpr ⟨fl_6_192, List.forall_mem_cons.mpr ⟨fl_6_220, List.forall_mem_cons.mpr ⟨fl_6_229, List.forall_mem_cons.mpr ⟨fl_6_272, List.forall_mem_cons.mpr ⟨fl_6_278, List.forall_mem_cons.mpr ⟨fl_6_291, List.forall_mem_cons.mpr ⟨fl_6_303, List.forall_mem_cons.mpr ⟨fl_6_323, List.forall_mem_cons.mpr ⟨fl_6_354, List.forall_mem_nil _⟩⟩⟩⟩⟩⟩⟩⟩⟩⟩⟩⟩⟩⟩⟩⟩⟩⟩⟩⟩⟩⟩⟩⟩⟩⟩⟩⟩⟩⟩⟩⟩⟩⟩⟩⟩⟩
theorem cls_F_7 : ∀ q ∈ (cp_7).1, fOK 7 q := List.forall_mem_cons.mpr ⟨fl_7_9, List.forall_mem_cons.mpr ⟨fl_7_13, List.forall_mem_cons.mpr ⟨fl_7_17, List.forall_mem_cons.mpr ⟨fl_7_20, List.forall_mem_cons.mpr ⟨fl_7_23, List.forall_mem_cons.mpr ⟨fl_7_26, List.forall_mem_cons.mpr ⟨fl_7_29, List.forall_mem_cons.mpr ⟨fl_7_32, List.forall_mem_cons.mpr ⟨fl_7_35, List.forall_mem_cons.mpr ⟨fl_7_38, List.forall_mem_cons.mpr ⟨fl_7_41, List.forall_mem_cons.mpr ⟨fl_7_44, List.forall_mem_cons.mpr ⟨fl_7_47, List.forall_mem_cons.mpr ⟨fl_7_52, List.forall_mem_cons.mpr ⟨fl_7_55, List.forall_mem_cons.mpr ⟨fl_7_58, List.forall_mem_cons.mpr ⟨fl_7_61, List.forall_mem_cons.mpr ⟨fl_7_64, List.forall_mem_cons.mpr ⟨fl_7_67, List.forall_mem_cons.mpr ⟨fl_7_70, List.forall_mem_cons.mpr ⟨fl_7_73, List.forall_mem_cons.mpr ⟨fl_7_76, List.forall_mem_cons.mpr ⟨fl_7_79, List.forall_mem_cons.mpr ⟨fl_7_82, List.forall_mem_cons.mpr ⟨fl_7_85, List.forall_mem_cons.mpr ⟨fl_7_88, List.forall_mem_cons.mpr ⟨fl_7_91, List.forall_mem_cons.mpr ⟨fl_7_94, List.forall_mem_cons.mpr ⟨fl_7_97, List.forall_mem_cons.mpr ⟨fl_7_100, List.forall_mem_cons.mpr ⟨fl_7_103, List.forall_mem_cons.mpr ⟨fl_7_106, List.forall_mem_cons.mpr ⟨fl_7_109, List.forall_mem_cons.mpr ⟨fl_7_112, List.forall_mem_cons.mpr ⟨fl_7_115, List.forall_mem_cons.mpr ⟨fl_7_118, List.forall_mem_cons.mpr ⟨fl_7_121, List.forall_mem_cons.mpr ⟨fl_7_124, List.forall_mem_cons.mpr ⟨fl_7_131, List.forall_mem_cons.mpr ⟨fl_7_134, List.forall_mem_cons.mpr ⟨fl_7_161, List.forall_mem_cons.mpr ⟨fl_7_202, List.forall_mem_cons.mpr ⟨fl_7_205, List.forall_mem_cons.mpr ⟨fl_7_208, List.forall_mem_cons.mpr ⟨fl_7_211, List.forall_mem_cons.mpr ⟨fl_7_288, List.forall_mem_cons.mpr ⟨fl_7_291, List.forall_mem_cons.mpr ⟨fl_7_310, List.forall_mem_nil _⟩⟩⟩⟩⟩⟩⟩⟩⟩⟩⟩⟩⟩⟩⟩⟩⟩⟩⟩⟩⟩⟩⟩⟩⟩⟩⟩⟩⟩⟩⟩⟩⟩⟩⟩⟩⟩⟩⟩⟩⟩⟩⟩⟩⟩⟩⟩⟩
theorem cls_F_8 : ∀ q ∈ (cp_8).1, fOK 8 q := List.forall_mem_nil _
theorem cls_F_9 : ∀ q ∈ (cp_9).1, fOK 9 q := List.forall_mem_nil _
