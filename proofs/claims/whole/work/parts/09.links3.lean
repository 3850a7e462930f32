theorem cl_0_15 : cOK 0 (15, 2, 231, 2) := fun _ => ⟨mi_J7_fill_53178, rfl, (by decide +kernel), (by decide +kernel), ⟨gmem 736 (by decide +kernel) (by decide +kernel), hst_J7_fill_53178⟩⟩
theorem cl_0_31 : cOK 0 (31, 1, 44, 1) := fun _ => ⟨mi_X5_hasMore, rfl, (by decide +kernel), (by decide +kernel), ⟨nmem 737 (by decide +kernel) (by decide +kernel), him_X5_hasMore, hse_X5_hasMore⟩⟩
theorem cl_0_37 : cOK 0 (37, 0, 1, 3) := fun _ => ⟨mi_X0_readRule, rfl, (by decide +kernel), (by decide +kernel), ⟨gmem 738 (by decide +kernel) (by decide +kernel), him_X0_readRule, hse_X0_readRule⟩⟩
theorem cl_0_46 : cOK 0 (46, 1, 45, 2) := fun _ => ⟨mi_X5_word, rfl, (by decide +kernel), (by decide +kernel), ⟨nmem 743 (by decide +kernel) (by decide +kernel), him_X5_word, hse_X5_word⟩⟩
theorem cl_0_50 : cOK 0 (50, 1, 41, 3) := fun _ => ⟨mi_X5_blame, rfl, (by decide +kernel), (by decide +kernel), ⟨nmem 744 (by decide +kernel) (by decide +kernel), him_X5_blame, hse_X5_blame⟩⟩
theorem cl_0_57 : cOK 0 (57, 0, 2, 2) := fun _ => ⟨mi_X0_readLayer, rfl, (by decide +kernel), (by decide +kernel), ⟨gmem 745 (by decide +kernel) (by decide +kernel), him_X0_readLayer, hse_X0_readLayer⟩⟩
theorem cl_0_61 : cOK 0 (61, 1, 47, 3) := fun _ => ⟨mi_X5_number, rfl, (by decide +kernel), (by decide +kernel), ⟨nmem 749 (by decide +kernel) (by decide +kernel), him_X5_number, hse_X5_number⟩⟩
theorem cl_0_65 : cOK 0 (65, 1, 48, 1) := fun _ => ⟨mi_X5_closes, rfl, (by decide +kernel), (by decide +kernel), ⟨nmem 750 (by decide +kernel) (by decide +kernel), him_X5_closes, hse_X5_closes⟩⟩
theorem cl_1_54 : cOK 1 (54, 0, 3, 1) := fun _ => ⟨mi_X1_clear, rfl, (by decide +kernel), (by decide +kernel), ⟨gmem 189 (by decide +kernel) (by decide +kernel), him_X1_clear, hse_X1_clear⟩⟩
theorem cl_1_61 : cOK 1 (61, 2, 231, 2) := fun _ => ⟨mi_J7_fill_53178, rfl, (by decide +kernel), (by decide +kernel), ⟨gmem 193 (by decide +kernel) (by decide +kernel), hst_J7_fill_53178⟩⟩
theorem cl_1_76 : cOK 1 (76, 2, 5, 2) := fun _ => ⟨mi_X1_copyRow, rfl, (by decide +kernel), (by decide +kernel), ⟨gmem 480 (by decide +kernel) (by decide +kernel), hst_X1_copyRow⟩⟩
theorem cl_1_80 : cOK 1 (80, 2, 904, 2) := fun h => absurd h (by decide)
theorem cl_1_86 : cOK 1 (86, 2, 902, 5) := fun h => absurd h (by decide)
theorem cl_1_92 : cOK 1 (92, 1, 44, 1) := fun _ => ⟨mi_X5_hasMore, rfl, (by decide +kernel), (by decide +kernel), ⟨nmem 603 (by decide +kernel) (by decide +kernel), him_X5_hasMore, hse_X5_hasMore⟩⟩
theorem cl_1_98 : cOK 1 (98, 0, 7, 3) := fun _ => ⟨mi_X1_readClause, rfl, (by decide +kernel), (by decide +kernel), ⟨gmem 615 (by decide +kernel) (by decide +kernel), him_X1_readClause, hse_X1_readClause⟩⟩
theorem cl_1_107 : cOK 1 (107, 1, 45, 2) := fun _ => ⟨mi_X5_word, rfl, (by decide +kernel), (by decide +kernel), ⟨nmem 620 (by decide +kernel) (by decide +kernel), him_X5_word, hse_X5_word⟩⟩
theorem cl_1_111 : cOK 1 (111, 0, 8, 2) := fun _ => ⟨mi_X1_isFull, rfl, (by decide +kernel), (by decide +kernel), ⟨gmem 680 (by decide +kernel) (by decide +kernel), him_X1_isFull, hse_X1_isFull⟩⟩
theorem cl_1_115 : cOK 1 (115, 1, 41, 3) := fun _ => ⟨mi_X5_blame, rfl, (by decide +kernel), (by decide +kernel), ⟨nmem 684 (by decide +kernel) (by decide +kernel), him_X5_blame, hse_X5_blame⟩⟩
theorem cl_1_122 : cOK 1 (122, 0, 9, 2) := fun _ => ⟨mi_X1_readCells, rfl, (by decide +kernel), (by decide +kernel), ⟨gmem 685 (by decide +kernel) (by decide +kernel), him_X1_readCells, hse_X1_readCells⟩⟩
theorem cl_1_126 : cOK 1 (126, 0, 10, 2) := fun _ => ⟨mi_X1_readGround, rfl, (by decide +kernel), (by decide +kernel), ⟨gmem 698 (by decide +kernel) (by decide +kernel), him_X1_readGround, hse_X1_readGround⟩⟩
theorem cl_1_129 : cOK 1 (129, 0, 11, 2) := fun _ => ⟨mi_X1_readWall, rfl, (by decide +kernel), (by decide +kernel), ⟨gmem 702 (by decide +kernel) (by decide +kernel), him_X1_readWall, hse_X1_readWall⟩⟩
theorem cl_1_132 : cOK 1 (132, 0, 12, 2) := fun _ => ⟨mi_X1_readHouse, rfl, (by decide +kernel), (by decide +kernel), ⟨gmem 706 (by decide +kernel) (by decide +kernel), him_X1_readHouse, hse_X1_readHouse⟩⟩
theorem cl_1_135 : cOK 1 (135, 0, 13, 2) := fun _ => ⟨mi_X1_readHum, rfl, (by decide +kernel), (by decide +kernel), ⟨gmem 710 (by decide +kernel) (by decide +kernel), him_X1_readHum, hse_X1_readHum⟩⟩
theorem cl_1_138 : cOK 1 (138, 0, 14, 2) := fun _ => ⟨mi_X1_readSource, rfl, (by decide +kernel), (by decide +kernel), ⟨gmem 714 (by decide +kernel) (by decide +kernel), him_X1_readSource, hse_X1_readSource⟩⟩
theorem cl_1_141 : cOK 1 (141, 0, 15, 3) := fun _ => ⟨mi_X1_readWork, rfl, (by decide +kernel), (by decide +kernel), ⟨gmem 719 (by decide +kernel) (by decide +kernel), him_X1_readWork, hse_X1_readWork⟩⟩
theorem cl_1_144 : cOK 1 (144, 1, 47, 3) := fun _ => ⟨mi_X5_number, rfl, (by decide +kernel), (by decide +kernel), ⟨nmem 689 (by decide +kernel) (by decide +kernel), him_X5_number, hse_X5_number⟩⟩
theorem cl_1_147 : cOK 1 (147, 1, 48, 1) := fun _ => ⟨mi_X5_closes, rfl, (by decide +kernel), (by decide +kernel), ⟨nmem 694 (by decide +kernel) (by decide +kernel), him_X5_closes, hse_X5_closes⟩⟩
theorem cl_1_151 : cOK 1 (151, 0, 17, 3) := fun _ => ⟨mi_X1_flood, rfl, (by decide +kernel), (by decide +kernel), ⟨gmem 491 (by decide +kernel) (by decide +kernel), him_X1_flood, hse_X1_flood⟩⟩
theorem cl_1_154 : cOK 1 (154, 2, 903, 2) := fun h => absurd h (by decide)
theorem cl_1_157 : cOK 1 (157, 3, 95, 2) := fun _ => ⟨mi_X6_hasBit, rfl, (by decide +kernel), (by decide +kernel), ⟨nmem 948 (by decide +kernel) (by decide +kernel), hst_X6_hasBit⟩⟩
theorem cl_1_161 : cOK 1 (161, 0, 19, 2) := fun _ => ⟨mi_X1_humOf, rfl, (by decide +kernel), (by decide +kernel), ⟨gmem 965 (by decide +kernel) (by decide +kernel), him_X1_humOf, hse_X1_humOf⟩⟩
theorem cl_2_28 : cOK 2 (28, 2, 231, 2) := fun _ => ⟨mi_J7_fill_53178, rfl, (by decide +kernel), (by decide +kernel), ⟨gmem 281 (by decide +kernel) (by decide +kernel), hst_J7_fill_53178⟩⟩
theorem cl_2_37 : cOK 2 (37, 2, 902, 5) := fun h => absurd h (by decide)
theorem cl_3_36 : cOK 3 (36, 0, 28, 5) := fun _ => ⟨mi_X3_setSound, rfl, (by decide +kernel), (by decide +kernel), ⟨gmem 882 (by decide +kernel) (by decide +kernel), him_X3_setSound, hse_X3_setSound⟩⟩
theorem cl_3_64 : cOK 3 (64, 2, 905, 1) := fun h => absurd h (by decide)
theorem cl_3_84 : cOK 3 (84, 2, 904, 2) := fun h => absurd h (by decide)
theorem cl_3_91 : cOK 3 (91, 2, 903, 2) := fun h => absurd h (by decide)
theorem cl_4_34 : cOK 4 (34, 1, 29, 3) := fun _ => ⟨mi_X3_setSource, rfl, (by decide +kernel), (by decide +kernel), ⟨nmem 878 (by decide +kernel) (by decide +kernel), him_X3_setSource, hse_X3_setSource⟩⟩
theorem cl_4_38 : cOK 4 (38, 0, 37, 4) := fun _ => ⟨mi_X4_spread, rfl, (by decide +kernel), (by decide +kernel), ⟨gmem 923 (by decide +kernel) (by decide +kernel), him_X4_spread, hse_X4_spread⟩⟩
theorem cl_4_42 : cOK 4 (42, 1, 28, 5) := fun _ => ⟨mi_X3_setSound, rfl, (by decide +kernel), (by decide +kernel), ⟨nmem 1097 (by decide +kernel) (by decide +kernel), him_X3_setSound, hse_X3_setSound⟩⟩
theorem cl_4_46 : cOK 4 (46, 2, 231, 2) := fun _ => ⟨mi_J7_fill_53178, rfl, (by decide +kernel), (by decide +kernel), ⟨gmem 927 (by decide +kernel) (by decide +kernel), hst_J7_fill_53178⟩⟩
theorem cl_4_58 : cOK 4 (58, 1, 21, 3) := fun _ => ⟨mi_X1_soundsIn, rfl, (by decide +kernel), (by decide +kernel), ⟨nmem 1063 (by decide +kernel) (by decide +kernel), him_X1_soundsIn, hse_X1_soundsIn⟩⟩
theorem cl_4_65 : cOK 4 (65, 2, 903, 2) := fun h => absurd h (by decide)
theorem cl_4_77 : cOK 4 (77, 1, 30, 4) := fun _ => ⟨mi_X3_start, rfl, (by decide +kernel), (by decide +kernel), ⟨nmem 886 (by decide +kernel) (by decide +kernel), him_X3_start, hse_X3_start⟩⟩
theorem cl_4_81 : cOK 4 (81, 1, 31, 3) := fun _ => ⟨mi_X3_goes, rfl, (by decide +kernel), (by decide +kernel), ⟨nmem 890 (by decide +kernel) (by decide +kernel), him_X3_goes, hse_X3_goes⟩⟩
theorem cl_4_85 : cOK 4 (85, 1, 32, 2) := fun _ => ⟨mi_X3_isNearGround, rfl, (by decide +kernel), (by decide +kernel), ⟨nmem 928 (by decide +kernel) (by decide +kernel), him_X3_isNearGround, hse_X3_isNearGround⟩⟩
theorem cl_5_22 : cOK 5 (22, 2, 904, 2) := fun h => absurd h (by decide)
theorem cl_5_37 : cOK 5 (37, 0, 42, 3) := fun _ => ⟨mi_X5_isFrom, rfl, (by decide +kernel), (by decide +kernel), ⟨gmem 611 (by decide +kernel) (by decide +kernel), him_X5_isFrom, hse_X5_isFrom⟩⟩
theorem cl_5_41 : cOK 5 (41, 0, 43, 1) := fun _ => ⟨mi_X5_passBlanks, rfl, (by decide +kernel), (by decide +kernel), ⟨gmem 607 (by decide +kernel) (by decide +kernel), him_X5_passBlanks, hse_X5_passBlanks⟩⟩
theorem cl_5_44 : cOK 5 (44, 0, 900, 1) := fun h => absurd h (by decide)
theorem cl_5_50 : cOK 5 (50, 0, 901, 2) := fun h => absurd h (by decide)
theorem cl_5_54 : cOK 5 (54, 0, 46, 5) := fun _ => ⟨mi_X5_isPart, rfl, (by decide +kernel), (by decide +kernel), ⟨gmem 672 (by decide +kernel) (by decide +kernel), him_X5_isPart, hse_X5_isPart⟩⟩
theorem cl_5_58 : cOK 5 (58, 0, 41, 3) := fun _ => ⟨mi_X5_blame, rfl, (by decide +kernel), (by decide +kernel), ⟨gmem 676 (by decide +kernel) (by decide +kernel), him_X5_blame, hse_X5_blame⟩⟩
theorem cl_6_74 : cOK 6 (74, 1, 39, 2) := fun _ => ⟨mi_X5_put, rfl, (by decide +kernel), (by decide +kernel), ⟨nmem 445 (by decide +kernel) (by decide +kernel), him_X5_put, hse_X5_put⟩⟩
theorem cl_6_78 : cOK 6 (78, 0, 87, 2) := fun _ => ⟨mi_X6_needArgument, rfl, (by decide +kernel), (by decide +kernel), ⟨gmem 522 (by decide +kernel) (by decide +kernel), him_X6_needArgument, hse_X6_needArgument⟩⟩
theorem cl_6_82 : cOK 6 (82, 1, 40, 2) := fun _ => ⟨mi_X5_open, rfl, (by decide +kernel), (by decide +kernel), ⟨nmem 594 (by decide +kernel) (by decide +kernel), him_X5_open, hse_X5_open⟩⟩
theorem cl_6_85 : cOK 6 (85, 1, 6, 2) := fun _ => ⟨mi_X1_read, rfl, (by decide +kernel), (by decide +kernel), ⟨nmem 599 (by decide +kernel) (by decide +kernel), him_X1_read, hse_X1_read⟩⟩
theorem cl_6_92 : cOK 6 (92, 1, 22, 1) := fun _ => ⟨mi_X2_clear, rfl, (by decide +kernel), (by decide +kernel), ⟨nmem 723 (by decide +kernel) (by decide +kernel), him_X2_clear, hse_X2_clear⟩⟩
theorem cl_6_98 : cOK 6 (98, 0, 96, 1) := fun _ => ⟨mi_X6_rebuild, rfl, (by decide +kernel), (by decide +kernel), ⟨gmem 472 (by decide +kernel) (by decide +kernel), him_X6_rebuild, hse_X6_rebuild⟩⟩
theorem cl_6_104 : cOK 6 (104, 2, 904, 2) := fun h => absurd h (by decide)
theorem cl_6_113 : cOK 6 (113, 1, 0, 2) := fun _ => ⟨mi_X0_read, rfl, (by decide +kernel), (by decide +kernel), ⟨nmem 732 (by decide +kernel) (by decide +kernel), him_X0_read, hse_X0_read⟩⟩
theorem cl_6_117 : cOK 6 (117, 0, 92, 3) := fun _ => ⟨mi_X6_needWhat, rfl, (by decide +kernel), (by decide +kernel), ⟨gmem 758 (by decide +kernel) (by decide +kernel), him_X6_needWhat, hse_X6_needWhat⟩⟩
theorem cl_6_130 : cOK 6 (130, 0, 85, 2) := fun _ => ⟨mi_X6_needCell, rfl, (by decide +kernel), (by decide +kernel), ⟨gmem 770 (by decide +kernel) (by decide +kernel), him_X6_needCell, hse_X6_needCell⟩⟩
theorem cl_6_142 : cOK 6 (142, 0, 91, 2) := fun _ => ⟨mi_X6_needHour, rfl, (by decide +kernel), (by decide +kernel), ⟨gmem 797 (by decide +kernel) (by decide +kernel), him_X6_needHour, hse_X6_needHour⟩⟩
theorem cl_6_145 : cOK 6 (145, 1, 19, 2) := fun _ => ⟨mi_X1_humOf, rfl, (by decide +kernel), (by decide +kernel), ⟨nmem 801 (by decide +kernel) (by decide +kernel), him_X1_humOf, hse_X1_humOf⟩⟩
theorem cl_6_149 : cOK 6 (149, 0, 88, 2) := fun _ => ⟨mi_X6_needHouse, rfl, (by decide +kernel), (by decide +kernel), ⟨gmem 813 (by decide +kernel) (by decide +kernel), him_X6_needHouse, hse_X6_needHouse⟩⟩
theorem cl_6_155 : cOK 6 (155, 0, 86, 3) := fun _ => ⟨mi_X6_needElement, rfl, (by decide +kernel), (by decide +kernel), ⟨gmem 817 (by decide +kernel) (by decide +kernel), him_X6_needElement, hse_X6_needElement⟩⟩
theorem cl_6_158 : cOK 6 (158, 1, 27, 1) := fun _ => ⟨mi_X2_doneBits, rfl, (by decide +kernel), (by decide +kernel), ⟨nmem 844 (by decide +kernel) (by decide +kernel), him_X2_doneBits, hse_X2_doneBits⟩⟩
theorem cl_6_162 : cOK 6 (162, 2, 95, 2) := fun _ => ⟨mi_X6_hasBit, rfl, (by decide +kernel), (by decide +kernel), ⟨gmem 848 (by decide +kernel) (by decide +kernel), hst_X6_hasBit⟩⟩
theorem cl_6_166 : cOK 6 (166, 1, 24, 2) := fun _ => ⟨mi_X2_noteDone, rfl, (by decide +kernel), (by decide +kernel), ⟨nmem 851 (by decide +kernel) (by decide +kernel), him_X2_noteDone, hse_X2_noteDone⟩⟩
theorem cl_6_169 : cOK 6 (169, 1, 16, 2) := fun _ => ⟨mi_X1_perform, rfl, (by decide +kernel), (by decide +kernel), ⟨nmem 487 (by decide +kernel) (by decide +kernel), him_X1_perform, hse_X1_perform⟩⟩
theorem cl_6_172 : cOK 6 (172, 0, 97, 1) := fun _ => ⟨mi_X6_unhear, rfl, (by decide +kernel), (by decide +kernel), ⟨gmem 498 (by decide +kernel) (by decide +kernel), him_X6_unhear, hse_X6_unhear⟩⟩
theorem cl_6_175 : cOK 6 (175, 0, 94, 6) := fun _ => ⟨mi_X6_needRay, rfl, (by decide +kernel), (by decide +kernel), ⟨gmem 862 (by decide +kernel) (by decide +kernel), him_X6_needRay, hse_X6_needRay⟩⟩
theorem cl_6_179 : cOK 6 (179, 1, 38, 7) := fun _ => ⟨mi_X4_follow, rfl, (by decide +kernel), (by decide +kernel), ⟨nmem 874 (by decide +kernel) (by decide +kernel), him_X4_follow, hse_X4_follow⟩⟩
theorem cl_6_195 : cOK 6 (195, 0, 90, 2) := fun _ => ⟨mi_X6_needAir, rfl, (by decide +kernel), (by decide +kernel), ⟨gmem 866 (by decide +kernel) (by decide +kernel), him_X6_needAir, hse_X6_needAir⟩⟩
theorem cl_6_198 : cOK 6 (198, 0, 89, 2) := fun _ => ⟨mi_X6_needSource, rfl, (by decide +kernel), (by decide +kernel), ⟨gmem 870 (by decide +kernel) (by decide +kernel), him_X6_needSource, hse_X6_needSource⟩⟩
theorem cl_6_201 : cOK 6 (201, 0, 98, 3) := fun _ => ⟨mi_X6_rowOf, rfl, (by decide +kernel), (by decide +kernel), ⟨gmem 915 (by decide +kernel) (by decide +kernel), him_X6_rowOf, hse_X6_rowOf⟩⟩
theorem cl_6_205 : cOK 6 (205, 0, 99, 4) := fun _ => ⟨mi_X6_loudIn, rfl, (by decide +kernel), (by decide +kernel), ⟨gmem 940 (by decide +kernel) (by decide +kernel), him_X6_loudIn, hse_X6_loudIn⟩⟩
theorem cl_6_209 : cOK 6 (209, 0, 100, 4) := fun _ => ⟨mi_X6_houseHears, rfl, (by decide +kernel), (by decide +kernel), ⟨gmem 957 (by decide +kernel) (by decide +kernel), him_X6_houseHears, hse_X6_houseHears⟩⟩
theorem cl_6_213 : cOK 6 (213, 0, 104, 2) := fun _ => ⟨mi_X6_lastLoud, rfl, (by decide +kernel), (by decide +kernel), ⟨gmem 973 (by decide +kernel) (by decide +kernel), him_X6_lastLoud, hse_X6_lastLoud⟩⟩
theorem cl_6_217 : cOK 6 (217, 0, 103, 2) := fun _ => ⟨mi_X6_firstLoud, rfl, (by decide +kernel), (by decide +kernel), ⟨gmem 977 (by decide +kernel) (by decide +kernel), him_X6_firstLoud, hse_X6_firstLoud⟩⟩
theorem cl_6_223 : cOK 6 (223, 0, 105, 3) := fun _ => ⟨mi_X6_wakingHours, rfl, (by decide +kernel), (by decide +kernel), ⟨gmem 1002 (by decide +kernel) (by decide +kernel), him_X6_wakingHours, hse_X6_wakingHours⟩⟩
theorem cl_6_226 : cOK 6 (226, 0, 106, 3) := fun _ => ⟨mi_X6_meanOf, rfl, (by decide +kernel), (by decide +kernel), ⟨gmem 1020 (by decide +kernel) (by decide +kernel), him_X6_meanOf, hse_X6_meanOf⟩⟩
theorem cl_6_232 : cOK 6 (232, 0, 93, 3) := fun _ => ⟨mi_X6_needBits, rfl, (by decide +kernel), (by decide +kernel), ⟨gmem 1038 (by decide +kernel) (by decide +kernel), him_X6_needBits, hse_X6_needBits⟩⟩
theorem cl_6_235 : cOK 6 (235, 0, 107, 4) := fun _ => ⟨mi_X6_leastWorks, rfl, (by decide +kernel), (by decide +kernel), ⟨gmem 1042 (by decide +kernel) (by decide +kernel), him_X6_leastWorks, hse_X6_leastWorks⟩⟩
theorem cl_6_238 : cOK 6 (238, 1, 18, 2) := fun _ => ⟨mi_X1_coinOf, rfl, (by decide +kernel), (by decide +kernel), ⟨nmem 1046 (by decide +kernel) (by decide +kernel), him_X1_coinOf, hse_X1_coinOf⟩⟩
theorem cl_6_241 : cOK 6 (241, 2, 903, 2) := fun h => absurd h (by decide)
theorem cl_6_244 : cOK 6 (244, 1, 4, 2) := fun _ => ⟨mi_X1_copyFrom, rfl, (by decide +kernel), (by decide +kernel), ⟨nmem 476 (by decide +kernel) (by decide +kernel), him_X1_copyFrom, hse_X1_copyFrom⟩⟩
theorem cl_6_248 : cOK 6 (248, 1, 36, 4) := fun _ => ⟨mi_X4_inHour, rfl, (by decide +kernel), (by decide +kernel), ⟨nmem 1059 (by decide +kernel) (by decide +kernel), him_X4_inHour, hse_X4_inHour⟩⟩
theorem cl_6_252 : cOK 6 (252, 0, 110, 6) := fun _ => ⟨mi_X6_mayReach, rfl, (by decide +kernel), (by decide +kernel), ⟨gmem 1085 (by decide +kernel) (by decide +kernel), him_X6_mayReach, hse_X6_mayReach⟩⟩
theorem cl_6_256 : cOK 6 (256, 1, 35, 7) := fun _ => ⟨mi_X4_alone, rfl, (by decide +kernel), (by decide +kernel), ⟨nmem 1093 (by decide +kernel) (by decide +kernel), him_X4_alone, hse_X4_alone⟩⟩
theorem cl_6_260 : cOK 6 (260, 0, 112, 4) := fun _ => ⟨mi_X6_allHear, rfl, (by decide +kernel), (by decide +kernel), ⟨gmem 1098 (by decide +kernel) (by decide +kernel), him_X6_allHear, hse_X6_allHear⟩⟩
theorem cl_6_264 : cOK 6 (264, 0, 102, 5) := fun _ => ⟨mi_X6_heardAlone, rfl, (by decide +kernel), (by decide +kernel), ⟨gmem 1109 (by decide +kernel) (by decide +kernel), him_X6_heardAlone, hse_X6_heardAlone⟩⟩
theorem cl_6_268 : cOK 6 (268, 0, 101, 5) := fun _ => ⟨mi_X6_hearsAlone, rfl, (by decide +kernel), (by decide +kernel), ⟨gmem 1113 (by decide +kernel) (by decide +kernel), him_X6_hearsAlone, hse_X6_hearsAlone⟩⟩
theorem cl_6_275 : cOK 6 (275, 2, 116, 2) := fun _ => ⟨mi_X6_commonDivisor, rfl, (by decide +kernel), (by decide +kernel), ⟨gmem 1124 (by decide +kernel) (by decide +kernel), hst_X6_commonDivisor⟩⟩
theorem cl_6_281 : cOK 6 (281, 0, 114, 4) := fun _ => ⟨mi_X6_timesAreRight, rfl, (by decide +kernel), (by decide +kernel), ⟨gmem 1141 (by decide +kernel) (by decide +kernel), him_X6_timesAreRight, hse_X6_timesAreRight⟩⟩
theorem cl_6_284 : cOK 6 (284, 0, 113, 3) := fun _ => ⟨mi_X6_isHeardAsTold, rfl, (by decide +kernel), (by decide +kernel), ⟨gmem 1145 (by decide +kernel) (by decide +kernel), him_X6_isHeardAsTold, hse_X6_isHeardAsTold⟩⟩
theorem cl_6_288 : cOK 6 (288, 1, 26, 1) := fun _ => ⟨mi_X2_lastClick, rfl, (by decide +kernel), (by decide +kernel), ⟨nmem 1156 (by decide +kernel) (by decide +kernel), him_X2_lastClick, hse_X2_lastClick⟩⟩
theorem cl_6_294 : cOK 6 (294, 1, 25, 2) := fun _ => ⟨mi_X2_noteClick, rfl, (by decide +kernel), (by decide +kernel), ⟨nmem 1160 (by decide +kernel) (by decide +kernel), him_X2_noteClick, hse_X2_noteClick⟩⟩
theorem cl_6_297 : cOK 6 (297, 0, 115, 3) := fun _ => ⟨mi_X6_pace, rfl, (by decide +kernel), (by decide +kernel), ⟨gmem 1171 (by decide +kernel) (by decide +kernel), him_X6_pace, hse_X6_pace⟩⟩
theorem cl_6_300 : cOK 6 (300, 1, 23, 2) := fun _ => ⟨mi_X2_copyFrom, rfl, (by decide +kernel), (by decide +kernel), ⟨nmem 461 (by decide +kernel) (by decide +kernel), him_X2_copyFrom, hse_X2_copyFrom⟩⟩
theorem cl_6_326 : cOK 6 (326, 1, 33, 1) := fun _ => ⟨mi_X4_unhear, rfl, (by decide +kernel), (by decide +kernel), ⟨nmem 502 (by decide +kernel) (by decide +kernel), him_X4_unhear, hse_X4_unhear⟩⟩
theorem cl_6_327 : cOK 6 (327, 1, 34, 5) := fun _ => ⟨mi_X4_rowOf, rfl, (by decide +kernel), (by decide +kernel), ⟨nmem 919 (by decide +kernel) (by decide +kernel), him_X4_rowOf, hse_X4_rowOf⟩⟩
theorem cl_6_330 : cOK 6 (330, 1, 21, 3) := fun _ => ⟨mi_X1_soundsIn, rfl, (by decide +kernel), (by decide +kernel), ⟨nmem 944 (by decide +kernel) (by decide +kernel), him_X1_soundsIn, hse_X1_soundsIn⟩⟩
theorem cl_6_333 : cOK 6 (333, 1, 20, 3) := fun _ => ⟨mi_X1_needOf, rfl, (by decide +kernel), (by decide +kernel), ⟨nmem 961 (by decide +kernel) (by decide +kernel), him_X1_needOf, hse_X1_needOf⟩⟩
theorem cl_6_336 : cOK 6 (336, 0, 108, 4) := fun _ => ⟨mi_X6_hearersWith, rfl, (by decide +kernel), (by decide +kernel), ⟨gmem 1050 (by decide +kernel) (by decide +kernel), him_X6_hearersWith, hse_X6_hearersWith⟩⟩
theorem cl_6_339 : cOK 6 (339, 2, 231, 2) := fun _ => ⟨mi_J7_fill_53178, rfl, (by decide +kernel), (by decide +kernel), ⟨gmem 1054 (by decide +kernel) (by decide +kernel), hst_J7_fill_53178⟩⟩
theorem cl_6_345 : cOK 6 (345, 0, 109, 4) := fun _ => ⟨mi_X6_tryWorks, rfl, (by decide +kernel), (by decide +kernel), ⟨gmem 1055 (by decide +kernel) (by decide +kernel), him_X6_tryWorks, hse_X6_tryWorks⟩⟩
theorem cl_6_348 : cOK 6 (348, 2, 905, 1) := fun h => absurd h (by decide)
theorem cl_6_351 : cOK 6 (351, 2, 111, 2) := fun _ => ⟨mi_X6_airEats, rfl, (by decide +kernel), (by decide +kernel), ⟨gmem 1090 (by decide +kernel) (by decide +kernel), hst_X6_airEats⟩⟩
theorem cl_7_127 : cOK 7 (127, 0, 121, 2) := fun _ => ⟨mi_X7_byteAt, rfl, (by decide +kernel), (by decide +kernel), ⟨gmem 1354 (by decide +kernel) (by decide +kernel), him_X7_byteAt, hse_X7_byteAt⟩⟩
theorem cl_7_137 : cOK 7 (137, 0, 122, 1) := fun _ => ⟨mi_X7_blanks, rfl, (by decide +kernel), (by decide +kernel), ⟨gmem 1350 (by decide +kernel) (by decide +kernel), him_X7_blanks, hse_X7_blanks⟩⟩
theorem cl_7_140 : cOK 7 (140, 2, 124, 1) := fun _ => ⟨mi_X7_isDigit, rfl, (by decide +kernel), (by decide +kernel), ⟨gmem 1393 (by decide +kernel) (by decide +kernel), hst_X7_isDigit⟩⟩
theorem cl_7_144 : cOK 7 (144, 0, 123, 3) := fun _ => ⟨mi_X7_wrong, rfl, (by decide +kernel), (by decide +kernel), ⟨gmem 1377 (by decide +kernel) (by decide +kernel), him_X7_wrong, hse_X7_wrong⟩⟩
theorem cl_7_149 : cOK 7 (149, 2, 119, 3) := fun _ => ⟨mi_X7_in, rfl, (by decide +kernel), (by decide +kernel), ⟨gmem 1339 (by decide +kernel) (by decide +kernel), hst_X7_in⟩⟩
theorem cl_7_153 : cOK 7 (153, 0, 126, 1) := fun _ => ⟨mi_X7_wordHere, rfl, (by decide +kernel), (by decide +kernel), ⟨gmem 1370 (by decide +kernel) (by decide +kernel), him_X7_wordHere, hse_X7_wordHere⟩⟩
theorem cl_7_157 : cOK 7 (157, 2, 127, 6) := fun _ => ⟨mi_X7_six, rfl, (by decide +kernel), (by decide +kernel), ⟨gmem 1374 (by decide +kernel) (by decide +kernel), hst_X7_six⟩⟩
theorem cl_7_164 : cOK 7 (164, 0, 128, 7) := fun _ => ⟨mi_X7_isWord, rfl, (by decide +kernel), (by decide +kernel), ⟨gmem 1366 (by decide +kernel) (by decide +kernel), him_X7_isWord, hse_X7_isWord⟩⟩
theorem cl_7_168 : cOK 7 (168, 0, 132, 1) := fun _ => ⟨mi_X7_kindHere, rfl, (by decide +kernel), (by decide +kernel), ⟨gmem 1362 (by decide +kernel) (by decide +kernel), him_X7_kindHere, hse_X7_kindHere⟩⟩
theorem cl_7_171 : cOK 7 (171, 0, 133, 2) := fun _ => ⟨mi_X7_isFull, rfl, (by decide +kernel), (by decide +kernel), ⟨gmem 1381 (by decide +kernel) (by decide +kernel), him_X7_isFull, hse_X7_isFull⟩⟩
theorem cl_7_174 : cOK 7 (174, 0, 129, 1) := fun _ => ⟨mi_X7_skipWord, rfl, (by decide +kernel), (by decide +kernel), ⟨gmem 1385 (by decide +kernel) (by decide +kernel), him_X7_skipWord, hse_X7_skipWord⟩⟩
theorem cl_7_177 : cOK 7 (177, 0, 125, 3) := fun _ => ⟨mi_X7_number, rfl, (by decide +kernel), (by decide +kernel), ⟨gmem 1389 (by decide +kernel) (by decide +kernel), him_X7_number, hse_X7_number⟩⟩
theorem cl_7_182 : cOK 7 (182, 0, 135, 2) := fun _ => ⟨mi_X7_readsGround, rfl, (by decide +kernel), (by decide +kernel), ⟨gmem 1398 (by decide +kernel) (by decide +kernel), him_X7_readsGround, hse_X7_readsGround⟩⟩
theorem cl_7_186 : cOK 7 (186, 0, 136, 3) := fun _ => ⟨mi_X7_readsWork, rfl, (by decide +kernel), (by decide +kernel), ⟨gmem 1402 (by decide +kernel) (by decide +kernel), him_X7_readsWork, hse_X7_readsWork⟩⟩
theorem cl_7_189 : cOK 7 (189, 0, 130, 1) := fun _ => ⟨mi_X7_closes, rfl, (by decide +kernel), (by decide +kernel), ⟨gmem 1406 (by decide +kernel) (by decide +kernel), him_X7_closes, hse_X7_closes⟩⟩
theorem cl_7_192 : cOK 7 (192, 0, 118, 4) := fun _ => ⟨mi_X7_bad, rfl, (by decide +kernel), (by decide +kernel), ⟨gmem 1342 (by decide +kernel) (by decide +kernel), him_X7_bad, hse_X7_bad⟩⟩
theorem cl_7_196 : cOK 7 (196, 0, 131, 2) := fun _ => ⟨mi_X7_starts, rfl, (by decide +kernel), (by decide +kernel), ⟨gmem 1346 (by decide +kernel) (by decide +kernel), him_X7_starts, hse_X7_starts⟩⟩
theorem cl_7_199 : cOK 7 (199, 0, 134, 1) := fun _ => ⟨mi_X7_clause, rfl, (by decide +kernel), (by decide +kernel), ⟨gmem 1358 (by decide +kernel) (by decide +kernel), him_X7_clause, hse_X7_clause⟩⟩
theorem cl_7_214 : cOK 7 (214, 0, 138, 1) := fun _ => ⟨mi_X7_rule, rfl, (by decide +kernel), (by decide +kernel), ⟨gmem 1414 (by decide +kernel) (by decide +kernel), him_X7_rule, hse_X7_rule⟩⟩
