/-! the classes' field words: printed by wip/gen/gen4.py -/
theorem ci_X0 : GoodIn lw_tbl (u_ws RX0 TX0 4) := goodIn_r _ [386, 388, 390, 392] (by decide +kernel) (by decide +kernel)
theorem ci_X1 : GoodIn lw_tbl (u_ws RX1 TX1 18) := goodIn_r _ [232, 234, 236, 238, 240, 242, 244, 246, 248, 250, 252, 254, 256, 258, 260, 262, 264, 266] (by decide +kernel) (by decide +kernel)
theorem ci_X2 : GoodIn lw_tbl (u_ws RX2 TX2 5) := goodIn_r _ [292, 294, 296, 298, 300] (by decide +kernel) (by decide +kernel)
theorem ci_X3 : GoodIn lw_tbl (u_ws RX3 TX3 10) := goodIn_r _ [332, 334, 336, 338, 340, 342, 344, 346, 348, 350] (by decide +kernel) (by decide +kernel)
theorem ci_X4 : GoodIn lw_tbl (u_ws RX4 TX4 5) := goodIn_r _ [361, 363, 365, 367, 369] (by decide +kernel) (by decide +kernel)
theorem ci_X5 : GoodIn lw_tbl (u_ws RX5 TX5 6) := goodIn_r _ [169, 171, 173, 175, 177, 179] (by decide +kernel) (by decide +kernel)
theorem ci_X6 : GoodIn lw_tbl (u_ws RX6 TX6 15) := goodIn_r _ [410, 412, 414, 416, 418, 420, 422, 424, 426, 428, 430, 432, 434, 436, 438] (by decide +kernel) (by decide +kernel)
theorem ci_X7 : GoodIn lw_tbl (u_ws RX7 TX7 48) := goodIn_r _ [1230, 1232, 1234, 1236, 1238, 1240, 1242, 1244, 1246, 1248, 1250, 1252, 1254, 1256, 1258, 1260, 1262, 1264, 1266, 1268, 1270, 1272, 1274, 1276, 1278, 1280, 1282, 1284, 1286, 1288, 1290, 1292, 1294, 1296, 1298, 1300, 1302, 1304, 1306, 1308, 1310, 1312, 1314, 1316, 1318, 1320, 1322, 1324] (by decide +kernel) (by decide +kernel)
theorem gi_mem {ws : List Cond} (h : GoodIn lw_tbl ws) (hg : ws.all goodWord = true) : ∀ w ∈ ws, w ∈ gTb := fun w hw => List.mem_filter.mpr ⟨(h w hw).1, List.all_eq_true.mp hg w hw⟩
theorem cj_X0 : ∀ w ∈ u_ws RX0 TX0 4, w ∈ gTb := gi_mem ci_X0 (by decide +kernel)
theorem cj_X1 : ∀ w ∈ u_ws RX1 TX1 18, w ∈ gTb := gi_mem ci_X1 (by decide +kernel)
theorem cj_X2 : ∀ w ∈ u_ws RX2 TX2 5, w ∈ gTb := gi_mem ci_X2 (by decide +kernel)
theorem cj_X3 : ∀ w ∈ u_ws RX3 TX3 10, w ∈ gTb := gi_mem ci_X3 (by decide +kernel)
theorem cj_X4 : ∀ w ∈ u_ws RX4 TX4 5, w ∈ gTb := gi_mem ci_X4 (by decide +kernel)
theorem cj_X5 : ∀ w ∈ u_ws RX5 TX5 6, w ∈ gTb := gi_mem ci_X5 (by decide +kernel)
theorem cj_X6 : ∀ w ∈ u_ws RX6 TX6 15, w ∈ gTb := gi_mem ci_X6 (by decide +kernel)
theorem cj_X7 : ∀ w ∈ u_ws RX7 TX7 48, w ∈ gTb := gi_mem ci_X7 (by decide +kernel)
theorem cls_in : ∀ r ∈ vwCl, ∀ w ∈ u_ws r.1 r.2.1 r.2.2, w ∈ gTb := by
  intro r hr
  simp only [vwCl, List.mem_cons, List.not_mem_nil, or_false] at hr
  rcases hr with rfl | rfl | rfl | rfl | rfl | rfl | rfl | rfl
  · exact cj_X0
  · exact cj_X1
  · exact cj_X2
  · exact cj_X3
  · exact cj_X4
  · exact cj_X5
  · exact cj_X6
  · exact cj_X7
