set_option maxRecDepth 100000 in
theorem tb_law_7 : (((mi_tab mi_L_law).drop (60 * 7)).take 60).all (eOK mi_L_law) = true := by decide +kernel
set_option maxRecDepth 100000 in
theorem tb_law_8 : (((mi_tab mi_L_law).drop (60 * 8)).take 60).all (eOK mi_L_law) = true := by decide +kernel
set_option maxRecDepth 100000 in
theorem tb_law_9 : (((mi_tab mi_L_law).drop (60 * 9)).take 60).all (eOK mi_L_law) = true := by decide +kernel
set_option maxRecDepth 100000 in
theorem tb_law_10 : (((mi_tab mi_L_law).drop (60 * 10)).take 60).all (eOK mi_L_law) = true := by decide +kernel
set_option maxRecDepth 100000 in
theorem tb_law_11 : (((mi_tab mi_L_law).drop (60 * 11)).take 60).all (eOK mi_L_law) = true := by decide +kernel
set_option maxRecDepth 100000 in
theorem tb_law_12 : (((mi_tab mi_L_law).drop (60 * 12)).take 60).all (eOK mi_L_law) = true := by decide +kernel
set_option maxRecDepth 100000 in
theorem tb_law_13 : (((mi_tab mi_L_law).drop (60 * 13)).take 60).all (eOK mi_L_law) = true := by decide +kernel
