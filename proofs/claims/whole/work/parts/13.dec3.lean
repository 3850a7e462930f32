set_option maxRecDepth 100000 in
theorem tb_law_0 : (((mi_tab mi_L_law).drop (60 * 0)).take 60).all (eOK mi_L_law) = true := by decide +kernel
set_option maxRecDepth 100000 in
theorem tb_law_1 : (((mi_tab mi_L_law).drop (60 * 1)).take 60).all (eOK mi_L_law) = true := by decide +kernel
set_option maxRecDepth 100000 in
theorem tb_law_2 : (((mi_tab mi_L_law).drop (60 * 2)).take 60).all (eOK mi_L_law) = true := by decide +kernel
set_option maxRecDepth 100000 in
theorem tb_law_3 : (((mi_tab mi_L_law).drop (60 * 3)).take 60).all (eOK mi_L_law) = true := by decide +kernel
set_option maxRecDepth 100000 in
theorem tb_law_4 : (((mi_tab mi_L_law).drop (60 * 4)).take 60).all (eOK mi_L_law) = true := by decide +kernel
set_option maxRecDepth 100000 in
theorem tb_law_5 : (((mi_tab mi_L_law).drop (60 * 5)).take 60).all (eOK mi_L_law) = true := by decide +kernel
set_option maxRecDepth 100000 in
theorem tb_law_6 : (((mi_tab mi_L_law).drop (60 * 6)).take 60).all (eOK mi_L_law) = true := by decide +kernel
