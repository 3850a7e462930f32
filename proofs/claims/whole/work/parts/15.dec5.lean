set_option maxRecDepth 100000 in
theorem tb_law_14 : (((mi_tab mi_L_law).drop (60 * 14)).take 60).all (eOK mi_L_law) = true := by decide +kernel
set_option maxRecDepth 100000 in
theorem tb_law_15 : (((mi_tab mi_L_law).drop (60 * 15)).take 60).all (eOK mi_L_law) = true := by decide +kernel
set_option maxRecDepth 100000 in
theorem tb_law_16 : (((mi_tab mi_L_law).drop (60 * 16)).take 60).all (eOK mi_L_law) = true := by decide +kernel
set_option maxRecDepth 100000 in
theorem tb_law_17 : (((mi_tab mi_L_law).drop (60 * 17)).take 60).all (eOK mi_L_law) = true := by decide +kernel
set_option maxRecDepth 100000 in
theorem tb_law_18 : (((mi_tab mi_L_law).drop (60 * 18)).take 60).all (eOK mi_L_law) = true := by decide +kernel
set_option maxRecDepth 100000 in
theorem tb_law_19 : (((mi_tab mi_L_law).drop (60 * 19)).take 60).all (eOK mi_L_law) = true := by decide +kernel
set_option maxRecDepth 100000 in
theorem tb_law_20 : (((mi_tab mi_L_law).drop (60 * 20)).take 60).all (eOK mi_L_law) = true := by decide +kernel
