set_option maxRecDepth 100000 in
theorem tb_law_21 : (((mi_tab mi_L_law).drop (60 * 21)).take 60).all (eOK mi_L_law) = true := by decide +kernel
set_option maxRecDepth 100000 in
theorem tb_law_22 : (((mi_tab mi_L_law).drop (60 * 22)).take 60).all (eOK mi_L_law) = true := by decide +kernel
set_option maxRecDepth 100000 in
theorem tb_law_23 : (((mi_tab mi_L_law).drop (60 * 23)).take 60).all (eOK mi_L_law) = true := by decide +kernel
set_option maxRecDepth 100000 in
theorem tb_law_24 : (((mi_tab mi_L_law).drop (60 * 24)).take 60).all (eOK mi_L_law) = true := by decide +kernel
set_option maxRecDepth 100000 in
theorem tb_law_25 : (((mi_tab mi_L_law).drop (60 * 25)).take 60).all (eOK mi_L_law) = true := by decide +kernel
set_option maxRecDepth 100000 in
theorem tb_law_26 : (((mi_tab mi_L_law).drop (60 * 26)).take 60).all (eOK mi_L_law) = true := by decide +kernel
set_option maxRecDepth 100000 in
theorem tb_law_27 : (((mi_tab mi_L_law).drop (60 * 27)).take 60).all (eOK mi_L_law) = true := by decide +kernel
set_option maxRecDepth 100000 in
theorem tb_L_law : (mi_tab mi_L_law).all (eOK mi_L_law) = true := all_chunks _ _ 60 28 (by decide +kernel) (fun j hj => by
  match j, hj with
  | 0, _ => exact tb_law_0
  | 1, _ => exact tb_law_1
  | 2, _ => exact tb_law_2
  | 3, _ => exact tb_law_3
  | 4, _ => exact tb_law_4
  | 5, _ => exact tb_law_5
  | 6, _ => exact tb_law_6
  | 7, _ => exact tb_law_7
  | 8, _ => exact tb_law_8
  | 9, _ => exact tb_law_9
  | 10, _ => exact tb_law_10
  | 11, _ => exact tb_law_11
  | 12, _ => exact tb_law_12
  | 13, _ => exact tb_law_13
  | 14, _ => exact tb_law_14
  | 15, _ => exact tb_law_15
  | 16, _ => exact tb_law_16
  | 17, _ => exact tb_law_17
  | 18, _ => exact tb_law_18
  | 19, _ => exact tb_law_19
  | 20, _ => exact tb_law_20
  | 21, _ => exact tb_law_21
  | 22, _ => exact tb_law_22
  | 23, _ => exact tb_law_23
  | 24, _ => exact tb_law_24
  | 25, _ => exact tb_law_25
  | 26, _ => exact tb_law_26
  | 27, _ => exact tb_law_27
  | j + 28, hj => exact absurd hj (by omega))
