/-! words of the throws of the classes whose link is 7 -/
abbrev upN : List String := ["java/lang/RuntimeException", "java/lang/Exception"]
def strI (c : String) : MethodName := ⟨c, "<init>", "(Ljava/lang/String;)V"⟩
def badW (X : String) : List Cond := [.castable X X, .declares (strI "java/lang/RuntimeException"), .declares (strI "java/lang/Exception"), .declares (strI "java/lang/Throwable")]
theorem th_x2 : ∀ w ∈ (vx_atS RX6 322 "java/lang/IllegalArgumentException" upN).filter goodWord, w ∈ lw_tbl := by decide +kernel
theorem th_x0 : ∀ w ∈ (vx_atS RX6 310 "java/lang/IndexOutOfBoundsException" upN).filter goodWord, w ∈ lw_tbl := by decide +kernel
theorem tb_x2 : ∀ w ∈ (vx_atS RX6 322 "java/lang/IllegalArgumentException" upN).filter (fun w => !goodWord w), w ∈ badW "java/lang/IllegalArgumentException" := by decide +kernel
theorem tb_x0 : ∀ w ∈ (vx_atS RX6 310 "java/lang/IndexOutOfBoundsException" upN).filter (fun w => !goodWord w), w ∈ badW "java/lang/IndexOutOfBoundsException" := by decide +kernel
theorem to_x2 : ∀ w ∈ Cond.classLink RX6 318 "java/lang/IllegalArgumentException" :: Cond.initialized "java/lang/IllegalArgumentException" :: vx_atS RX6 322 "java/lang/IllegalArgumentException" upN, vx_ot w = true := by decide +kernel
theorem to_x0 : ∀ w ∈ Cond.classLink RX6 306 "java/lang/IndexOutOfBoundsException" :: Cond.initialized "java/lang/IndexOutOfBoundsException" :: vx_atS RX6 310 "java/lang/IndexOutOfBoundsException" upN, vx_ot w = true := by decide +kernel
theorem bw_d0 : lw_tbl[530]? = some (.declares (strI "java/lang/RuntimeException")) := by decide +kernel
theorem bw_d1 : lw_tbl[532]? = some (.declares (strI "java/lang/Exception")) := by decide +kernel
theorem bw_d2 : lw_tbl[534]? = some (.declares (strI "java/lang/Throwable")) := by decide +kernel
