/-! The constructors: printed by wip/gen/gen12.py. -/
theorem wo_inst : Cond.instanceMethod Lib.objectInit ∈ gTb := gmem 148 (by decide +kernel) (by decide +kernel)
theorem wo_code : Cond.code Lib.objectInit ⟨#[0xb1]⟩ 1 none ∈ gTb := gmem 149 (by decide +kernel) (by decide +kernel)
theorem wa_int : Cond.arrayClass .int ∈ gTb := gmem 182 (by decide +kernel) (by decide +kernel)
theorem wa_bool : Cond.arrayClass .boolean ∈ gTb := gmem 372 (by decide +kernel) (by decide +kernel)
theorem wa_long : Cond.arrayClass .long ∈ gTb := gmem 1662 (by decide +kernel) (by decide +kernel)
theorem wc_X0 : Cond.code yX0_init cX0_init 1 none ∈ gTb := gmem 376 (by decide +kernel) (by decide +kernel)
theorem wi_X0 : Cond.instanceMethod yX0_init ∈ gTb := gmem 375 (by decide +kernel) (by decide +kernel)
theorem wn_X0 : Cond.instantiable RX0 4 ∈ gTb := gmem 373 (by decide +kernel) (by decide +kernel)
theorem wl_X0 : Cond.methodLink (clsN 0) 3 Lib.objectInit ∈ gTb := gmem 377 (by decide +kernel) (by decide +kernel)
theorem wc_X1 : Cond.code yX1_init cX1_init 1 none ∈ gTb := gmem 187 (by decide +kernel) (by decide +kernel)
theorem wi_X1 : Cond.instanceMethod yX1_init ∈ gTb := gmem 186 (by decide +kernel) (by decide +kernel)
theorem wn_X1 : Cond.instantiable RX1 18 ∈ gTb := gmem 184 (by decide +kernel) (by decide +kernel)
theorem wl_X1 : Cond.methodLink (clsN 1) 3 Lib.objectInit ∈ gTb := gmem 188 (by decide +kernel) (by decide +kernel)
theorem wc_X2 : Cond.code yX2_init cX2_init 1 none ∈ gTb := gmem 275 (by decide +kernel) (by decide +kernel)
theorem wi_X2 : Cond.instanceMethod yX2_init ∈ gTb := gmem 274 (by decide +kernel) (by decide +kernel)
theorem wn_X2 : Cond.instantiable RX2 5 ∈ gTb := gmem 272 (by decide +kernel) (by decide +kernel)
theorem wl_X2 : Cond.methodLink (clsN 2) 3 Lib.objectInit ∈ gTb := gmem 276 (by decide +kernel) (by decide +kernel)
theorem wc_X3 : Cond.code yX3_init cX3_init 1 none ∈ gTb := gmem 314 (by decide +kernel) (by decide +kernel)
theorem wi_X3 : Cond.instanceMethod yX3_init ∈ gTb := gmem 313 (by decide +kernel) (by decide +kernel)
theorem wn_X3 : Cond.instantiable RX3 10 ∈ gTb := gmem 311 (by decide +kernel) (by decide +kernel)
theorem wl_X3 : Cond.methodLink (clsN 3) 3 Lib.objectInit ∈ gTb := gmem 315 (by decide +kernel) (by decide +kernel)
theorem wc_X4 : Cond.code yX4_init cX4_init 1 none ∈ gTb := gmem 308 (by decide +kernel) (by decide +kernel)
theorem wi_X4 : Cond.instanceMethod yX4_init ∈ gTb := gmem 307 (by decide +kernel) (by decide +kernel)
theorem wn_X4 : Cond.instantiable RX4 5 ∈ gTb := gmem 305 (by decide +kernel) (by decide +kernel)
theorem wl_X4 : Cond.methodLink (clsN 4) 3 Lib.objectInit ∈ gTb := gmem 309 (by decide +kernel) (by decide +kernel)
theorem wc_X5 : Cond.code yX5_init cX5_init 1 none ∈ gTb := gmem 154 (by decide +kernel) (by decide +kernel)
theorem wi_X5 : Cond.instanceMethod yX5_init ∈ gTb := gmem 153 (by decide +kernel) (by decide +kernel)
theorem wn_X5 : Cond.instantiable RX5 6 ∈ gTb := gmem 151 (by decide +kernel) (by decide +kernel)
theorem wl_X5 : Cond.methodLink (clsN 5) 3 Lib.objectInit ∈ gTb := gmem 155 (by decide +kernel) (by decide +kernel)
theorem wc_X6 : Cond.code yX6_init cX6_init 2 none ∈ gTb := gmem 146 (by decide +kernel) (by decide +kernel)
theorem wi_X6 : Cond.instanceMethod yX6_init ∈ gTb := gmem 145 (by decide +kernel) (by decide +kernel)
theorem wn_X6 : Cond.instantiable RX6 15 ∈ gTb := gmem 143 (by decide +kernel) (by decide +kernel)
theorem wl_X6 : Cond.methodLink (clsN 6) 1 Lib.objectInit ∈ gTb := gmem 147 (by decide +kernel) (by decide +kernel)
theorem wc_X7 : Cond.code yX7_init cX7_init 2 none ∈ gTb := gmem 1179 (by decide +kernel) (by decide +kernel)
theorem wi_X7 : Cond.instanceMethod yX7_init ∈ gTb := gmem 1178 (by decide +kernel) (by decide +kernel)
theorem wn_X7 : Cond.instantiable RX7 48 ∈ gTb := gmem 1176 (by decide +kernel) (by decide +kernel)
theorem wl_X7 : Cond.methodLink (clsN 7) 1 Lib.objectInit ∈ gTb := gmem 1180 (by decide +kernel) (by decide +kernel)
theorem fk_X0_9 : Cond.fieldLink (clsN 0) 9 (TX0 0).1 (TX0 0).2.1 (TX0 0).2.2.1 ∈ gTb := gmem 378 (by decide +kernel) (by decide +kernel)
theorem fk_X5_9 : Cond.fieldLink (clsN 5) 9 (TX5 0).1 (TX5 0).2.1 (TX5 0).2.2.1 ∈ gTb := gmem 156 (by decide +kernel) (by decide +kernel)
theorem fk_X5_15 : Cond.fieldLink (clsN 5) 15 (TX5 5).1 (TX5 5).2.1 (TX5 5).2.2.1 ∈ gTb := gmem 167 (by decide +kernel) (by decide +kernel)
theorem fk_X1_9 : Cond.fieldLink (clsN 1) 9 (TX1 1).1 (TX1 1).2.1 (TX1 1).2.2.1 ∈ gTb := gmem 200 (by decide +kernel) (by decide +kernel)
theorem fk_X1_15 : Cond.fieldLink (clsN 1) 15 (TX1 2).1 (TX1 2).2.1 (TX1 2).2.2.1 ∈ gTb := gmem 203 (by decide +kernel) (by decide +kernel)
theorem fk_X1_18 : Cond.fieldLink (clsN 1) 18 (TX1 3).1 (TX1 3).2.1 (TX1 3).2.2.1 ∈ gTb := gmem 206 (by decide +kernel) (by decide +kernel)
theorem fk_X1_21 : Cond.fieldLink (clsN 1) 21 (TX1 5).1 (TX1 5).2.1 (TX1 5).2.2.1 ∈ gTb := gmem 211 (by decide +kernel) (by decide +kernel)
theorem fk_X1_24 : Cond.fieldLink (clsN 1) 24 (TX1 6).1 (TX1 6).2.1 (TX1 6).2.2.1 ∈ gTb := gmem 213 (by decide +kernel) (by decide +kernel)
theorem fk_X1_27 : Cond.fieldLink (clsN 1) 27 (TX1 7).1 (TX1 7).2.1 (TX1 7).2.2.1 ∈ gTb := gmem 215 (by decide +kernel) (by decide +kernel)
theorem fk_X1_30 : Cond.fieldLink (clsN 1) 30 (TX1 9).1 (TX1 9).2.1 (TX1 9).2.2.1 ∈ gTb := gmem 219 (by decide +kernel) (by decide +kernel)
theorem fk_X1_33 : Cond.fieldLink (clsN 1) 33 (TX1 10).1 (TX1 10).2.1 (TX1 10).2.2.1 ∈ gTb := gmem 221 (by decide +kernel) (by decide +kernel)
theorem fk_X1_36 : Cond.fieldLink (clsN 1) 36 (TX1 11).1 (TX1 11).2.1 (TX1 11).2.2.1 ∈ gTb := gmem 223 (by decide +kernel) (by decide +kernel)
theorem fk_X1_39 : Cond.fieldLink (clsN 1) 39 (TX1 12).1 (TX1 12).2.1 (TX1 12).2.2.1 ∈ gTb := gmem 225 (by decide +kernel) (by decide +kernel)
theorem fk_X1_42 : Cond.fieldLink (clsN 1) 42 (TX1 14).1 (TX1 14).2.1 (TX1 14).2.2.1 ∈ gTb := gmem 228 (by decide +kernel) (by decide +kernel)
theorem fk_X1_45 : Cond.fieldLink (clsN 1) 45 (TX1 15).1 (TX1 15).2.1 (TX1 15).2.2.1 ∈ gTb := gmem 229 (by decide +kernel) (by decide +kernel)
theorem fk_X1_48 : Cond.fieldLink (clsN 1) 48 (TX1 16).1 (TX1 16).2.1 (TX1 16).2.2.1 ∈ gTb := gmem 230 (by decide +kernel) (by decide +kernel)
theorem fk_X1_51 : Cond.fieldLink (clsN 1) 51 (TX1 17).1 (TX1 17).2.1 (TX1 17).2.2.1 ∈ gTb := gmem 231 (by decide +kernel) (by decide +kernel)
theorem fk_X1_57 : Cond.fieldLink (clsN 1) 57 (TX1 0).1 (TX1 0).2.1 (TX1 0).2.2.1 ∈ gTb := gmem 196 (by decide +kernel) (by decide +kernel)
theorem wf_X1_61 : Cond.methodLink (clsN 1) 61 yJ7_fill_53178 ∈ gTb := gmem 193 (by decide +kernel) (by decide +kernel)
theorem fk_X1_67 : Cond.fieldLink (clsN 1) 67 (TX1 4).1 (TX1 4).2.1 (TX1 4).2.2.1 ∈ gTb := gmem 209 (by decide +kernel) (by decide +kernel)
theorem fk_X1_70 : Cond.fieldLink (clsN 1) 70 (TX1 8).1 (TX1 8).2.1 (TX1 8).2.2.1 ∈ gTb := gmem 216 (by decide +kernel) (by decide +kernel)
theorem fk_X1_73 : Cond.fieldLink (clsN 1) 73 (TX1 13).1 (TX1 13).2.1 (TX1 13).2.2.1 ∈ gTb := gmem 226 (by decide +kernel) (by decide +kernel)
theorem wv_X1 : Cond.methodLink (clsN 1) 54 yX1_clear ∈ gTb := gmem 189 (by decide +kernel) (by decide +kernel)
theorem fk_X2_9 : Cond.fieldLink (clsN 2) 9 (TX2 0).1 (TX2 0).2.1 (TX2 0).2.2.1 ∈ gTb := gmem 282 (by decide +kernel) (by decide +kernel)
theorem fk_X2_15 : Cond.fieldLink (clsN 2) 15 (TX2 2).1 (TX2 2).2.1 (TX2 2).2.2.1 ∈ gTb := gmem 286 (by decide +kernel) (by decide +kernel)
theorem fk_X2_18 : Cond.fieldLink (clsN 2) 18 (TX2 3).1 (TX2 3).2.1 (TX2 3).2.2.1 ∈ gTb := gmem 288 (by decide +kernel) (by decide +kernel)
theorem fk_X2_24 : Cond.fieldLink (clsN 2) 24 (TX2 1).1 (TX2 1).2.1 (TX2 1).2.2.1 ∈ gTb := gmem 284 (by decide +kernel) (by decide +kernel)
theorem wf_X2_28 : Cond.methodLink (clsN 2) 28 yJ7_fill_53178 ∈ gTb := gmem 281 (by decide +kernel) (by decide +kernel)
theorem fk_X2_34 : Cond.fieldLink (clsN 2) 34 (TX2 4).1 (TX2 4).2.1 (TX2 4).2.2.1 ∈ gTb := gmem 290 (by decide +kernel) (by decide +kernel)
theorem wv_X2 : Cond.methodLink (clsN 2) 21 yX2_clear ∈ gTb := gmem 277 (by decide +kernel) (by decide +kernel)
theorem wk_X4_9 : Cond.classLink (clsN 4) 9 RX3 ∈ gTb := gmem 310 (by decide +kernel) (by decide +kernel)
theorem wt_X4_11 : Cond.methodLinkNest (clsN 4) 11 yX3_init "NightSounds" ∈ nTb := nmem 312 (by decide +kernel) (by decide +kernel)
theorem fk_X4_12 : Cond.fieldLink (clsN 4) 12 (TX4 0).1 (TX4 0).2.1 (TX4 0).2.2.1 ∈ gTb := gmem 355 (by decide +kernel) (by decide +kernel)
theorem wk_X4_18 : Cond.classLink (clsN 4) 18 ("[" ++ (FieldType.array .int).toString) ∈ gTb := gmem 353 (by decide +kernel) (by decide +kernel)
theorem fk_X4_20 : Cond.fieldLink (clsN 4) 20 (TX4 1).1 (TX4 1).2.1 (TX4 1).2.2.1 ∈ gTb := gmem 357 (by decide +kernel) (by decide +kernel)
theorem fk_X4_23 : Cond.fieldLink (clsN 4) 23 (TX4 2).1 (TX4 2).2.1 (TX4 2).2.2.1 ∈ gTb := gmem 358 (by decide +kernel) (by decide +kernel)
theorem fk_X4_27 : Cond.fieldLink (clsN 4) 27 (TX4 3).1 (TX4 3).2.1 (TX4 3).2.2.1 ∈ gTb := gmem 359 (by decide +kernel) (by decide +kernel)
theorem fk_X4_31 : Cond.fieldLink (clsN 4) 31 (TX4 4).1 (TX4 4).2.1 (TX4 4).2.2.1 ∈ gTb := gmem 360 (by decide +kernel) (by decide +kernel)
theorem wk_X6_7 : Cond.classLink (clsN 6) 7 RX5 ∈ gTb := gmem 150 (by decide +kernel) (by decide +kernel)
theorem wt_X6_9 : Cond.methodLinkNest (clsN 6) 9 yX5_init "NightSounds" ∈ nTb := nmem 152 (by decide +kernel) (by decide +kernel)
theorem fk_X6_10 : Cond.fieldLink (clsN 6) 10 (TX6 0).1 (TX6 0).2.1 (TX6 0).2.2.1 ∈ gTb := gmem 395 (by decide +kernel) (by decide +kernel)
theorem wk_X6_16 : Cond.classLink (clsN 6) 16 RX1 ∈ gTb := gmem 183 (by decide +kernel) (by decide +kernel)
theorem wt_X6_18 : Cond.methodLinkNest (clsN 6) 18 yX1_init "NightSounds" ∈ nTb := nmem 185 (by decide +kernel) (by decide +kernel)
theorem fk_X6_19 : Cond.fieldLink (clsN 6) 19 (TX6 1).1 (TX6 1).2.1 (TX6 1).2.2.1 ∈ gTb := gmem 396 (by decide +kernel) (by decide +kernel)
theorem fk_X6_23 : Cond.fieldLink (clsN 6) 23 (TX6 2).1 (TX6 2).2.1 (TX6 2).2.2.1 ∈ gTb := gmem 397 (by decide +kernel) (by decide +kernel)
theorem fk_X6_26 : Cond.fieldLink (clsN 6) 26 (TX6 3).1 (TX6 3).2.1 (TX6 3).2.2.1 ∈ gTb := gmem 398 (by decide +kernel) (by decide +kernel)
theorem fk_X6_29 : Cond.fieldLink (clsN 6) 29 (TX6 4).1 (TX6 4).2.1 (TX6 4).2.2.1 ∈ gTb := gmem 399 (by decide +kernel) (by decide +kernel)
theorem wk_X6_32 : Cond.classLink (clsN 6) 32 RX0 ∈ gTb := gmem 269 (by decide +kernel) (by decide +kernel)
theorem fk_X6_34 : Cond.fieldLink (clsN 6) 34 (TX6 5).1 (TX6 5).2.1 (TX6 5).2.2.1 ∈ gTb := gmem 400 (by decide +kernel) (by decide +kernel)
theorem wk_X6_38 : Cond.classLink (clsN 6) 38 RX2 ∈ gTb := gmem 271 (by decide +kernel) (by decide +kernel)
theorem wt_X6_40 : Cond.methodLinkNest (clsN 6) 40 yX2_init "NightSounds" ∈ nTb := nmem 273 (by decide +kernel) (by decide +kernel)
theorem fk_X6_41 : Cond.fieldLink (clsN 6) 41 (TX6 7).1 (TX6 7).2.1 (TX6 7).2.2.1 ∈ gTb := gmem 402 (by decide +kernel) (by decide +kernel)
theorem fk_X6_45 : Cond.fieldLink (clsN 6) 45 (TX6 8).1 (TX6 8).2.1 (TX6 8).2.2.1 ∈ gTb := gmem 403 (by decide +kernel) (by decide +kernel)
theorem wk_X6_49 : Cond.classLink (clsN 6) 49 RX4 ∈ gTb := gmem 304 (by decide +kernel) (by decide +kernel)
theorem wt_X6_51 : Cond.methodLinkNest (clsN 6) 51 yX4_init "NightSounds" ∈ nTb := nmem 306 (by decide +kernel) (by decide +kernel)
theorem fk_X6_52 : Cond.fieldLink (clsN 6) 52 (TX6 10).1 (TX6 10).2.1 (TX6 10).2.2.1 ∈ gTb := gmem 405 (by decide +kernel) (by decide +kernel)
theorem fk_X6_56 : Cond.fieldLink (clsN 6) 56 (TX6 11).1 (TX6 11).2.1 (TX6 11).2.2.1 ∈ gTb := gmem 406 (by decide +kernel) (by decide +kernel)
theorem fk_X6_60 : Cond.fieldLink (clsN 6) 60 (TX6 12).1 (TX6 12).2.1 (TX6 12).2.2.1 ∈ gTb := gmem 407 (by decide +kernel) (by decide +kernel)
theorem fk_X6_64 : Cond.fieldLink (clsN 6) 64 (TX6 13).1 (TX6 13).2.1 (TX6 13).2.2.1 ∈ gTb := gmem 408 (by decide +kernel) (by decide +kernel)
theorem fk_X6_67 : Cond.fieldLink (clsN 6) 67 (TX6 14).1 (TX6 14).2.1 (TX6 14).2.2.1 ∈ gTb := gmem 409 (by decide +kernel) (by decide +kernel)
theorem wt_X6_70 : Cond.methodLinkNest (clsN 6) 70 yX0_init "NightSounds" ∈ nTb := nmem 374 (by decide +kernel) (by decide +kernel)
theorem fk_X7_9 : Cond.fieldLink (clsN 7) 9 (TX7 3).1 (TX7 3).2.1 (TX7 3).2.2.1 ∈ gTb := gmem 1185 (by decide +kernel) (by decide +kernel)
theorem fk_X7_13 : Cond.fieldLink (clsN 7) 13 (TX7 8).1 (TX7 8).2.1 (TX7 8).2.2.1 ∈ gTb := gmem 1190 (by decide +kernel) (by decide +kernel)
theorem fk_X7_17 : Cond.fieldLink (clsN 7) 17 (TX7 9).1 (TX7 9).2.1 (TX7 9).2.2.1 ∈ gTb := gmem 1191 (by decide +kernel) (by decide +kernel)
theorem fk_X7_20 : Cond.fieldLink (clsN 7) 20 (TX7 10).1 (TX7 10).2.1 (TX7 10).2.2.1 ∈ gTb := gmem 1192 (by decide +kernel) (by decide +kernel)
theorem fk_X7_23 : Cond.fieldLink (clsN 7) 23 (TX7 11).1 (TX7 11).2.1 (TX7 11).2.2.1 ∈ gTb := gmem 1193 (by decide +kernel) (by decide +kernel)
theorem fk_X7_26 : Cond.fieldLink (clsN 7) 26 (TX7 12).1 (TX7 12).2.1 (TX7 12).2.2.1 ∈ gTb := gmem 1194 (by decide +kernel) (by decide +kernel)
theorem fk_X7_29 : Cond.fieldLink (clsN 7) 29 (TX7 13).1 (TX7 13).2.1 (TX7 13).2.2.1 ∈ gTb := gmem 1195 (by decide +kernel) (by decide +kernel)
theorem fk_X7_32 : Cond.fieldLink (clsN 7) 32 (TX7 14).1 (TX7 14).2.1 (TX7 14).2.2.1 ∈ gTb := gmem 1196 (by decide +kernel) (by decide +kernel)
theorem fk_X7_35 : Cond.fieldLink (clsN 7) 35 (TX7 15).1 (TX7 15).2.1 (TX7 15).2.2.1 ∈ gTb := gmem 1197 (by decide +kernel) (by decide +kernel)
theorem fk_X7_38 : Cond.fieldLink (clsN 7) 38 (TX7 16).1 (TX7 16).2.1 (TX7 16).2.2.1 ∈ gTb := gmem 1198 (by decide +kernel) (by decide +kernel)
theorem fk_X7_41 : Cond.fieldLink (clsN 7) 41 (TX7 17).1 (TX7 17).2.1 (TX7 17).2.2.1 ∈ gTb := gmem 1199 (by decide +kernel) (by decide +kernel)
theorem fk_X7_44 : Cond.fieldLink (clsN 7) 44 (TX7 18).1 (TX7 18).2.1 (TX7 18).2.2.1 ∈ gTb := gmem 1200 (by decide +kernel) (by decide +kernel)
theorem fk_X7_47 : Cond.fieldLink (clsN 7) 47 (TX7 19).1 (TX7 19).2.1 (TX7 19).2.2.1 ∈ gTb := gmem 1201 (by decide +kernel) (by decide +kernel)
theorem wk_X7_50 : Cond.classLink (clsN 7) 50 ("[" ++ (FieldType.array .int).toString) ∈ gTb := gmem 1181 (by decide +kernel) (by decide +kernel)
theorem fk_X7_52 : Cond.fieldLink (clsN 7) 52 (TX7 20).1 (TX7 20).2.1 (TX7 20).2.2.1 ∈ gTb := gmem 1202 (by decide +kernel) (by decide +kernel)
theorem fk_X7_55 : Cond.fieldLink (clsN 7) 55 (TX7 21).1 (TX7 21).2.1 (TX7 21).2.2.1 ∈ gTb := gmem 1203 (by decide +kernel) (by decide +kernel)
theorem fk_X7_58 : Cond.fieldLink (clsN 7) 58 (TX7 22).1 (TX7 22).2.1 (TX7 22).2.2.1 ∈ gTb := gmem 1204 (by decide +kernel) (by decide +kernel)
theorem fk_X7_61 : Cond.fieldLink (clsN 7) 61 (TX7 23).1 (TX7 23).2.1 (TX7 23).2.2.1 ∈ gTb := gmem 1205 (by decide +kernel) (by decide +kernel)
theorem fk_X7_64 : Cond.fieldLink (clsN 7) 64 (TX7 24).1 (TX7 24).2.1 (TX7 24).2.2.1 ∈ gTb := gmem 1206 (by decide +kernel) (by decide +kernel)
theorem fk_X7_67 : Cond.fieldLink (clsN 7) 67 (TX7 25).1 (TX7 25).2.1 (TX7 25).2.2.1 ∈ gTb := gmem 1207 (by decide +kernel) (by decide +kernel)
theorem fk_X7_70 : Cond.fieldLink (clsN 7) 70 (TX7 27).1 (TX7 27).2.1 (TX7 27).2.2.1 ∈ gTb := gmem 1209 (by decide +kernel) (by decide +kernel)
theorem fk_X7_73 : Cond.fieldLink (clsN 7) 73 (TX7 28).1 (TX7 28).2.1 (TX7 28).2.2.1 ∈ gTb := gmem 1210 (by decide +kernel) (by decide +kernel)
theorem fk_X7_76 : Cond.fieldLink (clsN 7) 76 (TX7 33).1 (TX7 33).2.1 (TX7 33).2.2.1 ∈ gTb := gmem 1215 (by decide +kernel) (by decide +kernel)
theorem fk_X7_79 : Cond.fieldLink (clsN 7) 79 (TX7 34).1 (TX7 34).2.1 (TX7 34).2.2.1 ∈ gTb := gmem 1216 (by decide +kernel) (by decide +kernel)
theorem fk_X7_82 : Cond.fieldLink (clsN 7) 82 (TX7 35).1 (TX7 35).2.1 (TX7 35).2.2.1 ∈ gTb := gmem 1217 (by decide +kernel) (by decide +kernel)
theorem fk_X7_85 : Cond.fieldLink (clsN 7) 85 (TX7 36).1 (TX7 36).2.1 (TX7 36).2.2.1 ∈ gTb := gmem 1218 (by decide +kernel) (by decide +kernel)
theorem fk_X7_88 : Cond.fieldLink (clsN 7) 88 (TX7 37).1 (TX7 37).2.1 (TX7 37).2.2.1 ∈ gTb := gmem 1219 (by decide +kernel) (by decide +kernel)
theorem fk_X7_91 : Cond.fieldLink (clsN 7) 91 (TX7 38).1 (TX7 38).2.1 (TX7 38).2.2.1 ∈ gTb := gmem 1220 (by decide +kernel) (by decide +kernel)
theorem fk_X7_94 : Cond.fieldLink (clsN 7) 94 (TX7 39).1 (TX7 39).2.1 (TX7 39).2.2.1 ∈ gTb := gmem 1221 (by decide +kernel) (by decide +kernel)
theorem fk_X7_97 : Cond.fieldLink (clsN 7) 97 (TX7 40).1 (TX7 40).2.1 (TX7 40).2.2.1 ∈ gTb := gmem 1222 (by decide +kernel) (by decide +kernel)
theorem fk_X7_100 : Cond.fieldLink (clsN 7) 100 (TX7 41).1 (TX7 41).2.1 (TX7 41).2.2.1 ∈ gTb := gmem 1223 (by decide +kernel) (by decide +kernel)
theorem fk_X7_103 : Cond.fieldLink (clsN 7) 103 (TX7 42).1 (TX7 42).2.1 (TX7 42).2.2.1 ∈ gTb := gmem 1224 (by decide +kernel) (by decide +kernel)
theorem fk_X7_106 : Cond.fieldLink (clsN 7) 106 (TX7 43).1 (TX7 43).2.1 (TX7 43).2.2.1 ∈ gTb := gmem 1225 (by decide +kernel) (by decide +kernel)
theorem fk_X7_109 : Cond.fieldLink (clsN 7) 109 (TX7 44).1 (TX7 44).2.1 (TX7 44).2.2.1 ∈ gTb := gmem 1226 (by decide +kernel) (by decide +kernel)
theorem fk_X7_112 : Cond.fieldLink (clsN 7) 112 (TX7 45).1 (TX7 45).2.1 (TX7 45).2.2.1 ∈ gTb := gmem 1227 (by decide +kernel) (by decide +kernel)
theorem nf_X0 : ∀ j, j < 4 → defaultValue (tyX0 j) = vp_V [.null, .int 0, .int 0, .int 0] j := fun j hj => by
  rcases (show j = 0 ∨ j = 1 ∨ j = 2 ∨ j = 3 by omega) with rfl | rfl | rfl | rfl <;> rfl
theorem nf_X1 : ∀ j, j < 18 → defaultValue (tyX1 j) = vp_V [.int 0, .null, .null, .null, .int 0, .null, .null, .null, .int 0, .null, .null, .null, .null, .int 0, .null, .null, .null, .null] j := fun j hj => by
  rcases (show j = 0 ∨ j = 1 ∨ j = 2 ∨ j = 3 ∨ j = 4 ∨ j = 5 ∨ j = 6 ∨ j = 7 ∨ j = 8 ∨ j = 9 ∨ j = 10 ∨ j = 11 ∨ j = 12 ∨ j = 13 ∨ j = 14 ∨ j = 15 ∨ j = 16 ∨ j = 17 by omega) with rfl | rfl | rfl | rfl | rfl | rfl | rfl | rfl | rfl | rfl | rfl | rfl | rfl | rfl | rfl | rfl | rfl | rfl <;> rfl
theorem nf_X2 : ∀ j, j < 5 → defaultValue (tyX2 j) = vp_V [.null, .int 0, .null, .null, .int 0] j := fun j hj => by
  rcases (show j = 0 ∨ j = 1 ∨ j = 2 ∨ j = 3 ∨ j = 4 by omega) with rfl | rfl | rfl | rfl | rfl <;> rfl
theorem nf_X3 : ∀ j, j < 10 → defaultValue (tyX3 j) = vp_V [.int 0, .int 0, .int 0, .int 0, .int 0, .int 0, .int 0, .int 0, .int 0, .int 0] j := fun j hj => by
  rcases (show j = 0 ∨ j = 1 ∨ j = 2 ∨ j = 3 ∨ j = 4 ∨ j = 5 ∨ j = 6 ∨ j = 7 ∨ j = 8 ∨ j = 9 by omega) with rfl | rfl | rfl | rfl | rfl | rfl | rfl | rfl | rfl | rfl <;> rfl
theorem nf_X4 : ∀ j, j < 5 → defaultValue (tyX4 j) = vp_V [.null, .null, .null, .null, .null] j := fun j hj => by
  rcases (show j = 0 ∨ j = 1 ∨ j = 2 ∨ j = 3 ∨ j = 4 by omega) with rfl | rfl | rfl | rfl | rfl <;> rfl
theorem nf_X5 : ∀ j, j < 6 → defaultValue (tyX5 j) = vp_V [.null, .int 0, .int 0, .int 0, .int 0, .int 0] j := fun j hj => by
  rcases (show j = 0 ∨ j = 1 ∨ j = 2 ∨ j = 3 ∨ j = 4 ∨ j = 5 by omega) with rfl | rfl | rfl | rfl | rfl | rfl <;> rfl
theorem nf_X6 : ∀ j, j < 15 → defaultValue (tyX6 j) = vp_V [.null, .null, .null, .null, .null, .null, .int 0, .null, .null, .int 0, .null, .null, .int 0, .int 0, .null] j := fun j hj => by
  rcases (show j = 0 ∨ j = 1 ∨ j = 2 ∨ j = 3 ∨ j = 4 ∨ j = 5 ∨ j = 6 ∨ j = 7 ∨ j = 8 ∨ j = 9 ∨ j = 10 ∨ j = 11 ∨ j = 12 ∨ j = 13 ∨ j = 14 by omega) with rfl | rfl | rfl | rfl | rfl | rfl | rfl | rfl | rfl | rfl | rfl | rfl | rfl | rfl | rfl <;> rfl
theorem nf_X7 : ∀ j, j < 48 → defaultValue (tyX7 j) = vp_V [.int 0, .int 0, .int 0, .int 0, .int 0, .int 0, .int 0, .int 0, .null, .null, .null, .null, .null, .null, .null, .null, .null, .null, .null, .null, .null, .null, .null, .null, .null, .null, .int 0, .null, .null, .int 0, .int 0, .int 0, .int 0, .null, .null, .null, .null, .null, .null, .null, .null, .null, .null, .null, .null, .null, .int 0, .int 0] j := fun j hj => by
  rcases (show j = 0 ∨ j = 1 ∨ j = 2 ∨ j = 3 ∨ j = 4 ∨ j = 5 ∨ j = 6 ∨ j = 7 ∨ j = 8 ∨ j = 9 ∨ j = 10 ∨ j = 11 ∨ j = 12 ∨ j = 13 ∨ j = 14 ∨ j = 15 ∨ j = 16 ∨ j = 17 ∨ j = 18 ∨ j = 19 ∨ j = 20 ∨ j = 21 ∨ j = 22 ∨ j = 23 ∨ j = 24 ∨ j = 25 ∨ j = 26 ∨ j = 27 ∨ j = 28 ∨ j = 29 ∨ j = 30 ∨ j = 31 ∨ j = 32 ∨ j = 33 ∨ j = 34 ∨ j = 35 ∨ j = 36 ∨ j = 37 ∨ j = 38 ∨ j = 39 ∨ j = 40 ∨ j = 41 ∨ j = 42 ∨ j = 43 ∨ j = 44 ∨ j = 45 ∨ j = 46 ∨ j = 47 by omega) with rfl | rfl | rfl | rfl | rfl | rfl | rfl | rfl | rfl | rfl | rfl | rfl | rfl | rfl | rfl | rfl | rfl | rfl | rfl | rfl | rfl | rfl | rfl | rfl | rfl | rfl | rfl | rfl | rfl | rfl | rfl | rfl | rfl | rfl | rfl | rfl | rfl | rfl | rfl | rfl | rfl | rfl | rfl | rfl | rfl | rfl | rfl | rfl <;> rfl
theorem d_X0_init_0 : decode cX0_init 0 = .ok (.aload_n 0, 1) := by decide +kernel
theorem d_X0_init_1 : decode cX0_init 1 = .ok (.invokespecial 3, 3) := by decide +kernel
theorem d_X0_init_4 : decode cX0_init 4 = .ok (.aload_n 0, 1) := by decide +kernel
theorem d_X0_init_5 : decode cX0_init 5 = .ok (.bipush 12, 2) := by decide +kernel
theorem d_X0_init_7 : decode cX0_init 7 = .ok (.newarray .int, 2) := by decide +kernel
theorem d_X0_init_9 : decode cX0_init 9 = .ok (.putfield 9, 3) := by decide +kernel
theorem d_X0_init_12 : decode cX0_init 12 = .ok (.return_, 1) := by decide +kernel
def es_X0_init (cT : Nat → ClassId) (b : Nat) : List va_E := ((.inr (0, [.ref (b + 1), .int 0, .int 0, .int 0]) : va_E) :: .inl (cT 0, 12, .inl (fun _ => 0)) :: [])
set_option maxHeartbeats 8000000 in
set_option maxRecDepth 100000 in
theorem k_X0 (l : Launch) : KC l yX0_init cX0_init 1 1 20 1 12 (.inr (0, [.null, .int 0, .int 0, .int 0])) es_X0_init := by
  intro D cT b
  refine Met.ofW (cc := cX0_init) (maxL := 1) (ret := none) (by decide) rfl ?_
  intro p e s m args below meth c s₁ B hml hv
  obtain ⟨rfl, hB, hK, hZ⟩ := hv
  have hx := B.exec
  have hb := B.bytes
  have hr := B.returns
  have hts1 := atoms_spec (ws := Cond.code yX0_init cX0_init 1 none :: gTb) B.pre
  have hts : ∀ w ∈ gTb, w.before [Value.ref b].toArray s = true := fun w h => hts1 w (List.mem_cons_of_mem _ h)
  have hown : s.vm.findClass (clsN 0) = some m.cls := findClass_of_methodNamed B.named
  have hlocks := B.notSynchronized
  have hin : meth.name = "<init>" := (name_of_methodNamed B.named B.method).1
  have hS : va_S (fun q => b ≤ q) s.heap s.heap [] := va_S.rf
  have hl := lv_entry ([.ref b]) (n := 1) (Nat.le_of_ble_eq_true rfl)
  rw [lg_entry_eq]
  generalize (lg_sl ([.ref b]) ++ List.replicate (1 - (lg_sl ([.ref b])).length) Slot.unset).toArray = ls at hl ⊢
  have hl : lv_has ls 1 [(0, .ref b)] := hl
  have cI : s.vm.findClass ("[" ++ (newarray.typeOf .int).toString) = some (cT 0) := (hK.2 0 (cT 0, .int) rfl).2
  have cZ : s.vm.findClass ("[" ++ (newarray.typeOf .boolean).toString) = some (cT 1) := (hK.2 1 (cT 1, .boolean) rfl).2
  have cII : s.vm.findClass ("[" ++ (FieldType.array .int).toString) = some (cT 5) := (hK.2 5 (cT 5, .array .int) rfl).2
  have cA3 : s.vm.findClass ("[" ++ (FieldType.object RX0).toString) = some (cT 3) := by obtain ⟨_, _, _, _, _, h⟩ := (hK.2 3 (cT 3, .object RX0) rfl).2; exact h
  have cA4 : s.vm.findClass ("[" ++ (FieldType.object RX2).toString) = some (cT 4) := by obtain ⟨_, _, _, _, _, h⟩ := (hK.2 4 (cT 4, .object RX2) rfl).2; exact h
  refine lv_aload_n hx hb d_X0_init_0 rfl (lv_at hl 0 rfl) ?_
  refine W.objInit hx hb hown (hts _ wl_X0) (hts _ wo_inst) (hts _ wo_code) rfl (by rw [hml]; exact hl.1) rfl d_X0_init_1 (Nat.le_of_ble_eq_true rfl) (Nat.le_of_ble_eq_true rfl) ?_
  refine W.eq (g2 := F0 m 4 ls []) rfl ?_
  refine lv_aload_n hx hb d_X0_init_4 rfl (lv_at hl 0 rfl) ?_
  refine lv_bipush (v := 12) hx hb d_X0_init_5 (by decide) ?_
  refine bw_newa (atype := .int) (cA0 := cT 0) (a0 := (12, .inl (fun _ => 0))) (N' := 12) hx hb (hts _ wa_int) cI (fun cA => rfl) hB hS (by decide) (by decide) (by decide) (Nat.le_of_ble_eq_true rfl) (Nat.le_of_ble_eq_true rfl) d_X0_init_7 (fun H hB hS => ?_)
  have hB : Bw D b ((.inr (0, [.null, .int 0, .int 0, .int 0]) : va_E) :: .inl (cT 0, 12, .inl (fun _ => 0)) :: []) H := hB
  refine W.widen (k := 1) (n := 12) (Nat.le_of_ble_eq_true rfl) (Nat.le_of_ble_eq_true rfl) ?_
  refine W.eq (g2 := F0 m 9 ls [.ref (b + 1), .ref b]) rfl ?_
  refine bw_putF (own := clsN 0) (q0 := 0) (ci := 0) (r := (RX0, TX0, 4)) (v := .ref (b + 1)) (ty := (.array .int)) hx hb hts hown hin hK hB hS rfl rfl 0 (by decide) fk_X0_9 rfl rfl (by decide +kernel) rfl rfl (Nat.le_of_ble_eq_true rfl) d_X0_init_9 (fun H locs hB hS => ?_)
  have hB : Bw D b ((.inr (0, [.ref (b + 1), .int 0, .int 0, .int 0]) : va_E) :: .inl (cT 0, 12, .inl (fun _ => 0)) :: []) H := hB
  refine W.eq (g2 := F0 m 12 ls []) rfl ?_
  exact W.vret hx hb hr (fun t ht hW => ⟨⟨(), rfl, trivial, by show Bw _ _ _ t.heap; rw [ht]; exact hB⟩, hS.F ht⟩) hS.2.2 d_X0_init_12
theorem d_X5_init_0 : decode cX5_init 0 = .ok (.aload_n 0, 1) := by decide +kernel
theorem d_X5_init_1 : decode cX5_init 1 = .ok (.invokespecial 3, 3) := by decide +kernel
theorem d_X5_init_4 : decode cX5_init 4 = .ok (.aload_n 0, 1) := by decide +kernel
theorem d_X5_init_5 : decode cX5_init 5 = .ok (.sipush 600, 3) := by decide +kernel
theorem d_X5_init_8 : decode cX5_init 8 = .ok (.newarray .int, 2) := by decide +kernel
theorem d_X5_init_10 : decode cX5_init 10 = .ok (.putfield 9, 3) := by decide +kernel
theorem d_X5_init_13 : decode cX5_init 13 = .ok (.aload_n 0, 1) := by decide +kernel
theorem d_X5_init_14 : decode cX5_init 14 = .ok (.iconst (-1), 1) := by decide +kernel
theorem d_X5_init_15 : decode cX5_init 15 = .ok (.putfield 15, 3) := by decide +kernel
theorem d_X5_init_18 : decode cX5_init 18 = .ok (.return_, 1) := by decide +kernel
def es_X5_init (cT : Nat → ClassId) (b : Nat) : List va_E := ((.inr (5, [.ref (b + 1), .int 0, .int 0, .int 0, .int 0, .int (-1)]) : va_E) :: .inl (cT 0, 600, .inl (fun _ => 0)) :: [])
set_option maxHeartbeats 8000000 in
set_option maxRecDepth 100000 in
theorem k_X5 (l : Launch) : KC l yX5_init cX5_init 1 1 20 1 600 (.inr (5, [.null, .int 0, .int 0, .int 0, .int 0, .int 0])) es_X5_init := by
  intro D cT b
  refine Met.ofW (cc := cX5_init) (maxL := 1) (ret := none) (by decide) rfl ?_
  intro p e s m args below meth c s₁ B hml hv
  obtain ⟨rfl, hB, hK, hZ⟩ := hv
  have hx := B.exec
  have hb := B.bytes
  have hr := B.returns
  have hts1 := atoms_spec (ws := Cond.code yX5_init cX5_init 1 none :: gTb) B.pre
  have hts : ∀ w ∈ gTb, w.before [Value.ref b].toArray s = true := fun w h => hts1 w (List.mem_cons_of_mem _ h)
  have hown : s.vm.findClass (clsN 5) = some m.cls := findClass_of_methodNamed B.named
  have hlocks := B.notSynchronized
  have hin : meth.name = "<init>" := (name_of_methodNamed B.named B.method).1
  have hS : va_S (fun q => b ≤ q) s.heap s.heap [] := va_S.rf
  have hl := lv_entry ([.ref b]) (n := 1) (Nat.le_of_ble_eq_true rfl)
  rw [lg_entry_eq]
  generalize (lg_sl ([.ref b]) ++ List.replicate (1 - (lg_sl ([.ref b])).length) Slot.unset).toArray = ls at hl ⊢
  have hl : lv_has ls 1 [(0, .ref b)] := hl
  have cI : s.vm.findClass ("[" ++ (newarray.typeOf .int).toString) = some (cT 0) := (hK.2 0 (cT 0, .int) rfl).2
  have cZ : s.vm.findClass ("[" ++ (newarray.typeOf .boolean).toString) = some (cT 1) := (hK.2 1 (cT 1, .boolean) rfl).2
  have cII : s.vm.findClass ("[" ++ (FieldType.array .int).toString) = some (cT 5) := (hK.2 5 (cT 5, .array .int) rfl).2
  have cA3 : s.vm.findClass ("[" ++ (FieldType.object RX0).toString) = some (cT 3) := by obtain ⟨_, _, _, _, _, h⟩ := (hK.2 3 (cT 3, .object RX0) rfl).2; exact h
  have cA4 : s.vm.findClass ("[" ++ (FieldType.object RX2).toString) = some (cT 4) := by obtain ⟨_, _, _, _, _, h⟩ := (hK.2 4 (cT 4, .object RX2) rfl).2; exact h
  refine lv_aload_n hx hb d_X5_init_0 rfl (lv_at hl 0 rfl) ?_
  refine W.objInit hx hb hown (hts _ wl_X5) (hts _ wo_inst) (hts _ wo_code) rfl (by rw [hml]; exact hl.1) rfl d_X5_init_1 (Nat.le_of_ble_eq_true rfl) (Nat.le_of_ble_eq_true rfl) ?_
  refine W.eq (g2 := F0 m 4 ls []) rfl ?_
  refine lv_aload_n hx hb d_X5_init_4 rfl (lv_at hl 0 rfl) ?_
  refine lv_sipush (v := 600) hx hb d_X5_init_5 (by decide) ?_
  refine bw_newa (atype := .int) (cA0 := cT 0) (a0 := (600, .inl (fun _ => 0))) (N' := 600) hx hb (hts _ wa_int) cI (fun cA => rfl) hB hS (by decide) (by decide) (by decide) (Nat.le_of_ble_eq_true rfl) (Nat.le_of_ble_eq_true rfl) d_X5_init_8 (fun H hB hS => ?_)
  have hB : Bw D b ((.inr (5, [.null, .int 0, .int 0, .int 0, .int 0, .int 0]) : va_E) :: .inl (cT 0, 600, .inl (fun _ => 0)) :: []) H := hB
  refine W.widen (k := 1) (n := 600) (Nat.le_of_ble_eq_true rfl) (Nat.le_of_ble_eq_true rfl) ?_
  refine W.eq (g2 := F0 m 10 ls [.ref (b + 1), .ref b]) rfl ?_
  refine bw_putF (own := clsN 5) (q0 := 0) (ci := 5) (r := (RX5, TX5, 6)) (v := .ref (b + 1)) (ty := (.array .int)) hx hb hts hown hin hK hB hS rfl rfl 0 (by decide) fk_X5_9 rfl rfl (by decide +kernel) rfl rfl (Nat.le_of_ble_eq_true rfl) d_X5_init_10 (fun H locs hB hS => ?_)
  have hB : Bw D b ((.inr (5, [.ref (b + 1), .int 0, .int 0, .int 0, .int 0, .int 0]) : va_E) :: .inl (cT 0, 600, .inl (fun _ => 0)) :: []) H := hB
  refine W.eq (g2 := F0 m 13 ls []) rfl ?_
  refine lv_aload_n hx hb d_X5_init_13 rfl (lv_at hl 0 rfl) ?_
  refine lv_iconst (v := (-1)) hx hb d_X5_init_14 (by decide) ?_
  refine bw_put (own := clsN 5) (q0 := 0) (ci := 5) (r := (RX5, TX5, 6)) (v := .int (-1)) (ty := .int) hx hb hts hown hK hB hS rfl rfl 5 (by decide) fk_X5_15 rfl (by decide +kernel) rfl rfl (Nat.le_of_ble_eq_true rfl) d_X5_init_15 (fun H locs hB hS => ?_)
  have hB : Bw D b ((.inr (5, [.ref (b + 1), .int 0, .int 0, .int 0, .int 0, .int (-1)]) : va_E) :: .inl (cT 0, 600, .inl (fun _ => 0)) :: []) H := hB
  refine W.eq (g2 := F0 m 18 ls []) rfl ?_
  exact W.vret hx hb hr (fun t ht hW => ⟨⟨(), rfl, trivial, by show Bw _ _ _ t.heap; rw [ht]; exact hB⟩, hS.F ht⟩) hS.2.2 d_X5_init_18
theorem d_X3_init_0 : decode cX3_init 0 = .ok (.aload_n 0, 1) := by decide +kernel
theorem d_X3_init_1 : decode cX3_init 1 = .ok (.invokespecial 3, 3) := by decide +kernel
theorem d_X3_init_4 : decode cX3_init 4 = .ok (.return_, 1) := by decide +kernel
def es_X3_init (cT : Nat → ClassId) (b : Nat) : List va_E := ((.inr (3, [.int 0, .int 0, .int 0, .int 0, .int 0, .int 0, .int 0, .int 0, .int 0, .int 0]) : va_E) :: [])
set_option maxHeartbeats 8000000 in
set_option maxRecDepth 100000 in
theorem k_X3 (l : Launch) : KC l yX3_init cX3_init 1 1 20 0 0 (.inr (3, [.int 0, .int 0, .int 0, .int 0, .int 0, .int 0, .int 0, .int 0, .int 0, .int 0])) es_X3_init := by
  intro D cT b
  refine Met.ofW (cc := cX3_init) (maxL := 1) (ret := none) (by decide) rfl ?_
  intro p e s m args below meth c s₁ B hml hv
  obtain ⟨rfl, hB, hK, hZ⟩ := hv
  have hx := B.exec
  have hb := B.bytes
  have hr := B.returns
  have hts1 := atoms_spec (ws := Cond.code yX3_init cX3_init 1 none :: gTb) B.pre
  have hts : ∀ w ∈ gTb, w.before [Value.ref b].toArray s = true := fun w h => hts1 w (List.mem_cons_of_mem _ h)
  have hown : s.vm.findClass (clsN 3) = some m.cls := findClass_of_methodNamed B.named
  have hlocks := B.notSynchronized
  have hin : meth.name = "<init>" := (name_of_methodNamed B.named B.method).1
  have hS : va_S (fun q => b ≤ q) s.heap s.heap [] := va_S.rf
  have hl := lv_entry ([.ref b]) (n := 1) (Nat.le_of_ble_eq_true rfl)
  rw [lg_entry_eq]
  generalize (lg_sl ([.ref b]) ++ List.replicate (1 - (lg_sl ([.ref b])).length) Slot.unset).toArray = ls at hl ⊢
  have hl : lv_has ls 1 [(0, .ref b)] := hl
  have cI : s.vm.findClass ("[" ++ (newarray.typeOf .int).toString) = some (cT 0) := (hK.2 0 (cT 0, .int) rfl).2
  have cZ : s.vm.findClass ("[" ++ (newarray.typeOf .boolean).toString) = some (cT 1) := (hK.2 1 (cT 1, .boolean) rfl).2
  have cII : s.vm.findClass ("[" ++ (FieldType.array .int).toString) = some (cT 5) := (hK.2 5 (cT 5, .array .int) rfl).2
  have cA3 : s.vm.findClass ("[" ++ (FieldType.object RX0).toString) = some (cT 3) := by obtain ⟨_, _, _, _, _, h⟩ := (hK.2 3 (cT 3, .object RX0) rfl).2; exact h
  have cA4 : s.vm.findClass ("[" ++ (FieldType.object RX2).toString) = some (cT 4) := by obtain ⟨_, _, _, _, _, h⟩ := (hK.2 4 (cT 4, .object RX2) rfl).2; exact h
  refine lv_aload_n hx hb d_X3_init_0 rfl (lv_at hl 0 rfl) ?_
  refine W.objInit hx hb hown (hts _ wl_X3) (hts _ wo_inst) (hts _ wo_code) rfl (by rw [hml]; exact hl.1) rfl d_X3_init_1 (Nat.le_of_ble_eq_true rfl) (Nat.le_of_ble_eq_true rfl) ?_
  refine W.eq (g2 := F0 m 4 ls []) rfl ?_
  exact W.vret hx hb hr (fun t ht hW => ⟨⟨(), rfl, trivial, by show Bw _ _ _ t.heap; rw [ht]; exact hB⟩, hS.F ht⟩) hS.2.2 d_X3_init_4
theorem d_X1_clear_0 : decode cX1_clear 0 = .ok (.aload_n 0, 1) := by decide +kernel
theorem d_X1_clear_1 : decode cX1_clear 1 = .ok (.bipush 20, 2) := by decide +kernel
theorem d_X1_clear_3 : decode cX1_clear 3 = .ok (.putfield 57, 3) := by decide +kernel
theorem d_X1_clear_6 : decode cX1_clear 6 = .ok (.aload_n 0, 1) := by decide +kernel
theorem d_X1_clear_7 : decode cX1_clear 7 = .ok (.getfield 9, 3) := by decide +kernel
theorem d_X1_clear_10 : decode cX1_clear 10 = .ok (.iconst 0, 1) := by decide +kernel
theorem d_X1_clear_11 : decode cX1_clear 11 = .ok (.invokestatic 61, 3) := by decide +kernel
theorem d_X1_clear_14 : decode cX1_clear 14 = .ok (.aload_n 0, 1) := by decide +kernel
theorem d_X1_clear_15 : decode cX1_clear 15 = .ok (.getfield 15, 3) := by decide +kernel
theorem d_X1_clear_18 : decode cX1_clear 18 = .ok (.iconst 0, 1) := by decide +kernel
theorem d_X1_clear_19 : decode cX1_clear 19 = .ok (.invokestatic 61, 3) := by decide +kernel
theorem d_X1_clear_22 : decode cX1_clear 22 = .ok (.aload_n 0, 1) := by decide +kernel
theorem d_X1_clear_23 : decode cX1_clear 23 = .ok (.getfield 18, 3) := by decide +kernel
theorem d_X1_clear_26 : decode cX1_clear 26 = .ok (.iconst 0, 1) := by decide +kernel
theorem d_X1_clear_27 : decode cX1_clear 27 = .ok (.invokestatic 61, 3) := by decide +kernel
theorem d_X1_clear_30 : decode cX1_clear 30 = .ok (.aload_n 0, 1) := by decide +kernel
theorem d_X1_clear_31 : decode cX1_clear 31 = .ok (.getfield 27, 3) := by decide +kernel
theorem d_X1_clear_34 : decode cX1_clear 34 = .ok (.iconst (-1), 1) := by decide +kernel
theorem d_X1_clear_35 : decode cX1_clear 35 = .ok (.invokestatic 61, 3) := by decide +kernel
theorem d_X1_clear_38 : decode cX1_clear 38 = .ok (.aload_n 0, 1) := by decide +kernel
theorem d_X1_clear_39 : decode cX1_clear 39 = .ok (.iconst 0, 1) := by decide +kernel
theorem d_X1_clear_40 : decode cX1_clear 40 = .ok (.putfield 67, 3) := by decide +kernel
theorem d_X1_clear_43 : decode cX1_clear 43 = .ok (.aload_n 0, 1) := by decide +kernel
theorem d_X1_clear_44 : decode cX1_clear 44 = .ok (.iconst 0, 1) := by decide +kernel
theorem d_X1_clear_45 : decode cX1_clear 45 = .ok (.putfield 70, 3) := by decide +kernel
theorem d_X1_clear_48 : decode cX1_clear 48 = .ok (.aload_n 0, 1) := by decide +kernel
theorem d_X1_clear_49 : decode cX1_clear 49 = .ok (.iconst 0, 1) := by decide +kernel
theorem d_X1_clear_50 : decode cX1_clear 50 = .ok (.putfield 73, 3) := by decide +kernel
theorem d_X1_clear_53 : decode cX1_clear 53 = .ok (.return_, 1) := by decide +kernel
def es_X1_pre (cT : Nat → ClassId) (b : Nat) : List va_E := ((.inr (1, [.int 0, .ref (b + 1), .ref (b + 2), .ref (b + 3), .int 0, .ref (b + 4), .ref (b + 5), .ref (b + 6), .int 0, .ref (b + 7), .ref (b + 8), .ref (b + 9), .ref (b + 10), .int 0, .ref (b + 11), .ref (b + 12), .ref (b + 13), .ref (b + 14)]) : va_E) :: .inl (cT 0, 40, .inl (fun _ => 0)) :: .inl (cT 0, 40, .inl (fun _ => 0)) :: .inl (cT 0, 40, .inl (fun _ => 0)) :: .inl (cT 0, 8, .inl (fun _ => 0)) :: .inl (cT 0, 8, .inl (fun _ => 0)) :: .inl (cT 0, 24, .inl (fun _ => 0)) :: .inl (cT 0, 6, .inl (fun _ => 0)) :: .inl (cT 0, 6, .inl (fun _ => 0)) :: .inl (cT 0, 6, .inl (fun _ => 0)) :: .inl (cT 0, 6, .inl (fun _ => 0)) :: .inl (cT 0, 8, .inl (fun _ => 0)) :: .inl (cT 0, 8, .inl (fun _ => 0)) :: .inl (cT 0, 8, .inl (fun _ => 0)) :: .inl (cT 0, 8, .inl (fun _ => 0)) :: [])
def es_X1_clear (cT : Nat → ClassId) (b : Nat) : List va_E := ((.inr (1, [.int 20, .ref (b + 1), .ref (b + 2), .ref (b + 3), .int 0, .ref (b + 4), .ref (b + 5), .ref (b + 6), .int 0, .ref (b + 7), .ref (b + 8), .ref (b + 9), .ref (b + 10), .int 0, .ref (b + 11), .ref (b + 12), .ref (b + 13), .ref (b + 14)]) : va_E) :: .inl (cT 0, 40, .inl (fun _ => 0)) :: .inl (cT 0, 40, .inl (fun _ => 0)) :: .inl (cT 0, 40, .inl (fun _ => 0)) :: .inl (cT 0, 8, .inl (fun _ => 0)) :: .inl (cT 0, 8, .inl (fun _ => 0)) :: .inl (cT 0, 24, .inl (fun _ => (-1))) :: .inl (cT 0, 6, .inl (fun _ => 0)) :: .inl (cT 0, 6, .inl (fun _ => 0)) :: .inl (cT 0, 6, .inl (fun _ => 0)) :: .inl (cT 0, 6, .inl (fun _ => 0)) :: .inl (cT 0, 8, .inl (fun _ => 0)) :: .inl (cT 0, 8, .inl (fun _ => 0)) :: .inl (cT 0, 8, .inl (fun _ => 0)) :: .inl (cT 0, 8, .inl (fun _ => 0)) :: [])
set_option maxHeartbeats 8000000 in
set_option maxRecDepth 100000 in
theorem kc_X1 (l : Launch) : KV l yX1_clear cX1_clear 1 1 40 es_X1_pre es_X1_clear := by
  intro D cT b
  refine Met.ofW (cc := cX1_clear) (maxL := 1) (ret := none) (by decide) rfl ?_
  intro p e s m args below meth c s₁ B hml hv
  obtain ⟨rfl, hB, hK, hZ⟩ := hv
  have hx := B.exec
  have hb := B.bytes
  have hr := B.returns
  have hts1 := atoms_spec (ws := Cond.code yX1_clear cX1_clear 1 none :: gTb) B.pre
  have hts : ∀ w ∈ gTb, w.before [Value.ref b].toArray s = true := fun w h => hts1 w (List.mem_cons_of_mem _ h)
  have hown : s.vm.findClass (clsN 1) = some m.cls := findClass_of_methodNamed B.named
  have hlocks := B.notSynchronized
  have hS : va_S (fun q => b ≤ q) s.heap s.heap [] := va_S.rf
  have hl := lv_entry ([.ref b]) (n := 1) (Nat.le_of_ble_eq_true rfl)
  rw [lg_entry_eq]
  generalize (lg_sl ([.ref b]) ++ List.replicate (1 - (lg_sl ([.ref b])).length) Slot.unset).toArray = ls at hl ⊢
  have hl : lv_has ls 1 [(0, .ref b)] := hl
  have cI : s.vm.findClass ("[" ++ (newarray.typeOf .int).toString) = some (cT 0) := (hK.2 0 (cT 0, .int) rfl).2
  have cZ : s.vm.findClass ("[" ++ (newarray.typeOf .boolean).toString) = some (cT 1) := (hK.2 1 (cT 1, .boolean) rfl).2
  have cII : s.vm.findClass ("[" ++ (FieldType.array .int).toString) = some (cT 5) := (hK.2 5 (cT 5, .array .int) rfl).2
  have cA3 : s.vm.findClass ("[" ++ (FieldType.object RX0).toString) = some (cT 3) := by obtain ⟨_, _, _, _, _, h⟩ := (hK.2 3 (cT 3, .object RX0) rfl).2; exact h
  have cA4 : s.vm.findClass ("[" ++ (FieldType.object RX2).toString) = some (cT 4) := by obtain ⟨_, _, _, _, _, h⟩ := (hK.2 4 (cT 4, .object RX2) rfl).2; exact h
  have hB : Bw D b ((.inr (1, [.int 0, .ref (b + 1), .ref (b + 2), .ref (b + 3), .int 0, .ref (b + 4), .ref (b + 5), .ref (b + 6), .int 0, .ref (b + 7), .ref (b + 8), .ref (b + 9), .ref (b + 10), .int 0, .ref (b + 11), .ref (b + 12), .ref (b + 13), .ref (b + 14)]) : va_E) :: .inl (cT 0, 40, .inl (fun _ => 0)) :: .inl (cT 0, 40, .inl (fun _ => 0)) :: .inl (cT 0, 40, .inl (fun _ => 0)) :: .inl (cT 0, 8, .inl (fun _ => 0)) :: .inl (cT 0, 8, .inl (fun _ => 0)) :: .inl (cT 0, 24, .inl (fun _ => 0)) :: .inl (cT 0, 6, .inl (fun _ => 0)) :: .inl (cT 0, 6, .inl (fun _ => 0)) :: .inl (cT 0, 6, .inl (fun _ => 0)) :: .inl (cT 0, 6, .inl (fun _ => 0)) :: .inl (cT 0, 8, .inl (fun _ => 0)) :: .inl (cT 0, 8, .inl (fun _ => 0)) :: .inl (cT 0, 8, .inl (fun _ => 0)) :: .inl (cT 0, 8, .inl (fun _ => 0)) :: []) s.heap := hB
  refine lv_aload_n hx hb d_X1_clear_0 rfl (lv_at hl 0 rfl) ?_
  refine lv_bipush (v := 20) hx hb d_X1_clear_1 (by decide) ?_
  refine bw_put (own := clsN 1) (q0 := 0) (ci := 1) (r := (RX1, TX1, 18)) (v := .int 20) (ty := .int) hx hb hts hown hK hB hS rfl rfl 0 (by decide) fk_X1_57 rfl (by decide +kernel) rfl rfl (Nat.le_of_ble_eq_true rfl) d_X1_clear_3 (fun H locs hB hS => ?_)
  have hB : Bw D b ((.inr (1, [.int 20, .ref (b + 1), .ref (b + 2), .ref (b + 3), .int 0, .ref (b + 4), .ref (b + 5), .ref (b + 6), .int 0, .ref (b + 7), .ref (b + 8), .ref (b + 9), .ref (b + 10), .int 0, .ref (b + 11), .ref (b + 12), .ref (b + 13), .ref (b + 14)]) : va_E) :: .inl (cT 0, 40, .inl (fun _ => 0)) :: .inl (cT 0, 40, .inl (fun _ => 0)) :: .inl (cT 0, 40, .inl (fun _ => 0)) :: .inl (cT 0, 8, .inl (fun _ => 0)) :: .inl (cT 0, 8, .inl (fun _ => 0)) :: .inl (cT 0, 24, .inl (fun _ => 0)) :: .inl (cT 0, 6, .inl (fun _ => 0)) :: .inl (cT 0, 6, .inl (fun _ => 0)) :: .inl (cT 0, 6, .inl (fun _ => 0)) :: .inl (cT 0, 6, .inl (fun _ => 0)) :: .inl (cT 0, 8, .inl (fun _ => 0)) :: .inl (cT 0, 8, .inl (fun _ => 0)) :: .inl (cT 0, 8, .inl (fun _ => 0)) :: .inl (cT 0, 8, .inl (fun _ => 0)) :: []) H := hB
  refine W.eq (g2 := F0 m 6 ls []) rfl ?_
  refine lv_aload_n hx hb d_X1_clear_6 rfl (lv_at hl 0 rfl) ?_
  refine bw_get (own := clsN 1) (q0 := 0) (ci := 1) (r := (RX1, TX1, 18)) (v := .ref (b + 1)) hx hb hts hown hK hB rfl rfl 1 (by decide) fk_X1_9 rfl d_X1_clear_7 ?_
  refine lv_iconst (v := 0) hx hb d_X1_clear_10 (by decide) ?_
  refine bw_fill (own := clsN 1) (index := 61) (nL := 1) 1 40 (fun _ => 0) hx hb hml hown hts1 hK wf_X1_61 ⟨(Nat.le_of_ble_eq_true rfl), (Nat.le_of_ble_eq_true rfl)⟩ hl.1 (Nat.le_of_ble_eq_true rfl) ⟨(Nat.le_of_ble_eq_true rfl), (Nat.le_of_ble_eq_true rfl)⟩ d_X1_clear_11 hB rfl (by decide) hS (fun H locs hB hS => ?_)
  have hB : Bw D b ((.inr (1, [.int 20, .ref (b + 1), .ref (b + 2), .ref (b + 3), .int 0, .ref (b + 4), .ref (b + 5), .ref (b + 6), .int 0, .ref (b + 7), .ref (b + 8), .ref (b + 9), .ref (b + 10), .int 0, .ref (b + 11), .ref (b + 12), .ref (b + 13), .ref (b + 14)]) : va_E) :: .inl (cT 0, 40, .inl (fun _ => 0)) :: .inl (cT 0, 40, .inl (fun _ => 0)) :: .inl (cT 0, 40, .inl (fun _ => 0)) :: .inl (cT 0, 8, .inl (fun _ => 0)) :: .inl (cT 0, 8, .inl (fun _ => 0)) :: .inl (cT 0, 24, .inl (fun _ => 0)) :: .inl (cT 0, 6, .inl (fun _ => 0)) :: .inl (cT 0, 6, .inl (fun _ => 0)) :: .inl (cT 0, 6, .inl (fun _ => 0)) :: .inl (cT 0, 6, .inl (fun _ => 0)) :: .inl (cT 0, 8, .inl (fun _ => 0)) :: .inl (cT 0, 8, .inl (fun _ => 0)) :: .inl (cT 0, 8, .inl (fun _ => 0)) :: .inl (cT 0, 8, .inl (fun _ => 0)) :: []) H := hB
  refine W.widen (k := 0) (n := 0) (Nat.le_of_ble_eq_true rfl) (Nat.le_of_ble_eq_true rfl) ?_
  refine W.eq (g2 := F0 m 14 ls []) rfl ?_
  refine lv_aload_n hx hb d_X1_clear_14 rfl (lv_at hl 0 rfl) ?_
  refine bw_get (own := clsN 1) (q0 := 0) (ci := 1) (r := (RX1, TX1, 18)) (v := .ref (b + 2)) hx hb hts hown hK hB rfl rfl 2 (by decide) fk_X1_15 rfl d_X1_clear_15 ?_
  refine lv_iconst (v := 0) hx hb d_X1_clear_18 (by decide) ?_
  refine bw_fill (own := clsN 1) (index := 61) (nL := 1) 2 40 (fun _ => 0) hx hb hml hown hts1 hK wf_X1_61 ⟨(Nat.le_of_ble_eq_true rfl), (Nat.le_of_ble_eq_true rfl)⟩ hl.1 (Nat.le_of_ble_eq_true rfl) ⟨(Nat.le_of_ble_eq_true rfl), (Nat.le_of_ble_eq_true rfl)⟩ d_X1_clear_19 hB rfl (by decide) hS (fun H locs hB hS => ?_)
  have hB : Bw D b ((.inr (1, [.int 20, .ref (b + 1), .ref (b + 2), .ref (b + 3), .int 0, .ref (b + 4), .ref (b + 5), .ref (b + 6), .int 0, .ref (b + 7), .ref (b + 8), .ref (b + 9), .ref (b + 10), .int 0, .ref (b + 11), .ref (b + 12), .ref (b + 13), .ref (b + 14)]) : va_E) :: .inl (cT 0, 40, .inl (fun _ => 0)) :: .inl (cT 0, 40, .inl (fun _ => 0)) :: .inl (cT 0, 40, .inl (fun _ => 0)) :: .inl (cT 0, 8, .inl (fun _ => 0)) :: .inl (cT 0, 8, .inl (fun _ => 0)) :: .inl (cT 0, 24, .inl (fun _ => 0)) :: .inl (cT 0, 6, .inl (fun _ => 0)) :: .inl (cT 0, 6, .inl (fun _ => 0)) :: .inl (cT 0, 6, .inl (fun _ => 0)) :: .inl (cT 0, 6, .inl (fun _ => 0)) :: .inl (cT 0, 8, .inl (fun _ => 0)) :: .inl (cT 0, 8, .inl (fun _ => 0)) :: .inl (cT 0, 8, .inl (fun _ => 0)) :: .inl (cT 0, 8, .inl (fun _ => 0)) :: []) H := hB
  refine W.widen (k := 0) (n := 0) (Nat.le_of_ble_eq_true rfl) (Nat.le_of_ble_eq_true rfl) ?_
  refine W.eq (g2 := F0 m 22 ls []) rfl ?_
  refine lv_aload_n hx hb d_X1_clear_22 rfl (lv_at hl 0 rfl) ?_
  refine bw_get (own := clsN 1) (q0 := 0) (ci := 1) (r := (RX1, TX1, 18)) (v := .ref (b + 3)) hx hb hts hown hK hB rfl rfl 3 (by decide) fk_X1_18 rfl d_X1_clear_23 ?_
  refine lv_iconst (v := 0) hx hb d_X1_clear_26 (by decide) ?_
  refine bw_fill (own := clsN 1) (index := 61) (nL := 1) 3 40 (fun _ => 0) hx hb hml hown hts1 hK wf_X1_61 ⟨(Nat.le_of_ble_eq_true rfl), (Nat.le_of_ble_eq_true rfl)⟩ hl.1 (Nat.le_of_ble_eq_true rfl) ⟨(Nat.le_of_ble_eq_true rfl), (Nat.le_of_ble_eq_true rfl)⟩ d_X1_clear_27 hB rfl (by decide) hS (fun H locs hB hS => ?_)
  have hB : Bw D b ((.inr (1, [.int 20, .ref (b + 1), .ref (b + 2), .ref (b + 3), .int 0, .ref (b + 4), .ref (b + 5), .ref (b + 6), .int 0, .ref (b + 7), .ref (b + 8), .ref (b + 9), .ref (b + 10), .int 0, .ref (b + 11), .ref (b + 12), .ref (b + 13), .ref (b + 14)]) : va_E) :: .inl (cT 0, 40, .inl (fun _ => 0)) :: .inl (cT 0, 40, .inl (fun _ => 0)) :: .inl (cT 0, 40, .inl (fun _ => 0)) :: .inl (cT 0, 8, .inl (fun _ => 0)) :: .inl (cT 0, 8, .inl (fun _ => 0)) :: .inl (cT 0, 24, .inl (fun _ => 0)) :: .inl (cT 0, 6, .inl (fun _ => 0)) :: .inl (cT 0, 6, .inl (fun _ => 0)) :: .inl (cT 0, 6, .inl (fun _ => 0)) :: .inl (cT 0, 6, .inl (fun _ => 0)) :: .inl (cT 0, 8, .inl (fun _ => 0)) :: .inl (cT 0, 8, .inl (fun _ => 0)) :: .inl (cT 0, 8, .inl (fun _ => 0)) :: .inl (cT 0, 8, .inl (fun _ => 0)) :: []) H := hB
  refine W.widen (k := 0) (n := 0) (Nat.le_of_ble_eq_true rfl) (Nat.le_of_ble_eq_true rfl) ?_
  refine W.eq (g2 := F0 m 30 ls []) rfl ?_
  refine lv_aload_n hx hb d_X1_clear_30 rfl (lv_at hl 0 rfl) ?_
  refine bw_get (own := clsN 1) (q0 := 0) (ci := 1) (r := (RX1, TX1, 18)) (v := .ref (b + 6)) hx hb hts hown hK hB rfl rfl 7 (by decide) fk_X1_27 rfl d_X1_clear_31 ?_
  refine lv_iconst (v := (-1)) hx hb d_X1_clear_34 (by decide) ?_
  refine bw_fill (own := clsN 1) (index := 61) (nL := 1) 6 24 (fun _ => 0) hx hb hml hown hts1 hK wf_X1_61 ⟨(Nat.le_of_ble_eq_true rfl), (Nat.le_of_ble_eq_true rfl)⟩ hl.1 (Nat.le_of_ble_eq_true rfl) ⟨(Nat.le_of_ble_eq_true rfl), (Nat.le_of_ble_eq_true rfl)⟩ d_X1_clear_35 hB rfl (by decide) hS (fun H locs hB hS => ?_)
  have hB : Bw D b ((.inr (1, [.int 20, .ref (b + 1), .ref (b + 2), .ref (b + 3), .int 0, .ref (b + 4), .ref (b + 5), .ref (b + 6), .int 0, .ref (b + 7), .ref (b + 8), .ref (b + 9), .ref (b + 10), .int 0, .ref (b + 11), .ref (b + 12), .ref (b + 13), .ref (b + 14)]) : va_E) :: .inl (cT 0, 40, .inl (fun _ => 0)) :: .inl (cT 0, 40, .inl (fun _ => 0)) :: .inl (cT 0, 40, .inl (fun _ => 0)) :: .inl (cT 0, 8, .inl (fun _ => 0)) :: .inl (cT 0, 8, .inl (fun _ => 0)) :: .inl (cT 0, 24, .inl (fun _ => (-1))) :: .inl (cT 0, 6, .inl (fun _ => 0)) :: .inl (cT 0, 6, .inl (fun _ => 0)) :: .inl (cT 0, 6, .inl (fun _ => 0)) :: .inl (cT 0, 6, .inl (fun _ => 0)) :: .inl (cT 0, 8, .inl (fun _ => 0)) :: .inl (cT 0, 8, .inl (fun _ => 0)) :: .inl (cT 0, 8, .inl (fun _ => 0)) :: .inl (cT 0, 8, .inl (fun _ => 0)) :: []) H := hB
  refine W.widen (k := 0) (n := 0) (Nat.le_of_ble_eq_true rfl) (Nat.le_of_ble_eq_true rfl) ?_
  refine W.eq (g2 := F0 m 38 ls []) rfl ?_
  refine lv_aload_n hx hb d_X1_clear_38 rfl (lv_at hl 0 rfl) ?_
  refine lv_iconst (v := 0) hx hb d_X1_clear_39 (by decide) ?_
  refine bw_put (own := clsN 1) (q0 := 0) (ci := 1) (r := (RX1, TX1, 18)) (v := .int 0) (ty := .int) hx hb hts hown hK hB hS rfl rfl 4 (by decide) fk_X1_67 rfl (by decide +kernel) rfl rfl (Nat.le_of_ble_eq_true rfl) d_X1_clear_40 (fun H locs hB hS => ?_)
  have hB : Bw D b ((.inr (1, [.int 20, .ref (b + 1), .ref (b + 2), .ref (b + 3), .int 0, .ref (b + 4), .ref (b + 5), .ref (b + 6), .int 0, .ref (b + 7), .ref (b + 8), .ref (b + 9), .ref (b + 10), .int 0, .ref (b + 11), .ref (b + 12), .ref (b + 13), .ref (b + 14)]) : va_E) :: .inl (cT 0, 40, .inl (fun _ => 0)) :: .inl (cT 0, 40, .inl (fun _ => 0)) :: .inl (cT 0, 40, .inl (fun _ => 0)) :: .inl (cT 0, 8, .inl (fun _ => 0)) :: .inl (cT 0, 8, .inl (fun _ => 0)) :: .inl (cT 0, 24, .inl (fun _ => (-1))) :: .inl (cT 0, 6, .inl (fun _ => 0)) :: .inl (cT 0, 6, .inl (fun _ => 0)) :: .inl (cT 0, 6, .inl (fun _ => 0)) :: .inl (cT 0, 6, .inl (fun _ => 0)) :: .inl (cT 0, 8, .inl (fun _ => 0)) :: .inl (cT 0, 8, .inl (fun _ => 0)) :: .inl (cT 0, 8, .inl (fun _ => 0)) :: .inl (cT 0, 8, .inl (fun _ => 0)) :: []) H := hB
  refine W.eq (g2 := F0 m 43 ls []) rfl ?_
  refine lv_aload_n hx hb d_X1_clear_43 rfl (lv_at hl 0 rfl) ?_
  refine lv_iconst (v := 0) hx hb d_X1_clear_44 (by decide) ?_
  refine bw_put (own := clsN 1) (q0 := 0) (ci := 1) (r := (RX1, TX1, 18)) (v := .int 0) (ty := .int) hx hb hts hown hK hB hS rfl rfl 8 (by decide) fk_X1_70 rfl (by decide +kernel) rfl rfl (Nat.le_of_ble_eq_true rfl) d_X1_clear_45 (fun H locs hB hS => ?_)
  have hB : Bw D b ((.inr (1, [.int 20, .ref (b + 1), .ref (b + 2), .ref (b + 3), .int 0, .ref (b + 4), .ref (b + 5), .ref (b + 6), .int 0, .ref (b + 7), .ref (b + 8), .ref (b + 9), .ref (b + 10), .int 0, .ref (b + 11), .ref (b + 12), .ref (b + 13), .ref (b + 14)]) : va_E) :: .inl (cT 0, 40, .inl (fun _ => 0)) :: .inl (cT 0, 40, .inl (fun _ => 0)) :: .inl (cT 0, 40, .inl (fun _ => 0)) :: .inl (cT 0, 8, .inl (fun _ => 0)) :: .inl (cT 0, 8, .inl (fun _ => 0)) :: .inl (cT 0, 24, .inl (fun _ => (-1))) :: .inl (cT 0, 6, .inl (fun _ => 0)) :: .inl (cT 0, 6, .inl (fun _ => 0)) :: .inl (cT 0, 6, .inl (fun _ => 0)) :: .inl (cT 0, 6, .inl (fun _ => 0)) :: .inl (cT 0, 8, .inl (fun _ => 0)) :: .inl (cT 0, 8, .inl (fun _ => 0)) :: .inl (cT 0, 8, .inl (fun _ => 0)) :: .inl (cT 0, 8, .inl (fun _ => 0)) :: []) H := hB
  refine W.eq (g2 := F0 m 48 ls []) rfl ?_
  refine lv_aload_n hx hb d_X1_clear_48 rfl (lv_at hl 0 rfl) ?_
  refine lv_iconst (v := 0) hx hb d_X1_clear_49 (by decide) ?_
  refine bw_put (own := clsN 1) (q0 := 0) (ci := 1) (r := (RX1, TX1, 18)) (v := .int 0) (ty := .int) hx hb hts hown hK hB hS rfl rfl 13 (by decide) fk_X1_73 rfl (by decide +kernel) rfl rfl (Nat.le_of_ble_eq_true rfl) d_X1_clear_50 (fun H locs hB hS => ?_)
  have hB : Bw D b ((.inr (1, [.int 20, .ref (b + 1), .ref (b + 2), .ref (b + 3), .int 0, .ref (b + 4), .ref (b + 5), .ref (b + 6), .int 0, .ref (b + 7), .ref (b + 8), .ref (b + 9), .ref (b + 10), .int 0, .ref (b + 11), .ref (b + 12), .ref (b + 13), .ref (b + 14)]) : va_E) :: .inl (cT 0, 40, .inl (fun _ => 0)) :: .inl (cT 0, 40, .inl (fun _ => 0)) :: .inl (cT 0, 40, .inl (fun _ => 0)) :: .inl (cT 0, 8, .inl (fun _ => 0)) :: .inl (cT 0, 8, .inl (fun _ => 0)) :: .inl (cT 0, 24, .inl (fun _ => (-1))) :: .inl (cT 0, 6, .inl (fun _ => 0)) :: .inl (cT 0, 6, .inl (fun _ => 0)) :: .inl (cT 0, 6, .inl (fun _ => 0)) :: .inl (cT 0, 6, .inl (fun _ => 0)) :: .inl (cT 0, 8, .inl (fun _ => 0)) :: .inl (cT 0, 8, .inl (fun _ => 0)) :: .inl (cT 0, 8, .inl (fun _ => 0)) :: .inl (cT 0, 8, .inl (fun _ => 0)) :: []) H := hB
  refine W.eq (g2 := F0 m 53 ls []) rfl ?_
  exact W.vret hx hb hr (fun t ht hW => ⟨⟨(), rfl, trivial, by show Bw _ _ _ t.heap; rw [ht]; exact hB⟩, hS.F ht⟩) hS.2.2 d_X1_clear_53
theorem d_X1_init_0 : decode cX1_init 0 = .ok (.aload_n 0, 1) := by decide +kernel
theorem d_X1_init_1 : decode cX1_init 1 = .ok (.invokespecial 3, 3) := by decide +kernel
theorem d_X1_init_4 : decode cX1_init 4 = .ok (.aload_n 0, 1) := by decide +kernel
theorem d_X1_init_5 : decode cX1_init 5 = .ok (.bipush 40, 2) := by decide +kernel
theorem d_X1_init_7 : decode cX1_init 7 = .ok (.newarray .int, 2) := by decide +kernel
theorem d_X1_init_9 : decode cX1_init 9 = .ok (.putfield 9, 3) := by decide +kernel
theorem d_X1_init_12 : decode cX1_init 12 = .ok (.aload_n 0, 1) := by decide +kernel
theorem d_X1_init_13 : decode cX1_init 13 = .ok (.bipush 40, 2) := by decide +kernel
theorem d_X1_init_15 : decode cX1_init 15 = .ok (.newarray .int, 2) := by decide +kernel
theorem d_X1_init_17 : decode cX1_init 17 = .ok (.putfield 15, 3) := by decide +kernel
theorem d_X1_init_20 : decode cX1_init 20 = .ok (.aload_n 0, 1) := by decide +kernel
theorem d_X1_init_21 : decode cX1_init 21 = .ok (.bipush 40, 2) := by decide +kernel
theorem d_X1_init_23 : decode cX1_init 23 = .ok (.newarray .int, 2) := by decide +kernel
theorem d_X1_init_25 : decode cX1_init 25 = .ok (.putfield 18, 3) := by decide +kernel
theorem d_X1_init_28 : decode cX1_init 28 = .ok (.aload_n 0, 1) := by decide +kernel
theorem d_X1_init_29 : decode cX1_init 29 = .ok (.bipush 8, 2) := by decide +kernel
theorem d_X1_init_31 : decode cX1_init 31 = .ok (.newarray .int, 2) := by decide +kernel
theorem d_X1_init_33 : decode cX1_init 33 = .ok (.putfield 21, 3) := by decide +kernel
theorem d_X1_init_36 : decode cX1_init 36 = .ok (.aload_n 0, 1) := by decide +kernel
theorem d_X1_init_37 : decode cX1_init 37 = .ok (.bipush 8, 2) := by decide +kernel
theorem d_X1_init_39 : decode cX1_init 39 = .ok (.newarray .int, 2) := by decide +kernel
theorem d_X1_init_41 : decode cX1_init 41 = .ok (.putfield 24, 3) := by decide +kernel
theorem d_X1_init_44 : decode cX1_init 44 = .ok (.aload_n 0, 1) := by decide +kernel
theorem d_X1_init_45 : decode cX1_init 45 = .ok (.bipush 24, 2) := by decide +kernel
theorem d_X1_init_47 : decode cX1_init 47 = .ok (.newarray .int, 2) := by decide +kernel
theorem d_X1_init_49 : decode cX1_init 49 = .ok (.putfield 27, 3) := by decide +kernel
theorem d_X1_init_52 : decode cX1_init 52 = .ok (.aload_n 0, 1) := by decide +kernel
theorem d_X1_init_53 : decode cX1_init 53 = .ok (.bipush 6, 2) := by decide +kernel
theorem d_X1_init_55 : decode cX1_init 55 = .ok (.newarray .int, 2) := by decide +kernel
theorem d_X1_init_57 : decode cX1_init 57 = .ok (.putfield 30, 3) := by decide +kernel
theorem d_X1_init_60 : decode cX1_init 60 = .ok (.aload_n 0, 1) := by decide +kernel
theorem d_X1_init_61 : decode cX1_init 61 = .ok (.bipush 6, 2) := by decide +kernel
theorem d_X1_init_63 : decode cX1_init 63 = .ok (.newarray .int, 2) := by decide +kernel
theorem d_X1_init_65 : decode cX1_init 65 = .ok (.putfield 33, 3) := by decide +kernel
theorem d_X1_init_68 : decode cX1_init 68 = .ok (.aload_n 0, 1) := by decide +kernel
theorem d_X1_init_69 : decode cX1_init 69 = .ok (.bipush 6, 2) := by decide +kernel
theorem d_X1_init_71 : decode cX1_init 71 = .ok (.newarray .int, 2) := by decide +kernel
theorem d_X1_init_73 : decode cX1_init 73 = .ok (.putfield 36, 3) := by decide +kernel
theorem d_X1_init_76 : decode cX1_init 76 = .ok (.aload_n 0, 1) := by decide +kernel
theorem d_X1_init_77 : decode cX1_init 77 = .ok (.bipush 6, 2) := by decide +kernel
theorem d_X1_init_79 : decode cX1_init 79 = .ok (.newarray .int, 2) := by decide +kernel
theorem d_X1_init_81 : decode cX1_init 81 = .ok (.putfield 39, 3) := by decide +kernel
theorem d_X1_init_84 : decode cX1_init 84 = .ok (.aload_n 0, 1) := by decide +kernel
theorem d_X1_init_85 : decode cX1_init 85 = .ok (.bipush 8, 2) := by decide +kernel
theorem d_X1_init_87 : decode cX1_init 87 = .ok (.newarray .int, 2) := by decide +kernel
theorem d_X1_init_89 : decode cX1_init 89 = .ok (.putfield 42, 3) := by decide +kernel
theorem d_X1_init_92 : decode cX1_init 92 = .ok (.aload_n 0, 1) := by decide +kernel
theorem d_X1_init_93 : decode cX1_init 93 = .ok (.bipush 8, 2) := by decide +kernel
theorem d_X1_init_95 : decode cX1_init 95 = .ok (.newarray .int, 2) := by decide +kernel
theorem d_X1_init_97 : decode cX1_init 97 = .ok (.putfield 45, 3) := by decide +kernel
theorem d_X1_init_100 : decode cX1_init 100 = .ok (.aload_n 0, 1) := by decide +kernel
theorem d_X1_init_101 : decode cX1_init 101 = .ok (.bipush 8, 2) := by decide +kernel
theorem d_X1_init_103 : decode cX1_init 103 = .ok (.newarray .int, 2) := by decide +kernel
theorem d_X1_init_105 : decode cX1_init 105 = .ok (.putfield 48, 3) := by decide +kernel
theorem d_X1_init_108 : decode cX1_init 108 = .ok (.aload_n 0, 1) := by decide +kernel
theorem d_X1_init_109 : decode cX1_init 109 = .ok (.bipush 8, 2) := by decide +kernel
theorem d_X1_init_111 : decode cX1_init 111 = .ok (.newarray .int, 2) := by decide +kernel
theorem d_X1_init_113 : decode cX1_init 113 = .ok (.putfield 51, 3) := by decide +kernel
theorem d_X1_init_116 : decode cX1_init 116 = .ok (.aload_n 0, 1) := by decide +kernel
theorem d_X1_init_117 : decode cX1_init 117 = .ok (.invokevirtual 54, 3) := by decide +kernel
theorem d_X1_init_120 : decode cX1_init 120 = .ok (.return_, 1) := by decide +kernel
def es_X1_init (cT : Nat → ClassId) (b : Nat) : List va_E := ((.inr (1, [.int 20, .ref (b + 1), .ref (b + 2), .ref (b + 3), .int 0, .ref (b + 4), .ref (b + 5), .ref (b + 6), .int 0, .ref (b + 7), .ref (b + 8), .ref (b + 9), .ref (b + 10), .int 0, .ref (b + 11), .ref (b + 12), .ref (b + 13), .ref (b + 14)]) : va_E) :: .inl (cT 0, 40, .inl (fun _ => 0)) :: .inl (cT 0, 40, .inl (fun _ => 0)) :: .inl (cT 0, 40, .inl (fun _ => 0)) :: .inl (cT 0, 8, .inl (fun _ => 0)) :: .inl (cT 0, 8, .inl (fun _ => 0)) :: .inl (cT 0, 24, .inl (fun _ => (-1))) :: .inl (cT 0, 6, .inl (fun _ => 0)) :: .inl (cT 0, 6, .inl (fun _ => 0)) :: .inl (cT 0, 6, .inl (fun _ => 0)) :: .inl (cT 0, 6, .inl (fun _ => 0)) :: .inl (cT 0, 8, .inl (fun _ => 0)) :: .inl (cT 0, 8, .inl (fun _ => 0)) :: .inl (cT 0, 8, .inl (fun _ => 0)) :: .inl (cT 0, 8, .inl (fun _ => 0)) :: [])
set_option maxHeartbeats 8000000 in
set_option maxRecDepth 100000 in
theorem k_X1 (l : Launch) : KC l yX1_init cX1_init 1 2 80 14 216 (.inr (1, [.int 0, .null, .null, .null, .int 0, .null, .null, .null, .int 0, .null, .null, .null, .null, .int 0, .null, .null, .null, .null])) es_X1_init := by
  intro D cT b
  refine Met.ofW (cc := cX1_init) (maxL := 1) (ret := none) (by decide) rfl ?_
  intro p e s m args below meth c s₁ B hml hv
  obtain ⟨rfl, hB, hK, hZ⟩ := hv
  have hx := B.exec
  have hb := B.bytes
  have hr := B.returns
  have hts1 := atoms_spec (ws := Cond.code yX1_init cX1_init 1 none :: gTb) B.pre
  have hts : ∀ w ∈ gTb, w.before [Value.ref b].toArray s = true := fun w h => hts1 w (List.mem_cons_of_mem _ h)
  have hown : s.vm.findClass (clsN 1) = some m.cls := findClass_of_methodNamed B.named
  have hlocks := B.notSynchronized
  have hin : meth.name = "<init>" := (name_of_methodNamed B.named B.method).1
  have hS : va_S (fun q => b ≤ q) s.heap s.heap [] := va_S.rf
  have hl := lv_entry ([.ref b]) (n := 1) (Nat.le_of_ble_eq_true rfl)
  rw [lg_entry_eq]
  generalize (lg_sl ([.ref b]) ++ List.replicate (1 - (lg_sl ([.ref b])).length) Slot.unset).toArray = ls at hl ⊢
  have hl : lv_has ls 1 [(0, .ref b)] := hl
  have cI : s.vm.findClass ("[" ++ (newarray.typeOf .int).toString) = some (cT 0) := (hK.2 0 (cT 0, .int) rfl).2
  have cZ : s.vm.findClass ("[" ++ (newarray.typeOf .boolean).toString) = some (cT 1) := (hK.2 1 (cT 1, .boolean) rfl).2
  have cII : s.vm.findClass ("[" ++ (FieldType.array .int).toString) = some (cT 5) := (hK.2 5 (cT 5, .array .int) rfl).2
  have cA3 : s.vm.findClass ("[" ++ (FieldType.object RX0).toString) = some (cT 3) := by obtain ⟨_, _, _, _, _, h⟩ := (hK.2 3 (cT 3, .object RX0) rfl).2; exact h
  have cA4 : s.vm.findClass ("[" ++ (FieldType.object RX2).toString) = some (cT 4) := by obtain ⟨_, _, _, _, _, h⟩ := (hK.2 4 (cT 4, .object RX2) rfl).2; exact h
  refine lv_aload_n hx hb d_X1_init_0 rfl (lv_at hl 0 rfl) ?_
  refine W.objInit hx hb hown (hts _ wl_X1) (hts _ wo_inst) (hts _ wo_code) rfl (by rw [hml]; exact hl.1) rfl d_X1_init_1 (Nat.le_of_ble_eq_true rfl) (Nat.le_of_ble_eq_true rfl) ?_
  refine W.eq (g2 := F0 m 4 ls []) rfl ?_
  refine lv_aload_n hx hb d_X1_init_4 rfl (lv_at hl 0 rfl) ?_
  refine lv_bipush (v := 40) hx hb d_X1_init_5 (by decide) ?_
  refine bw_newa (atype := .int) (cA0 := cT 0) (a0 := (40, .inl (fun _ => 0))) (N' := 40) hx hb (hts _ wa_int) cI (fun cA => rfl) hB hS (by decide) (by decide) (by decide) (Nat.le_of_ble_eq_true rfl) (Nat.le_of_ble_eq_true rfl) d_X1_init_7 (fun H hB hS => ?_)
  have hB : Bw D b ((.inr (1, [.int 0, .null, .null, .null, .int 0, .null, .null, .null, .int 0, .null, .null, .null, .null, .int 0, .null, .null, .null, .null]) : va_E) :: .inl (cT 0, 40, .inl (fun _ => 0)) :: []) H := hB
  refine W.widen (k := 1) (n := 40) (Nat.le_of_ble_eq_true rfl) (Nat.le_of_ble_eq_true rfl) ?_
  refine W.eq (g2 := F0 m 9 ls [.ref (b + 1), .ref b]) rfl ?_
  refine bw_putF (own := clsN 1) (q0 := 0) (ci := 1) (r := (RX1, TX1, 18)) (v := .ref (b + 1)) (ty := (.array .int)) hx hb hts hown hin hK hB hS rfl rfl 1 (by decide) fk_X1_9 rfl rfl (by decide +kernel) rfl rfl (Nat.le_of_ble_eq_true rfl) d_X1_init_9 (fun H locs hB hS => ?_)
  have hB : Bw D b ((.inr (1, [.int 0, .ref (b + 1), .null, .null, .int 0, .null, .null, .null, .int 0, .null, .null, .null, .null, .int 0, .null, .null, .null, .null]) : va_E) :: .inl (cT 0, 40, .inl (fun _ => 0)) :: []) H := hB
  refine W.eq (g2 := F0 m 12 ls []) rfl ?_
  refine lv_aload_n hx hb d_X1_init_12 rfl (lv_at hl 0 rfl) ?_
  refine lv_bipush (v := 40) hx hb d_X1_init_13 (by decide) ?_
  refine bw_newa (atype := .int) (cA0 := cT 0) (a0 := (40, .inl (fun _ => 0))) (N' := 40) hx hb (hts _ wa_int) cI (fun cA => rfl) hB hS (by decide) (by decide) (by decide) (Nat.le_of_ble_eq_true rfl) (Nat.le_of_ble_eq_true rfl) d_X1_init_15 (fun H hB hS => ?_)
  have hB : Bw D b ((.inr (1, [.int 0, .ref (b + 1), .null, .null, .int 0, .null, .null, .null, .int 0, .null, .null, .null, .null, .int 0, .null, .null, .null, .null]) : va_E) :: .inl (cT 0, 40, .inl (fun _ => 0)) :: .inl (cT 0, 40, .inl (fun _ => 0)) :: []) H := hB
  refine W.widen (k := 2) (n := 80) (Nat.le_of_ble_eq_true rfl) (Nat.le_of_ble_eq_true rfl) ?_
  refine W.eq (g2 := F0 m 17 ls [.ref (b + 2), .ref b]) rfl ?_
  refine bw_putF (own := clsN 1) (q0 := 0) (ci := 1) (r := (RX1, TX1, 18)) (v := .ref (b + 2)) (ty := (.array .int)) hx hb hts hown hin hK hB hS rfl rfl 2 (by decide) fk_X1_15 rfl rfl (by decide +kernel) rfl rfl (Nat.le_of_ble_eq_true rfl) d_X1_init_17 (fun H locs hB hS => ?_)
  have hB : Bw D b ((.inr (1, [.int 0, .ref (b + 1), .ref (b + 2), .null, .int 0, .null, .null, .null, .int 0, .null, .null, .null, .null, .int 0, .null, .null, .null, .null]) : va_E) :: .inl (cT 0, 40, .inl (fun _ => 0)) :: .inl (cT 0, 40, .inl (fun _ => 0)) :: []) H := hB
  refine W.eq (g2 := F0 m 20 ls []) rfl ?_
  refine lv_aload_n hx hb d_X1_init_20 rfl (lv_at hl 0 rfl) ?_
  refine lv_bipush (v := 40) hx hb d_X1_init_21 (by decide) ?_
  refine bw_newa (atype := .int) (cA0 := cT 0) (a0 := (40, .inl (fun _ => 0))) (N' := 40) hx hb (hts _ wa_int) cI (fun cA => rfl) hB hS (by decide) (by decide) (by decide) (Nat.le_of_ble_eq_true rfl) (Nat.le_of_ble_eq_true rfl) d_X1_init_23 (fun H hB hS => ?_)
  have hB : Bw D b ((.inr (1, [.int 0, .ref (b + 1), .ref (b + 2), .null, .int 0, .null, .null, .null, .int 0, .null, .null, .null, .null, .int 0, .null, .null, .null, .null]) : va_E) :: .inl (cT 0, 40, .inl (fun _ => 0)) :: .inl (cT 0, 40, .inl (fun _ => 0)) :: .inl (cT 0, 40, .inl (fun _ => 0)) :: []) H := hB
  refine W.widen (k := 3) (n := 120) (Nat.le_of_ble_eq_true rfl) (Nat.le_of_ble_eq_true rfl) ?_
  refine W.eq (g2 := F0 m 25 ls [.ref (b + 3), .ref b]) rfl ?_
  refine bw_putF (own := clsN 1) (q0 := 0) (ci := 1) (r := (RX1, TX1, 18)) (v := .ref (b + 3)) (ty := (.array .int)) hx hb hts hown hin hK hB hS rfl rfl 3 (by decide) fk_X1_18 rfl rfl (by decide +kernel) rfl rfl (Nat.le_of_ble_eq_true rfl) d_X1_init_25 (fun H locs hB hS => ?_)
  have hB : Bw D b ((.inr (1, [.int 0, .ref (b + 1), .ref (b + 2), .ref (b + 3), .int 0, .null, .null, .null, .int 0, .null, .null, .null, .null, .int 0, .null, .null, .null, .null]) : va_E) :: .inl (cT 0, 40, .inl (fun _ => 0)) :: .inl (cT 0, 40, .inl (fun _ => 0)) :: .inl (cT 0, 40, .inl (fun _ => 0)) :: []) H := hB
  refine W.eq (g2 := F0 m 28 ls []) rfl ?_
  refine lv_aload_n hx hb d_X1_init_28 rfl (lv_at hl 0 rfl) ?_
  refine lv_bipush (v := 8) hx hb d_X1_init_29 (by decide) ?_
  refine bw_newa (atype := .int) (cA0 := cT 0) (a0 := (8, .inl (fun _ => 0))) (N' := 8) hx hb (hts _ wa_int) cI (fun cA => rfl) hB hS (by decide) (by decide) (by decide) (Nat.le_of_ble_eq_true rfl) (Nat.le_of_ble_eq_true rfl) d_X1_init_31 (fun H hB hS => ?_)
  have hB : Bw D b ((.inr (1, [.int 0, .ref (b + 1), .ref (b + 2), .ref (b + 3), .int 0, .null, .null, .null, .int 0, .null, .null, .null, .null, .int 0, .null, .null, .null, .null]) : va_E) :: .inl (cT 0, 40, .inl (fun _ => 0)) :: .inl (cT 0, 40, .inl (fun _ => 0)) :: .inl (cT 0, 40, .inl (fun _ => 0)) :: .inl (cT 0, 8, .inl (fun _ => 0)) :: []) H := hB
  refine W.widen (k := 4) (n := 128) (Nat.le_of_ble_eq_true rfl) (Nat.le_of_ble_eq_true rfl) ?_
  refine W.eq (g2 := F0 m 33 ls [.ref (b + 4), .ref b]) rfl ?_
  refine bw_putF (own := clsN 1) (q0 := 0) (ci := 1) (r := (RX1, TX1, 18)) (v := .ref (b + 4)) (ty := (.array .int)) hx hb hts hown hin hK hB hS rfl rfl 5 (by decide) fk_X1_21 rfl rfl (by decide +kernel) rfl rfl (Nat.le_of_ble_eq_true rfl) d_X1_init_33 (fun H locs hB hS => ?_)
  have hB : Bw D b ((.inr (1, [.int 0, .ref (b + 1), .ref (b + 2), .ref (b + 3), .int 0, .ref (b + 4), .null, .null, .int 0, .null, .null, .null, .null, .int 0, .null, .null, .null, .null]) : va_E) :: .inl (cT 0, 40, .inl (fun _ => 0)) :: .inl (cT 0, 40, .inl (fun _ => 0)) :: .inl (cT 0, 40, .inl (fun _ => 0)) :: .inl (cT 0, 8, .inl (fun _ => 0)) :: []) H := hB
  refine W.eq (g2 := F0 m 36 ls []) rfl ?_
  refine lv_aload_n hx hb d_X1_init_36 rfl (lv_at hl 0 rfl) ?_
  refine lv_bipush (v := 8) hx hb d_X1_init_37 (by decide) ?_
  refine bw_newa (atype := .int) (cA0 := cT 0) (a0 := (8, .inl (fun _ => 0))) (N' := 8) hx hb (hts _ wa_int) cI (fun cA => rfl) hB hS (by decide) (by decide) (by decide) (Nat.le_of_ble_eq_true rfl) (Nat.le_of_ble_eq_true rfl) d_X1_init_39 (fun H hB hS => ?_)
  have hB : Bw D b ((.inr (1, [.int 0, .ref (b + 1), .ref (b + 2), .ref (b + 3), .int 0, .ref (b + 4), .null, .null, .int 0, .null, .null, .null, .null, .int 0, .null, .null, .null, .null]) : va_E) :: .inl (cT 0, 40, .inl (fun _ => 0)) :: .inl (cT 0, 40, .inl (fun _ => 0)) :: .inl (cT 0, 40, .inl (fun _ => 0)) :: .inl (cT 0, 8, .inl (fun _ => 0)) :: .inl (cT 0, 8, .inl (fun _ => 0)) :: []) H := hB
  refine W.widen (k := 5) (n := 136) (Nat.le_of_ble_eq_true rfl) (Nat.le_of_ble_eq_true rfl) ?_
  refine W.eq (g2 := F0 m 41 ls [.ref (b + 5), .ref b]) rfl ?_
  refine bw_putF (own := clsN 1) (q0 := 0) (ci := 1) (r := (RX1, TX1, 18)) (v := .ref (b + 5)) (ty := (.array .int)) hx hb hts hown hin hK hB hS rfl rfl 6 (by decide) fk_X1_24 rfl rfl (by decide +kernel) rfl rfl (Nat.le_of_ble_eq_true rfl) d_X1_init_41 (fun H locs hB hS => ?_)
  have hB : Bw D b ((.inr (1, [.int 0, .ref (b + 1), .ref (b + 2), .ref (b + 3), .int 0, .ref (b + 4), .ref (b + 5), .null, .int 0, .null, .null, .null, .null, .int 0, .null, .null, .null, .null]) : va_E) :: .inl (cT 0, 40, .inl (fun _ => 0)) :: .inl (cT 0, 40, .inl (fun _ => 0)) :: .inl (cT 0, 40, .inl (fun _ => 0)) :: .inl (cT 0, 8, .inl (fun _ => 0)) :: .inl (cT 0, 8, .inl (fun _ => 0)) :: []) H := hB
  refine W.eq (g2 := F0 m 44 ls []) rfl ?_
  refine lv_aload_n hx hb d_X1_init_44 rfl (lv_at hl 0 rfl) ?_
  refine lv_bipush (v := 24) hx hb d_X1_init_45 (by decide) ?_
  refine bw_newa (atype := .int) (cA0 := cT 0) (a0 := (24, .inl (fun _ => 0))) (N' := 24) hx hb (hts _ wa_int) cI (fun cA => rfl) hB hS (by decide) (by decide) (by decide) (Nat.le_of_ble_eq_true rfl) (Nat.le_of_ble_eq_true rfl) d_X1_init_47 (fun H hB hS => ?_)
  have hB : Bw D b ((.inr (1, [.int 0, .ref (b + 1), .ref (b + 2), .ref (b + 3), .int 0, .ref (b + 4), .ref (b + 5), .null, .int 0, .null, .null, .null, .null, .int 0, .null, .null, .null, .null]) : va_E) :: .inl (cT 0, 40, .inl (fun _ => 0)) :: .inl (cT 0, 40, .inl (fun _ => 0)) :: .inl (cT 0, 40, .inl (fun _ => 0)) :: .inl (cT 0, 8, .inl (fun _ => 0)) :: .inl (cT 0, 8, .inl (fun _ => 0)) :: .inl (cT 0, 24, .inl (fun _ => 0)) :: []) H := hB
  refine W.widen (k := 6) (n := 160) (Nat.le_of_ble_eq_true rfl) (Nat.le_of_ble_eq_true rfl) ?_
  refine W.eq (g2 := F0 m 49 ls [.ref (b + 6), .ref b]) rfl ?_
  refine bw_putF (own := clsN 1) (q0 := 0) (ci := 1) (r := (RX1, TX1, 18)) (v := .ref (b + 6)) (ty := (.array .int)) hx hb hts hown hin hK hB hS rfl rfl 7 (by decide) fk_X1_27 rfl rfl (by decide +kernel) rfl rfl (Nat.le_of_ble_eq_true rfl) d_X1_init_49 (fun H locs hB hS => ?_)
  have hB : Bw D b ((.inr (1, [.int 0, .ref (b + 1), .ref (b + 2), .ref (b + 3), .int 0, .ref (b + 4), .ref (b + 5), .ref (b + 6), .int 0, .null, .null, .null, .null, .int 0, .null, .null, .null, .null]) : va_E) :: .inl (cT 0, 40, .inl (fun _ => 0)) :: .inl (cT 0, 40, .inl (fun _ => 0)) :: .inl (cT 0, 40, .inl (fun _ => 0)) :: .inl (cT 0, 8, .inl (fun _ => 0)) :: .inl (cT 0, 8, .inl (fun _ => 0)) :: .inl (cT 0, 24, .inl (fun _ => 0)) :: []) H := hB
  refine W.eq (g2 := F0 m 52 ls []) rfl ?_
  refine lv_aload_n hx hb d_X1_init_52 rfl (lv_at hl 0 rfl) ?_
  refine lv_bipush (v := 6) hx hb d_X1_init_53 (by decide) ?_
  refine bw_newa (atype := .int) (cA0 := cT 0) (a0 := (6, .inl (fun _ => 0))) (N' := 6) hx hb (hts _ wa_int) cI (fun cA => rfl) hB hS (by decide) (by decide) (by decide) (Nat.le_of_ble_eq_true rfl) (Nat.le_of_ble_eq_true rfl) d_X1_init_55 (fun H hB hS => ?_)
  have hB : Bw D b ((.inr (1, [.int 0, .ref (b + 1), .ref (b + 2), .ref (b + 3), .int 0, .ref (b + 4), .ref (b + 5), .ref (b + 6), .int 0, .null, .null, .null, .null, .int 0, .null, .null, .null, .null]) : va_E) :: .inl (cT 0, 40, .inl (fun _ => 0)) :: .inl (cT 0, 40, .inl (fun _ => 0)) :: .inl (cT 0, 40, .inl (fun _ => 0)) :: .inl (cT 0, 8, .inl (fun _ => 0)) :: .inl (cT 0, 8, .inl (fun _ => 0)) :: .inl (cT 0, 24, .inl (fun _ => 0)) :: .inl (cT 0, 6, .inl (fun _ => 0)) :: []) H := hB
  refine W.widen (k := 7) (n := 166) (Nat.le_of_ble_eq_true rfl) (Nat.le_of_ble_eq_true rfl) ?_
  refine W.eq (g2 := F0 m 57 ls [.ref (b + 7), .ref b]) rfl ?_
  refine bw_putF (own := clsN 1) (q0 := 0) (ci := 1) (r := (RX1, TX1, 18)) (v := .ref (b + 7)) (ty := (.array .int)) hx hb hts hown hin hK hB hS rfl rfl 9 (by decide) fk_X1_30 rfl rfl (by decide +kernel) rfl rfl (Nat.le_of_ble_eq_true rfl) d_X1_init_57 (fun H locs hB hS => ?_)
  have hB : Bw D b ((.inr (1, [.int 0, .ref (b + 1), .ref (b + 2), .ref (b + 3), .int 0, .ref (b + 4), .ref (b + 5), .ref (b + 6), .int 0, .ref (b + 7), .null, .null, .null, .int 0, .null, .null, .null, .null]) : va_E) :: .inl (cT 0, 40, .inl (fun _ => 0)) :: .inl (cT 0, 40, .inl (fun _ => 0)) :: .inl (cT 0, 40, .inl (fun _ => 0)) :: .inl (cT 0, 8, .inl (fun _ => 0)) :: .inl (cT 0, 8, .inl (fun _ => 0)) :: .inl (cT 0, 24, .inl (fun _ => 0)) :: .inl (cT 0, 6, .inl (fun _ => 0)) :: []) H := hB
  refine W.eq (g2 := F0 m 60 ls []) rfl ?_
  refine lv_aload_n hx hb d_X1_init_60 rfl (lv_at hl 0 rfl) ?_
  refine lv_bipush (v := 6) hx hb d_X1_init_61 (by decide) ?_
  refine bw_newa (atype := .int) (cA0 := cT 0) (a0 := (6, .inl (fun _ => 0))) (N' := 6) hx hb (hts _ wa_int) cI (fun cA => rfl) hB hS (by decide) (by decide) (by decide) (Nat.le_of_ble_eq_true rfl) (Nat.le_of_ble_eq_true rfl) d_X1_init_63 (fun H hB hS => ?_)
  have hB : Bw D b ((.inr (1, [.int 0, .ref (b + 1), .ref (b + 2), .ref (b + 3), .int 0, .ref (b + 4), .ref (b + 5), .ref (b + 6), .int 0, .ref (b + 7), .null, .null, .null, .int 0, .null, .null, .null, .null]) : va_E) :: .inl (cT 0, 40, .inl (fun _ => 0)) :: .inl (cT 0, 40, .inl (fun _ => 0)) :: .inl (cT 0, 40, .inl (fun _ => 0)) :: .inl (cT 0, 8, .inl (fun _ => 0)) :: .inl (cT 0, 8, .inl (fun _ => 0)) :: .inl (cT 0, 24, .inl (fun _ => 0)) :: .inl (cT 0, 6, .inl (fun _ => 0)) :: .inl (cT 0, 6, .inl (fun _ => 0)) :: []) H := hB
  refine W.widen (k := 8) (n := 172) (Nat.le_of_ble_eq_true rfl) (Nat.le_of_ble_eq_true rfl) ?_
  refine W.eq (g2 := F0 m 65 ls [.ref (b + 8), .ref b]) rfl ?_
  refine bw_putF (own := clsN 1) (q0 := 0) (ci := 1) (r := (RX1, TX1, 18)) (v := .ref (b + 8)) (ty := (.array .int)) hx hb hts hown hin hK hB hS rfl rfl 10 (by decide) fk_X1_33 rfl rfl (by decide +kernel) rfl rfl (Nat.le_of_ble_eq_true rfl) d_X1_init_65 (fun H locs hB hS => ?_)
  have hB : Bw D b ((.inr (1, [.int 0, .ref (b + 1), .ref (b + 2), .ref (b + 3), .int 0, .ref (b + 4), .ref (b + 5), .ref (b + 6), .int 0, .ref (b + 7), .ref (b + 8), .null, .null, .int 0, .null, .null, .null, .null]) : va_E) :: .inl (cT 0, 40, .inl (fun _ => 0)) :: .inl (cT 0, 40, .inl (fun _ => 0)) :: .inl (cT 0, 40, .inl (fun _ => 0)) :: .inl (cT 0, 8, .inl (fun _ => 0)) :: .inl (cT 0, 8, .inl (fun _ => 0)) :: .inl (cT 0, 24, .inl (fun _ => 0)) :: .inl (cT 0, 6, .inl (fun _ => 0)) :: .inl (cT 0, 6, .inl (fun _ => 0)) :: []) H := hB
  refine W.eq (g2 := F0 m 68 ls []) rfl ?_
  refine lv_aload_n hx hb d_X1_init_68 rfl (lv_at hl 0 rfl) ?_
  refine lv_bipush (v := 6) hx hb d_X1_init_69 (by decide) ?_
  refine bw_newa (atype := .int) (cA0 := cT 0) (a0 := (6, .inl (fun _ => 0))) (N' := 6) hx hb (hts _ wa_int) cI (fun cA => rfl) hB hS (by decide) (by decide) (by decide) (Nat.le_of_ble_eq_true rfl) (Nat.le_of_ble_eq_true rfl) d_X1_init_71 (fun H hB hS => ?_)
  have hB : Bw D b ((.inr (1, [.int 0, .ref (b + 1), .ref (b + 2), .ref (b + 3), .int 0, .ref (b + 4), .ref (b + 5), .ref (b + 6), .int 0, .ref (b + 7), .ref (b + 8), .null, .null, .int 0, .null, .null, .null, .null]) : va_E) :: .inl (cT 0, 40, .inl (fun _ => 0)) :: .inl (cT 0, 40, .inl (fun _ => 0)) :: .inl (cT 0, 40, .inl (fun _ => 0)) :: .inl (cT 0, 8, .inl (fun _ => 0)) :: .inl (cT 0, 8, .inl (fun _ => 0)) :: .inl (cT 0, 24, .inl (fun _ => 0)) :: .inl (cT 0, 6, .inl (fun _ => 0)) :: .inl (cT 0, 6, .inl (fun _ => 0)) :: .inl (cT 0, 6, .inl (fun _ => 0)) :: []) H := hB
  refine W.widen (k := 9) (n := 178) (Nat.le_of_ble_eq_true rfl) (Nat.le_of_ble_eq_true rfl) ?_
  refine W.eq (g2 := F0 m 73 ls [.ref (b + 9), .ref b]) rfl ?_
  refine bw_putF (own := clsN 1) (q0 := 0) (ci := 1) (r := (RX1, TX1, 18)) (v := .ref (b + 9)) (ty := (.array .int)) hx hb hts hown hin hK hB hS rfl rfl 11 (by decide) fk_X1_36 rfl rfl (by decide +kernel) rfl rfl (Nat.le_of_ble_eq_true rfl) d_X1_init_73 (fun H locs hB hS => ?_)
  have hB : Bw D b ((.inr (1, [.int 0, .ref (b + 1), .ref (b + 2), .ref (b + 3), .int 0, .ref (b + 4), .ref (b + 5), .ref (b + 6), .int 0, .ref (b + 7), .ref (b + 8), .ref (b + 9), .null, .int 0, .null, .null, .null, .null]) : va_E) :: .inl (cT 0, 40, .inl (fun _ => 0)) :: .inl (cT 0, 40, .inl (fun _ => 0)) :: .inl (cT 0, 40, .inl (fun _ => 0)) :: .inl (cT 0, 8, .inl (fun _ => 0)) :: .inl (cT 0, 8, .inl (fun _ => 0)) :: .inl (cT 0, 24, .inl (fun _ => 0)) :: .inl (cT 0, 6, .inl (fun _ => 0)) :: .inl (cT 0, 6, .inl (fun _ => 0)) :: .inl (cT 0, 6, .inl (fun _ => 0)) :: []) H := hB
  refine W.eq (g2 := F0 m 76 ls []) rfl ?_
  refine lv_aload_n hx hb d_X1_init_76 rfl (lv_at hl 0 rfl) ?_
  refine lv_bipush (v := 6) hx hb d_X1_init_77 (by decide) ?_
  refine bw_newa (atype := .int) (cA0 := cT 0) (a0 := (6, .inl (fun _ => 0))) (N' := 6) hx hb (hts _ wa_int) cI (fun cA => rfl) hB hS (by decide) (by decide) (by decide) (Nat.le_of_ble_eq_true rfl) (Nat.le_of_ble_eq_true rfl) d_X1_init_79 (fun H hB hS => ?_)
  have hB : Bw D b ((.inr (1, [.int 0, .ref (b + 1), .ref (b + 2), .ref (b + 3), .int 0, .ref (b + 4), .ref (b + 5), .ref (b + 6), .int 0, .ref (b + 7), .ref (b + 8), .ref (b + 9), .null, .int 0, .null, .null, .null, .null]) : va_E) :: .inl (cT 0, 40, .inl (fun _ => 0)) :: .inl (cT 0, 40, .inl (fun _ => 0)) :: .inl (cT 0, 40, .inl (fun _ => 0)) :: .inl (cT 0, 8, .inl (fun _ => 0)) :: .inl (cT 0, 8, .inl (fun _ => 0)) :: .inl (cT 0, 24, .inl (fun _ => 0)) :: .inl (cT 0, 6, .inl (fun _ => 0)) :: .inl (cT 0, 6, .inl (fun _ => 0)) :: .inl (cT 0, 6, .inl (fun _ => 0)) :: .inl (cT 0, 6, .inl (fun _ => 0)) :: []) H := hB
  refine W.widen (k := 10) (n := 184) (Nat.le_of_ble_eq_true rfl) (Nat.le_of_ble_eq_true rfl) ?_
  refine W.eq (g2 := F0 m 81 ls [.ref (b + 10), .ref b]) rfl ?_
  refine bw_putF (own := clsN 1) (q0 := 0) (ci := 1) (r := (RX1, TX1, 18)) (v := .ref (b + 10)) (ty := (.array .int)) hx hb hts hown hin hK hB hS rfl rfl 12 (by decide) fk_X1_39 rfl rfl (by decide +kernel) rfl rfl (Nat.le_of_ble_eq_true rfl) d_X1_init_81 (fun H locs hB hS => ?_)
  have hB : Bw D b ((.inr (1, [.int 0, .ref (b + 1), .ref (b + 2), .ref (b + 3), .int 0, .ref (b + 4), .ref (b + 5), .ref (b + 6), .int 0, .ref (b + 7), .ref (b + 8), .ref (b + 9), .ref (b + 10), .int 0, .null, .null, .null, .null]) : va_E) :: .inl (cT 0, 40, .inl (fun _ => 0)) :: .inl (cT 0, 40, .inl (fun _ => 0)) :: .inl (cT 0, 40, .inl (fun _ => 0)) :: .inl (cT 0, 8, .inl (fun _ => 0)) :: .inl (cT 0, 8, .inl (fun _ => 0)) :: .inl (cT 0, 24, .inl (fun _ => 0)) :: .inl (cT 0, 6, .inl (fun _ => 0)) :: .inl (cT 0, 6, .inl (fun _ => 0)) :: .inl (cT 0, 6, .inl (fun _ => 0)) :: .inl (cT 0, 6, .inl (fun _ => 0)) :: []) H := hB
  refine W.eq (g2 := F0 m 84 ls []) rfl ?_
  refine lv_aload_n hx hb d_X1_init_84 rfl (lv_at hl 0 rfl) ?_
  refine lv_bipush (v := 8) hx hb d_X1_init_85 (by decide) ?_
  refine bw_newa (atype := .int) (cA0 := cT 0) (a0 := (8, .inl (fun _ => 0))) (N' := 8) hx hb (hts _ wa_int) cI (fun cA => rfl) hB hS (by decide) (by decide) (by decide) (Nat.le_of_ble_eq_true rfl) (Nat.le_of_ble_eq_true rfl) d_X1_init_87 (fun H hB hS => ?_)
  have hB : Bw D b ((.inr (1, [.int 0, .ref (b + 1), .ref (b + 2), .ref (b + 3), .int 0, .ref (b + 4), .ref (b + 5), .ref (b + 6), .int 0, .ref (b + 7), .ref (b + 8), .ref (b + 9), .ref (b + 10), .int 0, .null, .null, .null, .null]) : va_E) :: .inl (cT 0, 40, .inl (fun _ => 0)) :: .inl (cT 0, 40, .inl (fun _ => 0)) :: .inl (cT 0, 40, .inl (fun _ => 0)) :: .inl (cT 0, 8, .inl (fun _ => 0)) :: .inl (cT 0, 8, .inl (fun _ => 0)) :: .inl (cT 0, 24, .inl (fun _ => 0)) :: .inl (cT 0, 6, .inl (fun _ => 0)) :: .inl (cT 0, 6, .inl (fun _ => 0)) :: .inl (cT 0, 6, .inl (fun _ => 0)) :: .inl (cT 0, 6, .inl (fun _ => 0)) :: .inl (cT 0, 8, .inl (fun _ => 0)) :: []) H := hB
  refine W.widen (k := 11) (n := 192) (Nat.le_of_ble_eq_true rfl) (Nat.le_of_ble_eq_true rfl) ?_
  refine W.eq (g2 := F0 m 89 ls [.ref (b + 11), .ref b]) rfl ?_
  refine bw_putF (own := clsN 1) (q0 := 0) (ci := 1) (r := (RX1, TX1, 18)) (v := .ref (b + 11)) (ty := (.array .int)) hx hb hts hown hin hK hB hS rfl rfl 14 (by decide) fk_X1_42 rfl rfl (by decide +kernel) rfl rfl (Nat.le_of_ble_eq_true rfl) d_X1_init_89 (fun H locs hB hS => ?_)
  have hB : Bw D b ((.inr (1, [.int 0, .ref (b + 1), .ref (b + 2), .ref (b + 3), .int 0, .ref (b + 4), .ref (b + 5), .ref (b + 6), .int 0, .ref (b + 7), .ref (b + 8), .ref (b + 9), .ref (b + 10), .int 0, .ref (b + 11), .null, .null, .null]) : va_E) :: .inl (cT 0, 40, .inl (fun _ => 0)) :: .inl (cT 0, 40, .inl (fun _ => 0)) :: .inl (cT 0, 40, .inl (fun _ => 0)) :: .inl (cT 0, 8, .inl (fun _ => 0)) :: .inl (cT 0, 8, .inl (fun _ => 0)) :: .inl (cT 0, 24, .inl (fun _ => 0)) :: .inl (cT 0, 6, .inl (fun _ => 0)) :: .inl (cT 0, 6, .inl (fun _ => 0)) :: .inl (cT 0, 6, .inl (fun _ => 0)) :: .inl (cT 0, 6, .inl (fun _ => 0)) :: .inl (cT 0, 8, .inl (fun _ => 0)) :: []) H := hB
  refine W.eq (g2 := F0 m 92 ls []) rfl ?_
  refine lv_aload_n hx hb d_X1_init_92 rfl (lv_at hl 0 rfl) ?_
  refine lv_bipush (v := 8) hx hb d_X1_init_93 (by decide) ?_
  refine bw_newa (atype := .int) (cA0 := cT 0) (a0 := (8, .inl (fun _ => 0))) (N' := 8) hx hb (hts _ wa_int) cI (fun cA => rfl) hB hS (by decide) (by decide) (by decide) (Nat.le_of_ble_eq_true rfl) (Nat.le_of_ble_eq_true rfl) d_X1_init_95 (fun H hB hS => ?_)
  have hB : Bw D b ((.inr (1, [.int 0, .ref (b + 1), .ref (b + 2), .ref (b + 3), .int 0, .ref (b + 4), .ref (b + 5), .ref (b + 6), .int 0, .ref (b + 7), .ref (b + 8), .ref (b + 9), .ref (b + 10), .int 0, .ref (b + 11), .null, .null, .null]) : va_E) :: .inl (cT 0, 40, .inl (fun _ => 0)) :: .inl (cT 0, 40, .inl (fun _ => 0)) :: .inl (cT 0, 40, .inl (fun _ => 0)) :: .inl (cT 0, 8, .inl (fun _ => 0)) :: .inl (cT 0, 8, .inl (fun _ => 0)) :: .inl (cT 0, 24, .inl (fun _ => 0)) :: .inl (cT 0, 6, .inl (fun _ => 0)) :: .inl (cT 0, 6, .inl (fun _ => 0)) :: .inl (cT 0, 6, .inl (fun _ => 0)) :: .inl (cT 0, 6, .inl (fun _ => 0)) :: .inl (cT 0, 8, .inl (fun _ => 0)) :: .inl (cT 0, 8, .inl (fun _ => 0)) :: []) H := hB
  refine W.widen (k := 12) (n := 200) (Nat.le_of_ble_eq_true rfl) (Nat.le_of_ble_eq_true rfl) ?_
  refine W.eq (g2 := F0 m 97 ls [.ref (b + 12), .ref b]) rfl ?_
  refine bw_putF (own := clsN 1) (q0 := 0) (ci := 1) (r := (RX1, TX1, 18)) (v := .ref (b + 12)) (ty := (.array .int)) hx hb hts hown hin hK hB hS rfl rfl 15 (by decide) fk_X1_45 rfl rfl (by decide +kernel) rfl rfl (Nat.le_of_ble_eq_true rfl) d_X1_init_97 (fun H locs hB hS => ?_)
  have hB : Bw D b ((.inr (1, [.int 0, .ref (b + 1), .ref (b + 2), .ref (b + 3), .int 0, .ref (b + 4), .ref (b + 5), .ref (b + 6), .int 0, .ref (b + 7), .ref (b + 8), .ref (b + 9), .ref (b + 10), .int 0, .ref (b + 11), .ref (b + 12), .null, .null]) : va_E) :: .inl (cT 0, 40, .inl (fun _ => 0)) :: .inl (cT 0, 40, .inl (fun _ => 0)) :: .inl (cT 0, 40, .inl (fun _ => 0)) :: .inl (cT 0, 8, .inl (fun _ => 0)) :: .inl (cT 0, 8, .inl (fun _ => 0)) :: .inl (cT 0, 24, .inl (fun _ => 0)) :: .inl (cT 0, 6, .inl (fun _ => 0)) :: .inl (cT 0, 6, .inl (fun _ => 0)) :: .inl (cT 0, 6, .inl (fun _ => 0)) :: .inl (cT 0, 6, .inl (fun _ => 0)) :: .inl (cT 0, 8, .inl (fun _ => 0)) :: .inl (cT 0, 8, .inl (fun _ => 0)) :: []) H := hB
  refine W.eq (g2 := F0 m 100 ls []) rfl ?_
  refine lv_aload_n hx hb d_X1_init_100 rfl (lv_at hl 0 rfl) ?_
  refine lv_bipush (v := 8) hx hb d_X1_init_101 (by decide) ?_
  refine bw_newa (atype := .int) (cA0 := cT 0) (a0 := (8, .inl (fun _ => 0))) (N' := 8) hx hb (hts _ wa_int) cI (fun cA => rfl) hB hS (by decide) (by decide) (by decide) (Nat.le_of_ble_eq_true rfl) (Nat.le_of_ble_eq_true rfl) d_X1_init_103 (fun H hB hS => ?_)
  have hB : Bw D b ((.inr (1, [.int 0, .ref (b + 1), .ref (b + 2), .ref (b + 3), .int 0, .ref (b + 4), .ref (b + 5), .ref (b + 6), .int 0, .ref (b + 7), .ref (b + 8), .ref (b + 9), .ref (b + 10), .int 0, .ref (b + 11), .ref (b + 12), .null, .null]) : va_E) :: .inl (cT 0, 40, .inl (fun _ => 0)) :: .inl (cT 0, 40, .inl (fun _ => 0)) :: .inl (cT 0, 40, .inl (fun _ => 0)) :: .inl (cT 0, 8, .inl (fun _ => 0)) :: .inl (cT 0, 8, .inl (fun _ => 0)) :: .inl (cT 0, 24, .inl (fun _ => 0)) :: .inl (cT 0, 6, .inl (fun _ => 0)) :: .inl (cT 0, 6, .inl (fun _ => 0)) :: .inl (cT 0, 6, .inl (fun _ => 0)) :: .inl (cT 0, 6, .inl (fun _ => 0)) :: .inl (cT 0, 8, .inl (fun _ => 0)) :: .inl (cT 0, 8, .inl (fun _ => 0)) :: .inl (cT 0, 8, .inl (fun _ => 0)) :: []) H := hB
  refine W.widen (k := 13) (n := 208) (Nat.le_of_ble_eq_true rfl) (Nat.le_of_ble_eq_true rfl) ?_
  refine W.eq (g2 := F0 m 105 ls [.ref (b + 13), .ref b]) rfl ?_
  refine bw_putF (own := clsN 1) (q0 := 0) (ci := 1) (r := (RX1, TX1, 18)) (v := .ref (b + 13)) (ty := (.array .int)) hx hb hts hown hin hK hB hS rfl rfl 16 (by decide) fk_X1_48 rfl rfl (by decide +kernel) rfl rfl (Nat.le_of_ble_eq_true rfl) d_X1_init_105 (fun H locs hB hS => ?_)
  have hB : Bw D b ((.inr (1, [.int 0, .ref (b + 1), .ref (b + 2), .ref (b + 3), .int 0, .ref (b + 4), .ref (b + 5), .ref (b + 6), .int 0, .ref (b + 7), .ref (b + 8), .ref (b + 9), .ref (b + 10), .int 0, .ref (b + 11), .ref (b + 12), .ref (b + 13), .null]) : va_E) :: .inl (cT 0, 40, .inl (fun _ => 0)) :: .inl (cT 0, 40, .inl (fun _ => 0)) :: .inl (cT 0, 40, .inl (fun _ => 0)) :: .inl (cT 0, 8, .inl (fun _ => 0)) :: .inl (cT 0, 8, .inl (fun _ => 0)) :: .inl (cT 0, 24, .inl (fun _ => 0)) :: .inl (cT 0, 6, .inl (fun _ => 0)) :: .inl (cT 0, 6, .inl (fun _ => 0)) :: .inl (cT 0, 6, .inl (fun _ => 0)) :: .inl (cT 0, 6, .inl (fun _ => 0)) :: .inl (cT 0, 8, .inl (fun _ => 0)) :: .inl (cT 0, 8, .inl (fun _ => 0)) :: .inl (cT 0, 8, .inl (fun _ => 0)) :: []) H := hB
  refine W.eq (g2 := F0 m 108 ls []) rfl ?_
  refine lv_aload_n hx hb d_X1_init_108 rfl (lv_at hl 0 rfl) ?_
  refine lv_bipush (v := 8) hx hb d_X1_init_109 (by decide) ?_
  refine bw_newa (atype := .int) (cA0 := cT 0) (a0 := (8, .inl (fun _ => 0))) (N' := 8) hx hb (hts _ wa_int) cI (fun cA => rfl) hB hS (by decide) (by decide) (by decide) (Nat.le_of_ble_eq_true rfl) (Nat.le_of_ble_eq_true rfl) d_X1_init_111 (fun H hB hS => ?_)
  have hB : Bw D b ((.inr (1, [.int 0, .ref (b + 1), .ref (b + 2), .ref (b + 3), .int 0, .ref (b + 4), .ref (b + 5), .ref (b + 6), .int 0, .ref (b + 7), .ref (b + 8), .ref (b + 9), .ref (b + 10), .int 0, .ref (b + 11), .ref (b + 12), .ref (b + 13), .null]) : va_E) :: .inl (cT 0, 40, .inl (fun _ => 0)) :: .inl (cT 0, 40, .inl (fun _ => 0)) :: .inl (cT 0, 40, .inl (fun _ => 0)) :: .inl (cT 0, 8, .inl (fun _ => 0)) :: .inl (cT 0, 8, .inl (fun _ => 0)) :: .inl (cT 0, 24, .inl (fun _ => 0)) :: .inl (cT 0, 6, .inl (fun _ => 0)) :: .inl (cT 0, 6, .inl (fun _ => 0)) :: .inl (cT 0, 6, .inl (fun _ => 0)) :: .inl (cT 0, 6, .inl (fun _ => 0)) :: .inl (cT 0, 8, .inl (fun _ => 0)) :: .inl (cT 0, 8, .inl (fun _ => 0)) :: .inl (cT 0, 8, .inl (fun _ => 0)) :: .inl (cT 0, 8, .inl (fun _ => 0)) :: []) H := hB
  refine W.widen (k := 14) (n := 216) (Nat.le_of_ble_eq_true rfl) (Nat.le_of_ble_eq_true rfl) ?_
  refine W.eq (g2 := F0 m 113 ls [.ref (b + 14), .ref b]) rfl ?_
  refine bw_putF (own := clsN 1) (q0 := 0) (ci := 1) (r := (RX1, TX1, 18)) (v := .ref (b + 14)) (ty := (.array .int)) hx hb hts hown hin hK hB hS rfl rfl 17 (by decide) fk_X1_51 rfl rfl (by decide +kernel) rfl rfl (Nat.le_of_ble_eq_true rfl) d_X1_init_113 (fun H locs hB hS => ?_)
  have hB : Bw D b ((.inr (1, [.int 0, .ref (b + 1), .ref (b + 2), .ref (b + 3), .int 0, .ref (b + 4), .ref (b + 5), .ref (b + 6), .int 0, .ref (b + 7), .ref (b + 8), .ref (b + 9), .ref (b + 10), .int 0, .ref (b + 11), .ref (b + 12), .ref (b + 13), .ref (b + 14)]) : va_E) :: .inl (cT 0, 40, .inl (fun _ => 0)) :: .inl (cT 0, 40, .inl (fun _ => 0)) :: .inl (cT 0, 40, .inl (fun _ => 0)) :: .inl (cT 0, 8, .inl (fun _ => 0)) :: .inl (cT 0, 8, .inl (fun _ => 0)) :: .inl (cT 0, 24, .inl (fun _ => 0)) :: .inl (cT 0, 6, .inl (fun _ => 0)) :: .inl (cT 0, 6, .inl (fun _ => 0)) :: .inl (cT 0, 6, .inl (fun _ => 0)) :: .inl (cT 0, 6, .inl (fun _ => 0)) :: .inl (cT 0, 8, .inl (fun _ => 0)) :: .inl (cT 0, 8, .inl (fun _ => 0)) :: .inl (cT 0, 8, .inl (fun _ => 0)) :: .inl (cT 0, 8, .inl (fun _ => 0)) :: []) H := hB
  refine W.eq (g2 := F0 m 116 ls []) rfl ?_
  refine lv_aload_n hx hb d_X1_init_116 rfl (lv_at hl 0 rfl) ?_
  refine bw_virt (own := clsN 1) (index := 54) (ci := 1) (r := (RX1, TX1, 18)) (es' := es_X1_pre) (es2 := es_X1_clear) (nL := 1) hx hb hml hown hts1 hK hZ (kc_X1 l) hcd_X1_clear wv_X1 hin_1 him_X1_clear hse_X1_clear (by decide +kernel) ⟨(Nat.le_of_ble_eq_true rfl), (Nat.le_of_ble_eq_true rfl)⟩ hl.1 (Nat.le_of_ble_eq_true rfl) ⟨(Nat.le_of_ble_eq_true rfl), (Nat.le_of_ble_eq_true rfl)⟩ d_X1_init_117 hB rfl rfl rfl hS (fun H locs hB hS => ?_)
  have hB : Bw D b ((.inr (1, [.int 20, .ref (b + 1), .ref (b + 2), .ref (b + 3), .int 0, .ref (b + 4), .ref (b + 5), .ref (b + 6), .int 0, .ref (b + 7), .ref (b + 8), .ref (b + 9), .ref (b + 10), .int 0, .ref (b + 11), .ref (b + 12), .ref (b + 13), .ref (b + 14)]) : va_E) :: .inl (cT 0, 40, .inl (fun _ => 0)) :: .inl (cT 0, 40, .inl (fun _ => 0)) :: .inl (cT 0, 40, .inl (fun _ => 0)) :: .inl (cT 0, 8, .inl (fun _ => 0)) :: .inl (cT 0, 8, .inl (fun _ => 0)) :: .inl (cT 0, 24, .inl (fun _ => (-1))) :: .inl (cT 0, 6, .inl (fun _ => 0)) :: .inl (cT 0, 6, .inl (fun _ => 0)) :: .inl (cT 0, 6, .inl (fun _ => 0)) :: .inl (cT 0, 6, .inl (fun _ => 0)) :: .inl (cT 0, 8, .inl (fun _ => 0)) :: .inl (cT 0, 8, .inl (fun _ => 0)) :: .inl (cT 0, 8, .inl (fun _ => 0)) :: .inl (cT 0, 8, .inl (fun _ => 0)) :: []) H := hB
  refine W.widen (k := 14) (n := 216) (Nat.le_of_ble_eq_true rfl) (Nat.le_of_ble_eq_true rfl) ?_
  refine W.eq (g2 := F0 m 120 ls []) rfl ?_
  exact W.vret hx hb hr (fun t ht hW => ⟨⟨(), rfl, trivial, by show Bw _ _ _ t.heap; rw [ht]; exact hB⟩, hS.F ht⟩) hS.2.2 d_X1_init_120
theorem d_X2_clear_0 : decode cX2_clear 0 = .ok (.aload_n 0, 1) := by decide +kernel
theorem d_X2_clear_1 : decode cX2_clear 1 = .ok (.iconst 0, 1) := by decide +kernel
theorem d_X2_clear_2 : decode cX2_clear 2 = .ok (.putfield 24, 3) := by decide +kernel
theorem d_X2_clear_5 : decode cX2_clear 5 = .ok (.aload_n 0, 1) := by decide +kernel
theorem d_X2_clear_6 : decode cX2_clear 6 = .ok (.getfield 15, 3) := by decide +kernel
theorem d_X2_clear_9 : decode cX2_clear 9 = .ok (.bipush (-2), 2) := by decide +kernel
theorem d_X2_clear_11 : decode cX2_clear 11 = .ok (.invokestatic 28, 3) := by decide +kernel
theorem d_X2_clear_14 : decode cX2_clear 14 = .ok (.aload_n 0, 1) := by decide +kernel
theorem d_X2_clear_15 : decode cX2_clear 15 = .ok (.iconst 0, 1) := by decide +kernel
theorem d_X2_clear_16 : decode cX2_clear 16 = .ok (.putfield 34, 3) := by decide +kernel
theorem d_X2_clear_19 : decode cX2_clear 19 = .ok (.return_, 1) := by decide +kernel
def es_X2_pre (cT : Nat → ClassId) (b : Nat) : List va_E := ((.inr (2, [.ref (b + 1), .int 0, .ref (b + 2), .ref (b + 3), .int 0]) : va_E) :: .inl (cT 0, 8, .inl (fun _ => 0)) :: .inl (cT 0, 8, .inl (fun _ => 0)) :: .inl (cT 0, 80, .inl (fun _ => 0)) :: [])
def es_X2_clear (cT : Nat → ClassId) (b : Nat) : List va_E := ((.inr (2, [.ref (b + 1), .int 0, .ref (b + 2), .ref (b + 3), .int 0]) : va_E) :: .inl (cT 0, 8, .inl (fun _ => 0)) :: .inl (cT 0, 8, .inl (fun _ => (-2))) :: .inl (cT 0, 80, .inl (fun _ => 0)) :: [])
set_option maxHeartbeats 8000000 in
set_option maxRecDepth 100000 in
theorem kc_X2 (l : Launch) : KV l yX2_clear cX2_clear 1 1 40 es_X2_pre es_X2_clear := by
  intro D cT b
  refine Met.ofW (cc := cX2_clear) (maxL := 1) (ret := none) (by decide) rfl ?_
  intro p e s m args below meth c s₁ B hml hv
  obtain ⟨rfl, hB, hK, hZ⟩ := hv
  have hx := B.exec
  have hb := B.bytes
  have hr := B.returns
  have hts1 := atoms_spec (ws := Cond.code yX2_clear cX2_clear 1 none :: gTb) B.pre
  have hts : ∀ w ∈ gTb, w.before [Value.ref b].toArray s = true := fun w h => hts1 w (List.mem_cons_of_mem _ h)
  have hown : s.vm.findClass (clsN 2) = some m.cls := findClass_of_methodNamed B.named
  have hlocks := B.notSynchronized
  have hS : va_S (fun q => b ≤ q) s.heap s.heap [] := va_S.rf
  have hl := lv_entry ([.ref b]) (n := 1) (Nat.le_of_ble_eq_true rfl)
  rw [lg_entry_eq]
  generalize (lg_sl ([.ref b]) ++ List.replicate (1 - (lg_sl ([.ref b])).length) Slot.unset).toArray = ls at hl ⊢
  have hl : lv_has ls 1 [(0, .ref b)] := hl
  have cI : s.vm.findClass ("[" ++ (newarray.typeOf .int).toString) = some (cT 0) := (hK.2 0 (cT 0, .int) rfl).2
  have cZ : s.vm.findClass ("[" ++ (newarray.typeOf .boolean).toString) = some (cT 1) := (hK.2 1 (cT 1, .boolean) rfl).2
  have cII : s.vm.findClass ("[" ++ (FieldType.array .int).toString) = some (cT 5) := (hK.2 5 (cT 5, .array .int) rfl).2
  have cA3 : s.vm.findClass ("[" ++ (FieldType.object RX0).toString) = some (cT 3) := by obtain ⟨_, _, _, _, _, h⟩ := (hK.2 3 (cT 3, .object RX0) rfl).2; exact h
  have cA4 : s.vm.findClass ("[" ++ (FieldType.object RX2).toString) = some (cT 4) := by obtain ⟨_, _, _, _, _, h⟩ := (hK.2 4 (cT 4, .object RX2) rfl).2; exact h
  have hB : Bw D b ((.inr (2, [.ref (b + 1), .int 0, .ref (b + 2), .ref (b + 3), .int 0]) : va_E) :: .inl (cT 0, 8, .inl (fun _ => 0)) :: .inl (cT 0, 8, .inl (fun _ => 0)) :: .inl (cT 0, 80, .inl (fun _ => 0)) :: []) s.heap := hB
  refine lv_aload_n hx hb d_X2_clear_0 rfl (lv_at hl 0 rfl) ?_
  refine lv_iconst (v := 0) hx hb d_X2_clear_1 (by decide) ?_
  refine bw_put (own := clsN 2) (q0 := 0) (ci := 2) (r := (RX2, TX2, 5)) (v := .int 0) (ty := .int) hx hb hts hown hK hB hS rfl rfl 1 (by decide) fk_X2_24 rfl (by decide +kernel) rfl rfl (Nat.le_of_ble_eq_true rfl) d_X2_clear_2 (fun H locs hB hS => ?_)
  have hB : Bw D b ((.inr (2, [.ref (b + 1), .int 0, .ref (b + 2), .ref (b + 3), .int 0]) : va_E) :: .inl (cT 0, 8, .inl (fun _ => 0)) :: .inl (cT 0, 8, .inl (fun _ => 0)) :: .inl (cT 0, 80, .inl (fun _ => 0)) :: []) H := hB
  refine W.eq (g2 := F0 m 5 ls []) rfl ?_
  refine lv_aload_n hx hb d_X2_clear_5 rfl (lv_at hl 0 rfl) ?_
  refine bw_get (own := clsN 2) (q0 := 0) (ci := 2) (r := (RX2, TX2, 5)) (v := .ref (b + 2)) hx hb hts hown hK hB rfl rfl 2 (by decide) fk_X2_15 rfl d_X2_clear_6 ?_
  refine lv_bipush (v := (-2)) hx hb d_X2_clear_9 (by decide) ?_
  refine bw_fill (own := clsN 2) (index := 28) (nL := 1) 2 8 (fun _ => 0) hx hb hml hown hts1 hK wf_X2_28 ⟨(Nat.le_of_ble_eq_true rfl), (Nat.le_of_ble_eq_true rfl)⟩ hl.1 (Nat.le_of_ble_eq_true rfl) ⟨(Nat.le_of_ble_eq_true rfl), (Nat.le_of_ble_eq_true rfl)⟩ d_X2_clear_11 hB rfl (by decide) hS (fun H locs hB hS => ?_)
  have hB : Bw D b ((.inr (2, [.ref (b + 1), .int 0, .ref (b + 2), .ref (b + 3), .int 0]) : va_E) :: .inl (cT 0, 8, .inl (fun _ => 0)) :: .inl (cT 0, 8, .inl (fun _ => (-2))) :: .inl (cT 0, 80, .inl (fun _ => 0)) :: []) H := hB
  refine W.widen (k := 0) (n := 0) (Nat.le_of_ble_eq_true rfl) (Nat.le_of_ble_eq_true rfl) ?_
  refine W.eq (g2 := F0 m 14 ls []) rfl ?_
  refine lv_aload_n hx hb d_X2_clear_14 rfl (lv_at hl 0 rfl) ?_
  refine lv_iconst (v := 0) hx hb d_X2_clear_15 (by decide) ?_
  refine bw_put (own := clsN 2) (q0 := 0) (ci := 2) (r := (RX2, TX2, 5)) (v := .int 0) (ty := .int) hx hb hts hown hK hB hS rfl rfl 4 (by decide) fk_X2_34 rfl (by decide +kernel) rfl rfl (Nat.le_of_ble_eq_true rfl) d_X2_clear_16 (fun H locs hB hS => ?_)
  have hB : Bw D b ((.inr (2, [.ref (b + 1), .int 0, .ref (b + 2), .ref (b + 3), .int 0]) : va_E) :: .inl (cT 0, 8, .inl (fun _ => 0)) :: .inl (cT 0, 8, .inl (fun _ => (-2))) :: .inl (cT 0, 80, .inl (fun _ => 0)) :: []) H := hB
  refine W.eq (g2 := F0 m 19 ls []) rfl ?_
  exact W.vret hx hb hr (fun t ht hW => ⟨⟨(), rfl, trivial, by show Bw _ _ _ t.heap; rw [ht]; exact hB⟩, hS.F ht⟩) hS.2.2 d_X2_clear_19
theorem d_X2_init_0 : decode cX2_init 0 = .ok (.aload_n 0, 1) := by decide +kernel
theorem d_X2_init_1 : decode cX2_init 1 = .ok (.invokespecial 3, 3) := by decide +kernel
theorem d_X2_init_4 : decode cX2_init 4 = .ok (.aload_n 0, 1) := by decide +kernel
theorem d_X2_init_5 : decode cX2_init 5 = .ok (.bipush 8, 2) := by decide +kernel
theorem d_X2_init_7 : decode cX2_init 7 = .ok (.newarray .int, 2) := by decide +kernel
theorem d_X2_init_9 : decode cX2_init 9 = .ok (.putfield 9, 3) := by decide +kernel
theorem d_X2_init_12 : decode cX2_init 12 = .ok (.aload_n 0, 1) := by decide +kernel
theorem d_X2_init_13 : decode cX2_init 13 = .ok (.bipush 8, 2) := by decide +kernel
theorem d_X2_init_15 : decode cX2_init 15 = .ok (.newarray .int, 2) := by decide +kernel
theorem d_X2_init_17 : decode cX2_init 17 = .ok (.putfield 15, 3) := by decide +kernel
theorem d_X2_init_20 : decode cX2_init 20 = .ok (.aload_n 0, 1) := by decide +kernel
theorem d_X2_init_21 : decode cX2_init 21 = .ok (.bipush 80, 2) := by decide +kernel
theorem d_X2_init_23 : decode cX2_init 23 = .ok (.newarray .int, 2) := by decide +kernel
theorem d_X2_init_25 : decode cX2_init 25 = .ok (.putfield 18, 3) := by decide +kernel
theorem d_X2_init_28 : decode cX2_init 28 = .ok (.aload_n 0, 1) := by decide +kernel
theorem d_X2_init_29 : decode cX2_init 29 = .ok (.invokevirtual 21, 3) := by decide +kernel
theorem d_X2_init_32 : decode cX2_init 32 = .ok (.return_, 1) := by decide +kernel
def es_X2_init (cT : Nat → ClassId) (b : Nat) : List va_E := ((.inr (2, [.ref (b + 1), .int 0, .ref (b + 2), .ref (b + 3), .int 0]) : va_E) :: .inl (cT 0, 8, .inl (fun _ => 0)) :: .inl (cT 0, 8, .inl (fun _ => (-2))) :: .inl (cT 0, 80, .inl (fun _ => 0)) :: [])
set_option maxHeartbeats 8000000 in
set_option maxRecDepth 100000 in
theorem k_X2 (l : Launch) : KC l yX2_init cX2_init 1 2 80 3 96 (.inr (2, [.null, .int 0, .null, .null, .int 0])) es_X2_init := by
  intro D cT b
  refine Met.ofW (cc := cX2_init) (maxL := 1) (ret := none) (by decide) rfl ?_
  intro p e s m args below meth c s₁ B hml hv
  obtain ⟨rfl, hB, hK, hZ⟩ := hv
  have hx := B.exec
  have hb := B.bytes
  have hr := B.returns
  have hts1 := atoms_spec (ws := Cond.code yX2_init cX2_init 1 none :: gTb) B.pre
  have hts : ∀ w ∈ gTb, w.before [Value.ref b].toArray s = true := fun w h => hts1 w (List.mem_cons_of_mem _ h)
  have hown : s.vm.findClass (clsN 2) = some m.cls := findClass_of_methodNamed B.named
  have hlocks := B.notSynchronized
  have hin : meth.name = "<init>" := (name_of_methodNamed B.named B.method).1
  have hS : va_S (fun q => b ≤ q) s.heap s.heap [] := va_S.rf
  have hl := lv_entry ([.ref b]) (n := 1) (Nat.le_of_ble_eq_true rfl)
  rw [lg_entry_eq]
  generalize (lg_sl ([.ref b]) ++ List.replicate (1 - (lg_sl ([.ref b])).length) Slot.unset).toArray = ls at hl ⊢
  have hl : lv_has ls 1 [(0, .ref b)] := hl
  have cI : s.vm.findClass ("[" ++ (newarray.typeOf .int).toString) = some (cT 0) := (hK.2 0 (cT 0, .int) rfl).2
  have cZ : s.vm.findClass ("[" ++ (newarray.typeOf .boolean).toString) = some (cT 1) := (hK.2 1 (cT 1, .boolean) rfl).2
  have cII : s.vm.findClass ("[" ++ (FieldType.array .int).toString) = some (cT 5) := (hK.2 5 (cT 5, .array .int) rfl).2
  have cA3 : s.vm.findClass ("[" ++ (FieldType.object RX0).toString) = some (cT 3) := by obtain ⟨_, _, _, _, _, h⟩ := (hK.2 3 (cT 3, .object RX0) rfl).2; exact h
  have cA4 : s.vm.findClass ("[" ++ (FieldType.object RX2).toString) = some (cT 4) := by obtain ⟨_, _, _, _, _, h⟩ := (hK.2 4 (cT 4, .object RX2) rfl).2; exact h
  refine lv_aload_n hx hb d_X2_init_0 rfl (lv_at hl 0 rfl) ?_
  refine W.objInit hx hb hown (hts _ wl_X2) (hts _ wo_inst) (hts _ wo_code) rfl (by rw [hml]; exact hl.1) rfl d_X2_init_1 (Nat.le_of_ble_eq_true rfl) (Nat.le_of_ble_eq_true rfl) ?_
  refine W.eq (g2 := F0 m 4 ls []) rfl ?_
  refine lv_aload_n hx hb d_X2_init_4 rfl (lv_at hl 0 rfl) ?_
  refine lv_bipush (v := 8) hx hb d_X2_init_5 (by decide) ?_
  refine bw_newa (atype := .int) (cA0 := cT 0) (a0 := (8, .inl (fun _ => 0))) (N' := 8) hx hb (hts _ wa_int) cI (fun cA => rfl) hB hS (by decide) (by decide) (by decide) (Nat.le_of_ble_eq_true rfl) (Nat.le_of_ble_eq_true rfl) d_X2_init_7 (fun H hB hS => ?_)
  have hB : Bw D b ((.inr (2, [.null, .int 0, .null, .null, .int 0]) : va_E) :: .inl (cT 0, 8, .inl (fun _ => 0)) :: []) H := hB
  refine W.widen (k := 1) (n := 8) (Nat.le_of_ble_eq_true rfl) (Nat.le_of_ble_eq_true rfl) ?_
  refine W.eq (g2 := F0 m 9 ls [.ref (b + 1), .ref b]) rfl ?_
  refine bw_putF (own := clsN 2) (q0 := 0) (ci := 2) (r := (RX2, TX2, 5)) (v := .ref (b + 1)) (ty := (.array .int)) hx hb hts hown hin hK hB hS rfl rfl 0 (by decide) fk_X2_9 rfl rfl (by decide +kernel) rfl rfl (Nat.le_of_ble_eq_true rfl) d_X2_init_9 (fun H locs hB hS => ?_)
  have hB : Bw D b ((.inr (2, [.ref (b + 1), .int 0, .null, .null, .int 0]) : va_E) :: .inl (cT 0, 8, .inl (fun _ => 0)) :: []) H := hB
  refine W.eq (g2 := F0 m 12 ls []) rfl ?_
  refine lv_aload_n hx hb d_X2_init_12 rfl (lv_at hl 0 rfl) ?_
  refine lv_bipush (v := 8) hx hb d_X2_init_13 (by decide) ?_
  refine bw_newa (atype := .int) (cA0 := cT 0) (a0 := (8, .inl (fun _ => 0))) (N' := 8) hx hb (hts _ wa_int) cI (fun cA => rfl) hB hS (by decide) (by decide) (by decide) (Nat.le_of_ble_eq_true rfl) (Nat.le_of_ble_eq_true rfl) d_X2_init_15 (fun H hB hS => ?_)
  have hB : Bw D b ((.inr (2, [.ref (b + 1), .int 0, .null, .null, .int 0]) : va_E) :: .inl (cT 0, 8, .inl (fun _ => 0)) :: .inl (cT 0, 8, .inl (fun _ => 0)) :: []) H := hB
  refine W.widen (k := 2) (n := 16) (Nat.le_of_ble_eq_true rfl) (Nat.le_of_ble_eq_true rfl) ?_
  refine W.eq (g2 := F0 m 17 ls [.ref (b + 2), .ref b]) rfl ?_
  refine bw_putF (own := clsN 2) (q0 := 0) (ci := 2) (r := (RX2, TX2, 5)) (v := .ref (b + 2)) (ty := (.array .int)) hx hb hts hown hin hK hB hS rfl rfl 2 (by decide) fk_X2_15 rfl rfl (by decide +kernel) rfl rfl (Nat.le_of_ble_eq_true rfl) d_X2_init_17 (fun H locs hB hS => ?_)
  have hB : Bw D b ((.inr (2, [.ref (b + 1), .int 0, .ref (b + 2), .null, .int 0]) : va_E) :: .inl (cT 0, 8, .inl (fun _ => 0)) :: .inl (cT 0, 8, .inl (fun _ => 0)) :: []) H := hB
  refine W.eq (g2 := F0 m 20 ls []) rfl ?_
  refine lv_aload_n hx hb d_X2_init_20 rfl (lv_at hl 0 rfl) ?_
  refine lv_bipush (v := 80) hx hb d_X2_init_21 (by decide) ?_
  refine bw_newa (atype := .int) (cA0 := cT 0) (a0 := (80, .inl (fun _ => 0))) (N' := 80) hx hb (hts _ wa_int) cI (fun cA => rfl) hB hS (by decide) (by decide) (by decide) (Nat.le_of_ble_eq_true rfl) (Nat.le_of_ble_eq_true rfl) d_X2_init_23 (fun H hB hS => ?_)
  have hB : Bw D b ((.inr (2, [.ref (b + 1), .int 0, .ref (b + 2), .null, .int 0]) : va_E) :: .inl (cT 0, 8, .inl (fun _ => 0)) :: .inl (cT 0, 8, .inl (fun _ => 0)) :: .inl (cT 0, 80, .inl (fun _ => 0)) :: []) H := hB
  refine W.widen (k := 3) (n := 96) (Nat.le_of_ble_eq_true rfl) (Nat.le_of_ble_eq_true rfl) ?_
  refine W.eq (g2 := F0 m 25 ls [.ref (b + 3), .ref b]) rfl ?_
  refine bw_putF (own := clsN 2) (q0 := 0) (ci := 2) (r := (RX2, TX2, 5)) (v := .ref (b + 3)) (ty := (.array .int)) hx hb hts hown hin hK hB hS rfl rfl 3 (by decide) fk_X2_18 rfl rfl (by decide +kernel) rfl rfl (Nat.le_of_ble_eq_true rfl) d_X2_init_25 (fun H locs hB hS => ?_)
  have hB : Bw D b ((.inr (2, [.ref (b + 1), .int 0, .ref (b + 2), .ref (b + 3), .int 0]) : va_E) :: .inl (cT 0, 8, .inl (fun _ => 0)) :: .inl (cT 0, 8, .inl (fun _ => 0)) :: .inl (cT 0, 80, .inl (fun _ => 0)) :: []) H := hB
  refine W.eq (g2 := F0 m 28 ls []) rfl ?_
  refine lv_aload_n hx hb d_X2_init_28 rfl (lv_at hl 0 rfl) ?_
  refine bw_virt (own := clsN 2) (index := 21) (ci := 2) (r := (RX2, TX2, 5)) (es' := es_X2_pre) (es2 := es_X2_clear) (nL := 1) hx hb hml hown hts1 hK hZ (kc_X2 l) hcd_X2_clear wv_X2 hin_2 him_X2_clear hse_X2_clear (by decide +kernel) ⟨(Nat.le_of_ble_eq_true rfl), (Nat.le_of_ble_eq_true rfl)⟩ hl.1 (Nat.le_of_ble_eq_true rfl) ⟨(Nat.le_of_ble_eq_true rfl), (Nat.le_of_ble_eq_true rfl)⟩ d_X2_init_29 hB rfl rfl rfl hS (fun H locs hB hS => ?_)
  have hB : Bw D b ((.inr (2, [.ref (b + 1), .int 0, .ref (b + 2), .ref (b + 3), .int 0]) : va_E) :: .inl (cT 0, 8, .inl (fun _ => 0)) :: .inl (cT 0, 8, .inl (fun _ => (-2))) :: .inl (cT 0, 80, .inl (fun _ => 0)) :: []) H := hB
  refine W.widen (k := 3) (n := 96) (Nat.le_of_ble_eq_true rfl) (Nat.le_of_ble_eq_true rfl) ?_
  refine W.eq (g2 := F0 m 32 ls []) rfl ?_
  exact W.vret hx hb hr (fun t ht hW => ⟨⟨(), rfl, trivial, by show Bw _ _ _ t.heap; rw [ht]; exact hB⟩, hS.F ht⟩) hS.2.2 d_X2_init_32
theorem d_X4_init_0 : decode cX4_init 0 = .ok (.aload_n 0, 1) := by decide +kernel
theorem d_X4_init_1 : decode cX4_init 1 = .ok (.invokespecial 3, 3) := by decide +kernel
theorem d_X4_init_4 : decode cX4_init 4 = .ok (.aload_n 0, 1) := by decide +kernel
theorem d_X4_init_5 : decode cX4_init 5 = .ok (.new 9, 3) := by decide +kernel
theorem d_X4_init_8 : decode cX4_init 8 = .ok (.dup, 1) := by decide +kernel
theorem d_X4_init_9 : decode cX4_init 9 = .ok (.invokespecial 11, 3) := by decide +kernel
theorem d_X4_init_12 : decode cX4_init 12 = .ok (.putfield 12, 3) := by decide +kernel
theorem d_X4_init_15 : decode cX4_init 15 = .ok (.aload_n 0, 1) := by decide +kernel
theorem d_X4_init_16 : decode cX4_init 16 = .ok (.bipush 36, 2) := by decide +kernel
theorem d_X4_init_18 : decode cX4_init 18 = .ok (.bipush 40, 2) := by decide +kernel
theorem d_X4_init_20 : decode cX4_init 20 = .ok (.multianewarray 18 2, 4) := by decide +kernel
theorem d_X4_init_24 : decode cX4_init 24 = .ok (.putfield 20, 3) := by decide +kernel
theorem d_X4_init_27 : decode cX4_init 27 = .ok (.aload_n 0, 1) := by decide +kernel
theorem d_X4_init_28 : decode cX4_init 28 = .ok (.bipush 36, 2) := by decide +kernel
theorem d_X4_init_30 : decode cX4_init 30 = .ok (.newarray .boolean, 2) := by decide +kernel
theorem d_X4_init_32 : decode cX4_init 32 = .ok (.putfield 23, 3) := by decide +kernel
theorem d_X4_init_35 : decode cX4_init 35 = .ok (.aload_n 0, 1) := by decide +kernel
theorem d_X4_init_36 : decode cX4_init 36 = .ok (.bipush 40, 2) := by decide +kernel
theorem d_X4_init_38 : decode cX4_init 38 = .ok (.newarray .int, 2) := by decide +kernel
theorem d_X4_init_40 : decode cX4_init 40 = .ok (.putfield 27, 3) := by decide +kernel
theorem d_X4_init_43 : decode cX4_init 43 = .ok (.aload_n 0, 1) := by decide +kernel
theorem d_X4_init_44 : decode cX4_init 44 = .ok (.bipush 40, 2) := by decide +kernel
theorem d_X4_init_46 : decode cX4_init 46 = .ok (.newarray .int, 2) := by decide +kernel
theorem d_X4_init_48 : decode cX4_init 48 = .ok (.putfield 31, 3) := by decide +kernel
theorem d_X4_init_51 : decode cX4_init 51 = .ok (.return_, 1) := by decide +kernel
def es_X4_init (cT : Nat → ClassId) (b : Nat) : List va_E := ((.inr (4, [.ref (b + 1), .ref (b + 2), .ref (b + 39), .ref (b + 40), .ref (b + 41)]) : va_E) :: .inr (3, [.int 0, .int 0, .int 0, .int 0, .int 0, .int 0, .int 0, .int 0, .int 0, .int 0]) :: outE (cT 5) 36 (b + 2) :: .inl (cT 0, 40, .inl (fun _ => 0)) :: .inl (cT 0, 40, .inl (fun _ => 0)) :: .inl (cT 0, 40, .inl (fun _ => 0)) :: .inl (cT 0, 40, .inl (fun _ => 0)) :: .inl (cT 0, 40, .inl (fun _ => 0)) :: .inl (cT 0, 40, .inl (fun _ => 0)) :: .inl (cT 0, 40, .inl (fun _ => 0)) :: .inl (cT 0, 40, .inl (fun _ => 0)) :: .inl (cT 0, 40, .inl (fun _ => 0)) :: .inl (cT 0, 40, .inl (fun _ => 0)) :: .inl (cT 0, 40, .inl (fun _ => 0)) :: .inl (cT 0, 40, .inl (fun _ => 0)) :: .inl (cT 0, 40, .inl (fun _ => 0)) :: .inl (cT 0, 40, .inl (fun _ => 0)) :: .inl (cT 0, 40, .inl (fun _ => 0)) :: .inl (cT 0, 40, .inl (fun _ => 0)) :: .inl (cT 0, 40, .inl (fun _ => 0)) :: .inl (cT 0, 40, .inl (fun _ => 0)) :: .inl (cT 0, 40, .inl (fun _ => 0)) :: .inl (cT 0, 40, .inl (fun _ => 0)) :: .inl (cT 0, 40, .inl (fun _ => 0)) :: .inl (cT 0, 40, .inl (fun _ => 0)) :: .inl (cT 0, 40, .inl (fun _ => 0)) :: .inl (cT 0, 40, .inl (fun _ => 0)) :: .inl (cT 0, 40, .inl (fun _ => 0)) :: .inl (cT 0, 40, .inl (fun _ => 0)) :: .inl (cT 0, 40, .inl (fun _ => 0)) :: .inl (cT 0, 40, .inl (fun _ => 0)) :: .inl (cT 0, 40, .inl (fun _ => 0)) :: .inl (cT 0, 40, .inl (fun _ => 0)) :: .inl (cT 0, 40, .inl (fun _ => 0)) :: .inl (cT 0, 40, .inl (fun _ => 0)) :: .inl (cT 0, 40, .inl (fun _ => 0)) :: .inl (cT 0, 40, .inl (fun _ => 0)) :: .inl (cT 0, 40, .inl (fun _ => 0)) :: .inl (cT 0, 40, .inl (fun _ => 0)) :: .inl (cT 1, 36, .inl (fun _ => 0)) :: .inl (cT 0, 40, .inl (fun _ => 0)) :: .inl (cT 0, 40, .inl (fun _ => 0)) :: [])
set_option maxHeartbeats 8000000 in
set_option maxRecDepth 100000 in
theorem k_X4 (l : Launch) : KC l yX4_init cX4_init 1 2 60 41 1602 (.inr (4, [.null, .null, .null, .null, .null])) es_X4_init := by
  intro D cT b
  refine Met.ofW (cc := cX4_init) (maxL := 1) (ret := none) (by decide) rfl ?_
  intro p e s m args below meth c s₁ B hml hv
  obtain ⟨rfl, hB, hK, hZ⟩ := hv
  have hx := B.exec
  have hb := B.bytes
  have hr := B.returns
  have hts1 := atoms_spec (ws := Cond.code yX4_init cX4_init 1 none :: gTb) B.pre
  have hts : ∀ w ∈ gTb, w.before [Value.ref b].toArray s = true := fun w h => hts1 w (List.mem_cons_of_mem _ h)
  have hown : s.vm.findClass (clsN 4) = some m.cls := findClass_of_methodNamed B.named
  have hlocks := B.notSynchronized
  have hin : meth.name = "<init>" := (name_of_methodNamed B.named B.method).1
  have hS : va_S (fun q => b ≤ q) s.heap s.heap [] := va_S.rf
  have hl := lv_entry ([.ref b]) (n := 1) (Nat.le_of_ble_eq_true rfl)
  rw [lg_entry_eq]
  generalize (lg_sl ([.ref b]) ++ List.replicate (1 - (lg_sl ([.ref b])).length) Slot.unset).toArray = ls at hl ⊢
  have hl : lv_has ls 1 [(0, .ref b)] := hl
  have cI : s.vm.findClass ("[" ++ (newarray.typeOf .int).toString) = some (cT 0) := (hK.2 0 (cT 0, .int) rfl).2
  have cZ : s.vm.findClass ("[" ++ (newarray.typeOf .boolean).toString) = some (cT 1) := (hK.2 1 (cT 1, .boolean) rfl).2
  have cII : s.vm.findClass ("[" ++ (FieldType.array .int).toString) = some (cT 5) := (hK.2 5 (cT 5, .array .int) rfl).2
  have cA3 : s.vm.findClass ("[" ++ (FieldType.object RX0).toString) = some (cT 3) := by obtain ⟨_, _, _, _, _, h⟩ := (hK.2 3 (cT 3, .object RX0) rfl).2; exact h
  have cA4 : s.vm.findClass ("[" ++ (FieldType.object RX2).toString) = some (cT 4) := by obtain ⟨_, _, _, _, _, h⟩ := (hK.2 4 (cT 4, .object RX2) rfl).2; exact h
  refine lv_aload_n hx hb d_X4_init_0 rfl (lv_at hl 0 rfl) ?_
  refine W.objInit hx hb hown (hts _ wl_X4) (hts _ wo_inst) (hts _ wo_code) rfl (by rw [hml]; exact hl.1) rfl d_X4_init_1 (Nat.le_of_ble_eq_true rfl) (Nat.le_of_ble_eq_true rfl) ?_
  refine W.eq (g2 := F0 m 4 ls []) rfl ?_
  refine lv_aload_n hx hb d_X4_init_4 rfl (lv_at hl 0 rfl) ?_
  refine bw_new (own := clsN 4) (C := RX3) (T := TX3) (N := 10) (ci := 3) (index := 9) (fs := [.int 0, .int 0, .int 0, .int 0, .int 0, .int 0, .int 0, .int 0, .int 0, .int 0]) hx hb hts cj_X3 tyX3 tyX3_ok hown (hts _ wk_X4_9) (hts _ wn_X3) (hts _ hin_3) hK hB hS rfl nf_X3 (Nat.le_of_ble_eq_true rfl) (Nat.le_of_ble_eq_true rfl) d_X4_init_5 (fun H hB hS => ?_)
  have hB : Bw D b ((.inr (4, [.null, .null, .null, .null, .null]) : va_E) :: .inr (3, [.int 0, .int 0, .int 0, .int 0, .int 0, .int 0, .int 0, .int 0, .int 0, .int 0]) :: []) H := hB
  refine W.widen (k := 1) (n := 10) (Nat.le_of_ble_eq_true rfl) (Nat.le_of_ble_eq_true rfl) ?_
  refine W.eq (g2 := F0 m 8 ls [.ref (b + 1), .ref b]) rfl ?_
  refine lv_dup hx hb d_X4_init_8 rfl ?_
  refine bw_ctorN (own := clsN 4) (es0 := ((.inr (4, [.null, .null, .null, .null, .null]) : va_E) :: [])) (index := 11) (nL := 1) hx hb hml hown hts1 hK hZ (k_X3 l) wc_X3 wt_X4_11 hin_3 wi_X3 rfl (by decide +kernel) ⟨(Nat.le_of_ble_eq_true rfl), (Nat.le_of_ble_eq_true rfl)⟩ hl.1 (Nat.le_of_ble_eq_true rfl) ⟨(Nat.le_of_ble_eq_true rfl), (Nat.le_of_ble_eq_true rfl)⟩ d_X4_init_9 hB hS (fun H locs hB hS => ?_)
  have hB : Bw D b ((.inr (4, [.null, .null, .null, .null, .null]) : va_E) :: .inr (3, [.int 0, .int 0, .int 0, .int 0, .int 0, .int 0, .int 0, .int 0, .int 0, .int 0]) :: []) H := hB
  refine W.widen (k := 1) (n := 10) (Nat.le_of_ble_eq_true rfl) (Nat.le_of_ble_eq_true rfl) ?_
  refine W.eq (g2 := F0 m 12 ls [.ref (b + 1), .ref b]) rfl ?_
  refine bw_putF (own := clsN 4) (q0 := 0) (ci := 4) (r := (RX4, TX4, 5)) (v := .ref (b + 1)) (ty := (.object "NightSounds$Ray")) hx hb hts hown hin hK hB hS rfl rfl 0 (by decide) fk_X4_12 rfl rfl (by decide +kernel) rfl rfl (Nat.le_of_ble_eq_true rfl) d_X4_init_12 (fun H locs hB hS => ?_)
  have hB : Bw D b ((.inr (4, [.ref (b + 1), .null, .null, .null, .null]) : va_E) :: .inr (3, [.int 0, .int 0, .int 0, .int 0, .int 0, .int 0, .int 0, .int 0, .int 0, .int 0]) :: []) H := hB
  refine W.eq (g2 := F0 m 15 ls []) rfl ?_
  refine lv_aload_n hx hb d_X4_init_15 rfl (lv_at hl 0 rfl) ?_
  refine lv_bipush (v := 36) hx hb d_X4_init_16 (by decide) ?_
  refine lv_bipush (v := 40) hx hb d_X4_init_18 (by decide) ?_
  refine bw_multi (own := clsN 4) (index := 18) (cA0 := cT 5) (cI := cT 0) (N' := 36) (K' := 40) hx hb hown (hts _ wk_X4_18) hZ.2.1 (hts _ wa_int) cII cI hB hS (by decide) (by decide) (by decide) (by decide) (by decide) (by decide) (Nat.le_of_ble_eq_true rfl) (Nat.le_of_ble_eq_true rfl) d_X4_init_20 (fun H hB hS => ?_)
  have hB : Bw D b ((.inr (4, [.ref (b + 1), .null, .null, .null, .null]) : va_E) :: .inr (3, [.int 0, .int 0, .int 0, .int 0, .int 0, .int 0, .int 0, .int 0, .int 0, .int 0]) :: outE (cT 5) 36 (b + 2) :: .inl (cT 0, 40, .inl (fun _ => 0)) :: .inl (cT 0, 40, .inl (fun _ => 0)) :: .inl (cT 0, 40, .inl (fun _ => 0)) :: .inl (cT 0, 40, .inl (fun _ => 0)) :: .inl (cT 0, 40, .inl (fun _ => 0)) :: .inl (cT 0, 40, .inl (fun _ => 0)) :: .inl (cT 0, 40, .inl (fun _ => 0)) :: .inl (cT 0, 40, .inl (fun _ => 0)) :: .inl (cT 0, 40, .inl (fun _ => 0)) :: .inl (cT 0, 40, .inl (fun _ => 0)) :: .inl (cT 0, 40, .inl (fun _ => 0)) :: .inl (cT 0, 40, .inl (fun _ => 0)) :: .inl (cT 0, 40, .inl (fun _ => 0)) :: .inl (cT 0, 40, .inl (fun _ => 0)) :: .inl (cT 0, 40, .inl (fun _ => 0)) :: .inl (cT 0, 40, .inl (fun _ => 0)) :: .inl (cT 0, 40, .inl (fun _ => 0)) :: .inl (cT 0, 40, .inl (fun _ => 0)) :: .inl (cT 0, 40, .inl (fun _ => 0)) :: .inl (cT 0, 40, .inl (fun _ => 0)) :: .inl (cT 0, 40, .inl (fun _ => 0)) :: .inl (cT 0, 40, .inl (fun _ => 0)) :: .inl (cT 0, 40, .inl (fun _ => 0)) :: .inl (cT 0, 40, .inl (fun _ => 0)) :: .inl (cT 0, 40, .inl (fun _ => 0)) :: .inl (cT 0, 40, .inl (fun _ => 0)) :: .inl (cT 0, 40, .inl (fun _ => 0)) :: .inl (cT 0, 40, .inl (fun _ => 0)) :: .inl (cT 0, 40, .inl (fun _ => 0)) :: .inl (cT 0, 40, .inl (fun _ => 0)) :: .inl (cT 0, 40, .inl (fun _ => 0)) :: .inl (cT 0, 40, .inl (fun _ => 0)) :: .inl (cT 0, 40, .inl (fun _ => 0)) :: .inl (cT 0, 40, .inl (fun _ => 0)) :: .inl (cT 0, 40, .inl (fun _ => 0)) :: .inl (cT 0, 40, .inl (fun _ => 0)) :: []) H := hB
  refine W.widen (k := 38) (n := 1486) (Nat.le_of_ble_eq_true rfl) (Nat.le_of_ble_eq_true rfl) ?_
  refine W.eq (g2 := F0 m 24 ls [.ref (b + 2), .ref b]) rfl ?_
  refine bw_putF (own := clsN 4) (q0 := 0) (ci := 4) (r := (RX4, TX4, 5)) (v := .ref (b + 2)) (ty := (.array (.array .int))) hx hb hts hown hin hK hB hS rfl rfl 1 (by decide) fk_X4_20 rfl rfl (by decide +kernel) rfl rfl (Nat.le_of_ble_eq_true rfl) d_X4_init_24 (fun H locs hB hS => ?_)
  have hB : Bw D b ((.inr (4, [.ref (b + 1), .ref (b + 2), .null, .null, .null]) : va_E) :: .inr (3, [.int 0, .int 0, .int 0, .int 0, .int 0, .int 0, .int 0, .int 0, .int 0, .int 0]) :: outE (cT 5) 36 (b + 2) :: .inl (cT 0, 40, .inl (fun _ => 0)) :: .inl (cT 0, 40, .inl (fun _ => 0)) :: .inl (cT 0, 40, .inl (fun _ => 0)) :: .inl (cT 0, 40, .inl (fun _ => 0)) :: .inl (cT 0, 40, .inl (fun _ => 0)) :: .inl (cT 0, 40, .inl (fun _ => 0)) :: .inl (cT 0, 40, .inl (fun _ => 0)) :: .inl (cT 0, 40, .inl (fun _ => 0)) :: .inl (cT 0, 40, .inl (fun _ => 0)) :: .inl (cT 0, 40, .inl (fun _ => 0)) :: .inl (cT 0, 40, .inl (fun _ => 0)) :: .inl (cT 0, 40, .inl (fun _ => 0)) :: .inl (cT 0, 40, .inl (fun _ => 0)) :: .inl (cT 0, 40, .inl (fun _ => 0)) :: .inl (cT 0, 40, .inl (fun _ => 0)) :: .inl (cT 0, 40, .inl (fun _ => 0)) :: .inl (cT 0, 40, .inl (fun _ => 0)) :: .inl (cT 0, 40, .inl (fun _ => 0)) :: .inl (cT 0, 40, .inl (fun _ => 0)) :: .inl (cT 0, 40, .inl (fun _ => 0)) :: .inl (cT 0, 40, .inl (fun _ => 0)) :: .inl (cT 0, 40, .inl (fun _ => 0)) :: .inl (cT 0, 40, .inl (fun _ => 0)) :: .inl (cT 0, 40, .inl (fun _ => 0)) :: .inl (cT 0, 40, .inl (fun _ => 0)) :: .inl (cT 0, 40, .inl (fun _ => 0)) :: .inl (cT 0, 40, .inl (fun _ => 0)) :: .inl (cT 0, 40, .inl (fun _ => 0)) :: .inl (cT 0, 40, .inl (fun _ => 0)) :: .inl (cT 0, 40, .inl (fun _ => 0)) :: .inl (cT 0, 40, .inl (fun _ => 0)) :: .inl (cT 0, 40, .inl (fun _ => 0)) :: .inl (cT 0, 40, .inl (fun _ => 0)) :: .inl (cT 0, 40, .inl (fun _ => 0)) :: .inl (cT 0, 40, .inl (fun _ => 0)) :: .inl (cT 0, 40, .inl (fun _ => 0)) :: []) H := hB
  refine W.eq (g2 := F0 m 27 ls []) rfl ?_
  refine lv_aload_n hx hb d_X4_init_27 rfl (lv_at hl 0 rfl) ?_
  refine lv_bipush (v := 36) hx hb d_X4_init_28 (by decide) ?_
  refine bw_newa (atype := .boolean) (cA0 := cT 1) (a0 := (36, .inl (fun _ => 0))) (N' := 36) hx hb (hts _ wa_bool) cZ (fun cA => rfl) hB hS (by decide) (by decide) (by decide) (Nat.le_of_ble_eq_true rfl) (Nat.le_of_ble_eq_true rfl) d_X4_init_30 (fun H hB hS => ?_)
  have hB : Bw D b ((.inr (4, [.ref (b + 1), .ref (b + 2), .null, .null, .null]) : va_E) :: .inr (3, [.int 0, .int 0, .int 0, .int 0, .int 0, .int 0, .int 0, .int 0, .int 0, .int 0]) :: outE (cT 5) 36 (b + 2) :: .inl (cT 0, 40, .inl (fun _ => 0)) :: .inl (cT 0, 40, .inl (fun _ => 0)) :: .inl (cT 0, 40, .inl (fun _ => 0)) :: .inl (cT 0, 40, .inl (fun _ => 0)) :: .inl (cT 0, 40, .inl (fun _ => 0)) :: .inl (cT 0, 40, .inl (fun _ => 0)) :: .inl (cT 0, 40, .inl (fun _ => 0)) :: .inl (cT 0, 40, .inl (fun _ => 0)) :: .inl (cT 0, 40, .inl (fun _ => 0)) :: .inl (cT 0, 40, .inl (fun _ => 0)) :: .inl (cT 0, 40, .inl (fun _ => 0)) :: .inl (cT 0, 40, .inl (fun _ => 0)) :: .inl (cT 0, 40, .inl (fun _ => 0)) :: .inl (cT 0, 40, .inl (fun _ => 0)) :: .inl (cT 0, 40, .inl (fun _ => 0)) :: .inl (cT 0, 40, .inl (fun _ => 0)) :: .inl (cT 0, 40, .inl (fun _ => 0)) :: .inl (cT 0, 40, .inl (fun _ => 0)) :: .inl (cT 0, 40, .inl (fun _ => 0)) :: .inl (cT 0, 40, .inl (fun _ => 0)) :: .inl (cT 0, 40, .inl (fun _ => 0)) :: .inl (cT 0, 40, .inl (fun _ => 0)) :: .inl (cT 0, 40, .inl (fun _ => 0)) :: .inl (cT 0, 40, .inl (fun _ => 0)) :: .inl (cT 0, 40, .inl (fun _ => 0)) :: .inl (cT 0, 40, .inl (fun _ => 0)) :: .inl (cT 0, 40, .inl (fun _ => 0)) :: .inl (cT 0, 40, .inl (fun _ => 0)) :: .inl (cT 0, 40, .inl (fun _ => 0)) :: .inl (cT 0, 40, .inl (fun _ => 0)) :: .inl (cT 0, 40, .inl (fun _ => 0)) :: .inl (cT 0, 40, .inl (fun _ => 0)) :: .inl (cT 0, 40, .inl (fun _ => 0)) :: .inl (cT 0, 40, .inl (fun _ => 0)) :: .inl (cT 0, 40, .inl (fun _ => 0)) :: .inl (cT 0, 40, .inl (fun _ => 0)) :: .inl (cT 1, 36, .inl (fun _ => 0)) :: []) H := hB
  refine W.widen (k := 39) (n := 1522) (Nat.le_of_ble_eq_true rfl) (Nat.le_of_ble_eq_true rfl) ?_
  refine W.eq (g2 := F0 m 32 ls [.ref (b + 39), .ref b]) rfl ?_
  refine bw_putF (own := clsN 4) (q0 := 0) (ci := 4) (r := (RX4, TX4, 5)) (v := .ref (b + 39)) (ty := (.array .boolean)) hx hb hts hown hin hK hB hS rfl rfl 2 (by decide) fk_X4_23 rfl rfl (by decide +kernel) rfl rfl (Nat.le_of_ble_eq_true rfl) d_X4_init_32 (fun H locs hB hS => ?_)
  have hB : Bw D b ((.inr (4, [.ref (b + 1), .ref (b + 2), .ref (b + 39), .null, .null]) : va_E) :: .inr (3, [.int 0, .int 0, .int 0, .int 0, .int 0, .int 0, .int 0, .int 0, .int 0, .int 0]) :: outE (cT 5) 36 (b + 2) :: .inl (cT 0, 40, .inl (fun _ => 0)) :: .inl (cT 0, 40, .inl (fun _ => 0)) :: .inl (cT 0, 40, .inl (fun _ => 0)) :: .inl (cT 0, 40, .inl (fun _ => 0)) :: .inl (cT 0, 40, .inl (fun _ => 0)) :: .inl (cT 0, 40, .inl (fun _ => 0)) :: .inl (cT 0, 40, .inl (fun _ => 0)) :: .inl (cT 0, 40, .inl (fun _ => 0)) :: .inl (cT 0, 40, .inl (fun _ => 0)) :: .inl (cT 0, 40, .inl (fun _ => 0)) :: .inl (cT 0, 40, .inl (fun _ => 0)) :: .inl (cT 0, 40, .inl (fun _ => 0)) :: .inl (cT 0, 40, .inl (fun _ => 0)) :: .inl (cT 0, 40, .inl (fun _ => 0)) :: .inl (cT 0, 40, .inl (fun _ => 0)) :: .inl (cT 0, 40, .inl (fun _ => 0)) :: .inl (cT 0, 40, .inl (fun _ => 0)) :: .inl (cT 0, 40, .inl (fun _ => 0)) :: .inl (cT 0, 40, .inl (fun _ => 0)) :: .inl (cT 0, 40, .inl (fun _ => 0)) :: .inl (cT 0, 40, .inl (fun _ => 0)) :: .inl (cT 0, 40, .inl (fun _ => 0)) :: .inl (cT 0, 40, .inl (fun _ => 0)) :: .inl (cT 0, 40, .inl (fun _ => 0)) :: .inl (cT 0, 40, .inl (fun _ => 0)) :: .inl (cT 0, 40, .inl (fun _ => 0)) :: .inl (cT 0, 40, .inl (fun _ => 0)) :: .inl (cT 0, 40, .inl (fun _ => 0)) :: .inl (cT 0, 40, .inl (fun _ => 0)) :: .inl (cT 0, 40, .inl (fun _ => 0)) :: .inl (cT 0, 40, .inl (fun _ => 0)) :: .inl (cT 0, 40, .inl (fun _ => 0)) :: .inl (cT 0, 40, .inl (fun _ => 0)) :: .inl (cT 0, 40, .inl (fun _ => 0)) :: .inl (cT 0, 40, .inl (fun _ => 0)) :: .inl (cT 0, 40, .inl (fun _ => 0)) :: .inl (cT 1, 36, .inl (fun _ => 0)) :: []) H := hB
  refine W.eq (g2 := F0 m 35 ls []) rfl ?_
  refine lv_aload_n hx hb d_X4_init_35 rfl (lv_at hl 0 rfl) ?_
  refine lv_bipush (v := 40) hx hb d_X4_init_36 (by decide) ?_
  refine bw_newa (atype := .int) (cA0 := cT 0) (a0 := (40, .inl (fun _ => 0))) (N' := 40) hx hb (hts _ wa_int) cI (fun cA => rfl) hB hS (by decide) (by decide) (by decide) (Nat.le_of_ble_eq_true rfl) (Nat.le_of_ble_eq_true rfl) d_X4_init_38 (fun H hB hS => ?_)
  have hB : Bw D b ((.inr (4, [.ref (b + 1), .ref (b + 2), .ref (b + 39), .null, .null]) : va_E) :: .inr (3, [.int 0, .int 0, .int 0, .int 0, .int 0, .int 0, .int 0, .int 0, .int 0, .int 0]) :: outE (cT 5) 36 (b + 2) :: .inl (cT 0, 40, .inl (fun _ => 0)) :: .inl (cT 0, 40, .inl (fun _ => 0)) :: .inl (cT 0, 40, .inl (fun _ => 0)) :: .inl (cT 0, 40, .inl (fun _ => 0)) :: .inl (cT 0, 40, .inl (fun _ => 0)) :: .inl (cT 0, 40, .inl (fun _ => 0)) :: .inl (cT 0, 40, .inl (fun _ => 0)) :: .inl (cT 0, 40, .inl (fun _ => 0)) :: .inl (cT 0, 40, .inl (fun _ => 0)) :: .inl (cT 0, 40, .inl (fun _ => 0)) :: .inl (cT 0, 40, .inl (fun _ => 0)) :: .inl (cT 0, 40, .inl (fun _ => 0)) :: .inl (cT 0, 40, .inl (fun _ => 0)) :: .inl (cT 0, 40, .inl (fun _ => 0)) :: .inl (cT 0, 40, .inl (fun _ => 0)) :: .inl (cT 0, 40, .inl (fun _ => 0)) :: .inl (cT 0, 40, .inl (fun _ => 0)) :: .inl (cT 0, 40, .inl (fun _ => 0)) :: .inl (cT 0, 40, .inl (fun _ => 0)) :: .inl (cT 0, 40, .inl (fun _ => 0)) :: .inl (cT 0, 40, .inl (fun _ => 0)) :: .inl (cT 0, 40, .inl (fun _ => 0)) :: .inl (cT 0, 40, .inl (fun _ => 0)) :: .inl (cT 0, 40, .inl (fun _ => 0)) :: .inl (cT 0, 40, .inl (fun _ => 0)) :: .inl (cT 0, 40, .inl (fun _ => 0)) :: .inl (cT 0, 40, .inl (fun _ => 0)) :: .inl (cT 0, 40, .inl (fun _ => 0)) :: .inl (cT 0, 40, .inl (fun _ => 0)) :: .inl (cT 0, 40, .inl (fun _ => 0)) :: .inl (cT 0, 40, .inl (fun _ => 0)) :: .inl (cT 0, 40, .inl (fun _ => 0)) :: .inl (cT 0, 40, .inl (fun _ => 0)) :: .inl (cT 0, 40, .inl (fun _ => 0)) :: .inl (cT 0, 40, .inl (fun _ => 0)) :: .inl (cT 0, 40, .inl (fun _ => 0)) :: .inl (cT 1, 36, .inl (fun _ => 0)) :: .inl (cT 0, 40, .inl (fun _ => 0)) :: []) H := hB
  refine W.widen (k := 40) (n := 1562) (Nat.le_of_ble_eq_true rfl) (Nat.le_of_ble_eq_true rfl) ?_
  refine W.eq (g2 := F0 m 40 ls [.ref (b + 40), .ref b]) rfl ?_
  refine bw_putF (own := clsN 4) (q0 := 0) (ci := 4) (r := (RX4, TX4, 5)) (v := .ref (b + 40)) (ty := (.array .int)) hx hb hts hown hin hK hB hS rfl rfl 3 (by decide) fk_X4_27 rfl rfl (by decide +kernel) rfl rfl (Nat.le_of_ble_eq_true rfl) d_X4_init_40 (fun H locs hB hS => ?_)
  have hB : Bw D b ((.inr (4, [.ref (b + 1), .ref (b + 2), .ref (b + 39), .ref (b + 40), .null]) : va_E) :: .inr (3, [.int 0, .int 0, .int 0, .int 0, .int 0, .int 0, .int 0, .int 0, .int 0, .int 0]) :: outE (cT 5) 36 (b + 2) :: .inl (cT 0, 40, .inl (fun _ => 0)) :: .inl (cT 0, 40, .inl (fun _ => 0)) :: .inl (cT 0, 40, .inl (fun _ => 0)) :: .inl (cT 0, 40, .inl (fun _ => 0)) :: .inl (cT 0, 40, .inl (fun _ => 0)) :: .inl (cT 0, 40, .inl (fun _ => 0)) :: .inl (cT 0, 40, .inl (fun _ => 0)) :: .inl (cT 0, 40, .inl (fun _ => 0)) :: .inl (cT 0, 40, .inl (fun _ => 0)) :: .inl (cT 0, 40, .inl (fun _ => 0)) :: .inl (cT 0, 40, .inl (fun _ => 0)) :: .inl (cT 0, 40, .inl (fun _ => 0)) :: .inl (cT 0, 40, .inl (fun _ => 0)) :: .inl (cT 0, 40, .inl (fun _ => 0)) :: .inl (cT 0, 40, .inl (fun _ => 0)) :: .inl (cT 0, 40, .inl (fun _ => 0)) :: .inl (cT 0, 40, .inl (fun _ => 0)) :: .inl (cT 0, 40, .inl (fun _ => 0)) :: .inl (cT 0, 40, .inl (fun _ => 0)) :: .inl (cT 0, 40, .inl (fun _ => 0)) :: .inl (cT 0, 40, .inl (fun _ => 0)) :: .inl (cT 0, 40, .inl (fun _ => 0)) :: .inl (cT 0, 40, .inl (fun _ => 0)) :: .inl (cT 0, 40, .inl (fun _ => 0)) :: .inl (cT 0, 40, .inl (fun _ => 0)) :: .inl (cT 0, 40, .inl (fun _ => 0)) :: .inl (cT 0, 40, .inl (fun _ => 0)) :: .inl (cT 0, 40, .inl (fun _ => 0)) :: .inl (cT 0, 40, .inl (fun _ => 0)) :: .inl (cT 0, 40, .inl (fun _ => 0)) :: .inl (cT 0, 40, .inl (fun _ => 0)) :: .inl (cT 0, 40, .inl (fun _ => 0)) :: .inl (cT 0, 40, .inl (fun _ => 0)) :: .inl (cT 0, 40, .inl (fun _ => 0)) :: .inl (cT 0, 40, .inl (fun _ => 0)) :: .inl (cT 0, 40, .inl (fun _ => 0)) :: .inl (cT 1, 36, .inl (fun _ => 0)) :: .inl (cT 0, 40, .inl (fun _ => 0)) :: []) H := hB
  refine W.eq (g2 := F0 m 43 ls []) rfl ?_
  refine lv_aload_n hx hb d_X4_init_43 rfl (lv_at hl 0 rfl) ?_
  refine lv_bipush (v := 40) hx hb d_X4_init_44 (by decide) ?_
  refine bw_newa (atype := .int) (cA0 := cT 0) (a0 := (40, .inl (fun _ => 0))) (N' := 40) hx hb (hts _ wa_int) cI (fun cA => rfl) hB hS (by decide) (by decide) (by decide) (Nat.le_of_ble_eq_true rfl) (Nat.le_of_ble_eq_true rfl) d_X4_init_46 (fun H hB hS => ?_)
  have hB : Bw D b ((.inr (4, [.ref (b + 1), .ref (b + 2), .ref (b + 39), .ref (b + 40), .null]) : va_E) :: .inr (3, [.int 0, .int 0, .int 0, .int 0, .int 0, .int 0, .int 0, .int 0, .int 0, .int 0]) :: outE (cT 5) 36 (b + 2) :: .inl (cT 0, 40, .inl (fun _ => 0)) :: .inl (cT 0, 40, .inl (fun _ => 0)) :: .inl (cT 0, 40, .inl (fun _ => 0)) :: .inl (cT 0, 40, .inl (fun _ => 0)) :: .inl (cT 0, 40, .inl (fun _ => 0)) :: .inl (cT 0, 40, .inl (fun _ => 0)) :: .inl (cT 0, 40, .inl (fun _ => 0)) :: .inl (cT 0, 40, .inl (fun _ => 0)) :: .inl (cT 0, 40, .inl (fun _ => 0)) :: .inl (cT 0, 40, .inl (fun _ => 0)) :: .inl (cT 0, 40, .inl (fun _ => 0)) :: .inl (cT 0, 40, .inl (fun _ => 0)) :: .inl (cT 0, 40, .inl (fun _ => 0)) :: .inl (cT 0, 40, .inl (fun _ => 0)) :: .inl (cT 0, 40, .inl (fun _ => 0)) :: .inl (cT 0, 40, .inl (fun _ => 0)) :: .inl (cT 0, 40, .inl (fun _ => 0)) :: .inl (cT 0, 40, .inl (fun _ => 0)) :: .inl (cT 0, 40, .inl (fun _ => 0)) :: .inl (cT 0, 40, .inl (fun _ => 0)) :: .inl (cT 0, 40, .inl (fun _ => 0)) :: .inl (cT 0, 40, .inl (fun _ => 0)) :: .inl (cT 0, 40, .inl (fun _ => 0)) :: .inl (cT 0, 40, .inl (fun _ => 0)) :: .inl (cT 0, 40, .inl (fun _ => 0)) :: .inl (cT 0, 40, .inl (fun _ => 0)) :: .inl (cT 0, 40, .inl (fun _ => 0)) :: .inl (cT 0, 40, .inl (fun _ => 0)) :: .inl (cT 0, 40, .inl (fun _ => 0)) :: .inl (cT 0, 40, .inl (fun _ => 0)) :: .inl (cT 0, 40, .inl (fun _ => 0)) :: .inl (cT 0, 40, .inl (fun _ => 0)) :: .inl (cT 0, 40, .inl (fun _ => 0)) :: .inl (cT 0, 40, .inl (fun _ => 0)) :: .inl (cT 0, 40, .inl (fun _ => 0)) :: .inl (cT 0, 40, .inl (fun _ => 0)) :: .inl (cT 1, 36, .inl (fun _ => 0)) :: .inl (cT 0, 40, .inl (fun _ => 0)) :: .inl (cT 0, 40, .inl (fun _ => 0)) :: []) H := hB
  refine W.widen (k := 41) (n := 1602) (Nat.le_of_ble_eq_true rfl) (Nat.le_of_ble_eq_true rfl) ?_
  refine W.eq (g2 := F0 m 48 ls [.ref (b + 41), .ref b]) rfl ?_
  refine bw_putF (own := clsN 4) (q0 := 0) (ci := 4) (r := (RX4, TX4, 5)) (v := .ref (b + 41)) (ty := (.array .int)) hx hb hts hown hin hK hB hS rfl rfl 4 (by decide) fk_X4_31 rfl rfl (by decide +kernel) rfl rfl (Nat.le_of_ble_eq_true rfl) d_X4_init_48 (fun H locs hB hS => ?_)
  have hB : Bw D b ((.inr (4, [.ref (b + 1), .ref (b + 2), .ref (b + 39), .ref (b + 40), .ref (b + 41)]) : va_E) :: .inr (3, [.int 0, .int 0, .int 0, .int 0, .int 0, .int 0, .int 0, .int 0, .int 0, .int 0]) :: outE (cT 5) 36 (b + 2) :: .inl (cT 0, 40, .inl (fun _ => 0)) :: .inl (cT 0, 40, .inl (fun _ => 0)) :: .inl (cT 0, 40, .inl (fun _ => 0)) :: .inl (cT 0, 40, .inl (fun _ => 0)) :: .inl (cT 0, 40, .inl (fun _ => 0)) :: .inl (cT 0, 40, .inl (fun _ => 0)) :: .inl (cT 0, 40, .inl (fun _ => 0)) :: .inl (cT 0, 40, .inl (fun _ => 0)) :: .inl (cT 0, 40, .inl (fun _ => 0)) :: .inl (cT 0, 40, .inl (fun _ => 0)) :: .inl (cT 0, 40, .inl (fun _ => 0)) :: .inl (cT 0, 40, .inl (fun _ => 0)) :: .inl (cT 0, 40, .inl (fun _ => 0)) :: .inl (cT 0, 40, .inl (fun _ => 0)) :: .inl (cT 0, 40, .inl (fun _ => 0)) :: .inl (cT 0, 40, .inl (fun _ => 0)) :: .inl (cT 0, 40, .inl (fun _ => 0)) :: .inl (cT 0, 40, .inl (fun _ => 0)) :: .inl (cT 0, 40, .inl (fun _ => 0)) :: .inl (cT 0, 40, .inl (fun _ => 0)) :: .inl (cT 0, 40, .inl (fun _ => 0)) :: .inl (cT 0, 40, .inl (fun _ => 0)) :: .inl (cT 0, 40, .inl (fun _ => 0)) :: .inl (cT 0, 40, .inl (fun _ => 0)) :: .inl (cT 0, 40, .inl (fun _ => 0)) :: .inl (cT 0, 40, .inl (fun _ => 0)) :: .inl (cT 0, 40, .inl (fun _ => 0)) :: .inl (cT 0, 40, .inl (fun _ => 0)) :: .inl (cT 0, 40, .inl (fun _ => 0)) :: .inl (cT 0, 40, .inl (fun _ => 0)) :: .inl (cT 0, 40, .inl (fun _ => 0)) :: .inl (cT 0, 40, .inl (fun _ => 0)) :: .inl (cT 0, 40, .inl (fun _ => 0)) :: .inl (cT 0, 40, .inl (fun _ => 0)) :: .inl (cT 0, 40, .inl (fun _ => 0)) :: .inl (cT 0, 40, .inl (fun _ => 0)) :: .inl (cT 1, 36, .inl (fun _ => 0)) :: .inl (cT 0, 40, .inl (fun _ => 0)) :: .inl (cT 0, 40, .inl (fun _ => 0)) :: []) H := hB
  refine W.eq (g2 := F0 m 51 ls []) rfl ?_
  exact W.vret hx hb hr (fun t ht hW => ⟨⟨(), rfl, trivial, by show Bw _ _ _ t.heap; rw [ht]; exact hB⟩, hS.F ht⟩) hS.2.2 d_X4_init_51
