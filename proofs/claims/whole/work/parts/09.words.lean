theorem in_X0 : ∀ w ∈ u_ws RX0 TX0 3, w ∈ tk_G := by decide +kernel
theorem in_X1 : ∀ w ∈ u_ws RX1 TX1 3, w ∈ tk_G := by decide +kernel
theorem in_X2 : ∀ w ∈ u_ws RX2 TX2 3, w ∈ tk_G := by decide +kernel
theorem in_X3 : ∀ w ∈ u_ws RX3 TX3 7, w ∈ tk_G := by decide +kernel
theorem in_X4 : ∀ w ∈ u_ws RX4 TX4 3, w ∈ tk_G := by decide +kernel
theorem in_X5 : ∀ w ∈ u_ws RX5 TX5 10, w ∈ tk_G := by decide +kernel
theorem in_X6 : ∀ w ∈ u_ws RX6 TX6 12, w ∈ tk_G := by decide +kernel
theorem in_X7 : ∀ w ∈ u_ws RX7 TX7 29, w ∈ tk_G := by decide +kernel
theorem wm_X0_3 : Cond.methodLink RX0 3 objectInit ∈ tk_G := (tk_mem 217 (by decide +kernel) rfl)
theorem wo_1 : Cond.instanceMethod objectInit ∈ tk_G := (tk_mem 56 (by decide +kernel) rfl)
theorem wo_2 : Cond.code objectInit ⟨#[0xb1]⟩ 1 none ∈ tk_G := (tk_mem 57 (by decide +kernel) rfl)
theorem wa_int : Cond.arrayClass .int ∈ tk_G := (tk_mem 149 (by decide +kernel) rfl)
theorem wf_X0_9 : Cond.fieldLink RX0 9 (TX0 0).1 (TX0 0).2.1 (TX0 0).2.2.1 ∈ tk_G := (tk_mem 218 (by decide +kernel) rfl)
theorem wf_X0_15 : Cond.fieldLink RX0 15 (TX0 1).1 (TX0 1).2.1 (TX0 1).2.2.1 ∈ tk_G := (tk_mem 220 (by decide +kernel) rfl)
theorem wf_X0_18 : Cond.fieldLink RX0 18 (TX0 2).1 (TX0 2).2.1 (TX0 2).2.2.1 ∈ tk_G := (tk_mem 222 (by decide +kernel) rfl)
theorem wm_X4_3 : Cond.methodLink RX4 3 objectInit ∈ tk_G := (tk_mem 162 (by decide +kernel) rfl)
theorem wm_X1_3 : Cond.methodLink RX1 3 objectInit ∈ tk_G := (tk_mem 155 (by decide +kernel) rfl)
theorem wk_X1_9 : Cond.classLink RX1 9 RX4 ∈ tk_G := (tk_mem 156 (by decide +kernel) rfl)
theorem wf_X1_11 : Cond.fieldLink RX1 11 (TX1 2).1 (TX1 2).2.1 (TX1 2).2.2.1 ∈ tk_G := (tk_mem 183 (by decide +kernel) rfl)
theorem wi_X4 : Cond.instantiable RX4 3 ∈ tk_G := (tk_mem 158 (by decide +kernel) rfl)
theorem wn_X4 : Cond.initialized RX4 ∈ tk_G := (tk_mem 44 (by decide +kernel) rfl)
theorem wm_X1_17 : Cond.methodLinkNest RX1 17 yX4_init "TwoKerbs" ∈ lw_tbl := List.mem_of_getElem? (i := 159) (by decide +kernel)
theorem wf_X4_9 : Cond.fieldLink RX4 9 (TX4 0).1 (TX4 0).2.1 (TX4 0).2.2.1 ∈ tk_G := (tk_mem 163 (by decide +kernel) rfl)
theorem wf_X4_15 : Cond.fieldLink RX4 15 (TX4 1).1 (TX4 1).2.1 (TX4 1).2.2.1 ∈ tk_G := (tk_mem 166 (by decide +kernel) rfl)
theorem wf_X4_18 : Cond.fieldLink RX4 18 (TX4 2).1 (TX4 2).2.1 (TX4 2).2.2.1 ∈ tk_G := (tk_mem 169 (by decide +kernel) rfl)
theorem wf_X1_18 : Cond.fieldLink RX1 18 (TX1 0).1 (TX1 0).2.1 (TX1 0).2.2.1 ∈ tk_G := (tk_mem 179 (by decide +kernel) rfl)
theorem wf_X1_22 : Cond.fieldLink RX1 22 (TX1 1).1 (TX1 1).2.1 (TX1 1).2.2.1 ∈ tk_G := (tk_mem 181 (by decide +kernel) rfl)
theorem wf_X1_25 : Cond.fieldLink RX1 25 (TX5 4).1 (TX5 4).2.1 (TX5 4).2.2.1 ∈ tk_G := (tk_mem 111 (by decide +kernel) rfl)
theorem wf_X1_29 : Cond.fieldLink RX1 29 (TX5 9).1 (TX5 9).2.1 (TX5 9).2.2.1 ∈ tk_G := (tk_mem 127 (by decide +kernel) rfl)
theorem wm_X1_33 : Cond.methodLink RX1 33 yX4_lieOn ∈ tk_G := (tk_mem 362 (by decide +kernel) rfl)
theorem wf_X5_34 : Cond.fieldLink RX5 34 (TX5 3).1 (TX5 3).2.1 (TX5 3).2.2.1 ∈ tk_G := (tk_mem 108 (by decide +kernel) rfl)
theorem wm_X5_57 : Cond.methodLink RX5 57 yX5_isKerb ∈ tk_G := (tk_mem 426 (by decide +kernel) rfl)
theorem wf_X5_15 : Cond.fieldLink RX5 15 (TX5 6).1 (TX5 6).2.1 (TX5 6).2.2.1 ∈ tk_G := (tk_mem 116 (by decide +kernel) rfl)
theorem wm_X4_22 : Cond.methodLink RX4 22 yX4_lies ∈ tk_G := (tk_mem 390 (by decide +kernel) rfl)
theorem wm_X4_26 : Cond.methodLink RX4 26 yX5_isFlooded ∈ tk_G := (tk_mem 451 (by decide +kernel) rfl)
theorem wf_X4_32 : Cond.fieldLink RX4 32 (TX5 8).1 (TX5 8).2.1 (TX5 8).2.2.1 ∈ tk_G := (tk_mem 124 (by decide +kernel) rfl)
theorem wf_X4_36 : Cond.fieldLink RX4 36 (TX5 7).1 (TX5 7).2.1 (TX5 7).2.2.1 ∈ tk_G := (tk_mem 120 (by decide +kernel) rfl)
theorem wf_X5_41 : Cond.fieldLink RX5 41 (TX5 0).1 (TX5 0).2.1 (TX5 0).2.2.1 ∈ tk_G := (tk_mem 102 (by decide +kernel) rfl)
theorem wf_X5_44 : Cond.fieldLink RX5 44 (TX5 1).1 (TX5 1).2.1 (TX5 1).2.2.1 ∈ tk_G := (tk_mem 104 (by decide +kernel) rfl)
theorem wf_X5_47 : Cond.fieldLink RX5 47 (TX5 2).1 (TX5 2).2.1 (TX5 2).2.2.1 ∈ tk_G := (tk_mem 106 (by decide +kernel) rfl)
theorem wm_X5_61 : Cond.methodLink RX5 61 yX5_leftOver ∈ tk_G := (tk_mem 414 (by decide +kernel) rfl)
theorem wm_X1_37 : Cond.methodLink RX1 37 yX5_levelOf ∈ tk_G := (tk_mem 446 (by decide +kernel) rfl)
theorem wm_X1_41 : Cond.methodLink RX1 41 yX4_pass ∈ tk_G := (tk_mem 447 (by decide +kernel) rfl)
theorem wc_X1_45 : Cond.constant RX1 45 (99999) ∈ tk_G := (tk_mem 452 (by decide +kernel) rfl)
theorem wm_X1_46 : Cond.methodLink RX1 46 yJ9_min_7cf53 ∈ tk_G := (tk_mem 453 (by decide +kernel) rfl)
theorem wm_X1_52 : Cond.methodLink RX1 52 yX4_liesOn ∈ tk_G := (tk_mem 386 (by decide +kernel) rfl)
theorem wf_X1_56 : Cond.fieldLink RX1 56 (TX4 2).1 (TX4 2).2.1 (TX4 2).2.2.1 ∈ tk_G := (tk_mem 170 (by decide +kernel) rfl)
theorem wf_X1_60 : Cond.fieldLink RX1 60 (TX4 0).1 (TX4 0).2.1 (TX4 0).2.2.1 ∈ tk_G := (tk_mem 164 (by decide +kernel) rfl)
theorem wf_X1_63 : Cond.fieldLink RX1 63 (TX4 1).1 (TX4 1).2.1 (TX4 1).2.2.1 ∈ tk_G := (tk_mem 167 (by decide +kernel) rfl)
theorem wm_X2_3 : Cond.methodLink RX2 3 objectInit ∈ tk_G := (tk_mem 197 (by decide +kernel) rfl)
theorem wk_X2_11 : Cond.classLink RX2 11 "[[I" ∈ tk_G := (tk_mem 198 (by decide +kernel) rfl)
theorem wf_X2_13 : Cond.fieldLink RX2 13 (TX2 0).1 (TX2 0).2.1 (TX2 0).2.2.1 ∈ tk_G := (tk_mem 200 (by decide +kernel) rfl)
theorem wf_X2_18 : Cond.fieldLink RX2 18 (TX2 2).1 (TX2 2).2.1 (TX2 2).2.2.1 ∈ tk_G := (tk_mem 203 (by decide +kernel) rfl)
theorem wf_X2_22 : Cond.fieldLink RX2 22 (TX2 1).1 (TX2 1).2.1 (TX2 1).2.2.1 ∈ tk_G := (tk_mem 201 (by decide +kernel) rfl)
theorem wm_X2_25 : Cond.methodLink RX2 25 yJ9_min_7cf53 ∈ tk_G := (tk_mem 435 (by decide +kernel) rfl)
theorem wm_X2_31 : Cond.methodLink RX2 31 yJ9_max_7cf53 ∈ tk_G := (tk_mem 479 (by decide +kernel) rfl)
theorem wm_X3_3 : Cond.methodLink RX3 3 objectInit ∈ tk_G := (tk_mem 63 (by decide +kernel) rfl)
theorem wa_char : Cond.arrayClass .char ∈ tk_G := (tk_mem 87 (by decide +kernel) rfl)
theorem wf_X3_9 : Cond.fieldLink RX3 9 (TX3 0).1 (TX3 0).2.1 (TX3 0).2.2.1 ∈ tk_G := (tk_mem 64 (by decide +kernel) rfl)
theorem wf_X3_15 : Cond.fieldLink RX3 15 (TX3 1).1 (TX3 1).2.1 (TX3 1).2.2.1 ∈ tk_G := (tk_mem 65 (by decide +kernel) rfl)
theorem wf_X3_28 : Cond.fieldLink RX3 28 (TX3 2).1 (TX3 2).2.1 (TX3 2).2.2.1 ∈ tk_G := (tk_mem 67 (by decide +kernel) rfl)
theorem wm_X3_99 : Cond.methodLink RX3 99 yX3_isDigit ∈ tk_G := (tk_mem 303 (by decide +kernel) rfl)
theorem wf_X3_41 : Cond.fieldLink RX3 41 (TX3 4).1 (TX3 4).2.1 (TX3 4).2.2.1 ∈ tk_G := (tk_mem 69 (by decide +kernel) rfl)
theorem wf_X3_34 : Cond.fieldLink RX3 34 (TX3 3).1 (TX3 3).2.1 (TX3 3).2.2.1 ∈ tk_G := (tk_mem 68 (by decide +kernel) rfl)
theorem wm_X3_103 : Cond.methodLink RX3 103 yX3_readDigits ∈ tk_G := (tk_mem 306 (by decide +kernel) rfl)
theorem wf_X3_70 : Cond.fieldLink RX3 70 (TX3 5).1 (TX3 5).2.1 (TX3 5).2.2.1 ∈ tk_G := (tk_mem 70 (by decide +kernel) rfl)
theorem wm_X3_31 : Cond.methodLink RX3 31 yX3_readToken ∈ tk_G := (tk_mem 299 (by decide +kernel) rfl)
theorem wm_X3_95 : Cond.methodLinkNest RX3 95 yX6_isWithin "TwoKerbs" ∈ lw_tbl := List.mem_of_getElem? (i := 322) (by decide +kernel)
theorem wf_X3_81 : Cond.fieldLink RX3 81 (TX5 3).1 (TX5 3).2.1 (TX5 3).2.2.1 ∈ tk_G := (tk_mem 109 (by decide +kernel) rfl)
theorem wm_X3_66 : Cond.methodLink RX3 66 yX3_readNumber ∈ tk_G := (tk_mem 318 (by decide +kernel) rfl)
theorem wf_X3_84 : Cond.fieldLink RX3 84 (TX5 7).1 (TX5 7).2.1 (TX5 7).2.2.1 ∈ tk_G := (tk_mem 121 (by decide +kernel) rfl)
theorem wf_X3_88 : Cond.fieldLink RX3 88 (TX5 8).1 (TX5 8).2.1 (TX5 8).2.2.1 ∈ tk_G := (tk_mem 125 (by decide +kernel) rfl)
theorem wm_X5_50 : Cond.methodLink RX5 50 yX5_hasRoomForKerb ∈ tk_G := (tk_mem 340 (by decide +kernel) rfl)
theorem wf_X5_9 : Cond.fieldLink RX5 9 (TX5 5).1 (TX5 5).2.1 (TX5 5).2.2.1 ∈ tk_G := (tk_mem 114 (by decide +kernel) rfl)
theorem wf_X5_18 : Cond.fieldLink RX5 18 (TX5 7).1 (TX5 7).2.1 (TX5 7).2.2.1 ∈ tk_G := (tk_mem 118 (by decide +kernel) rfl)
theorem wf_X5_21 : Cond.fieldLink RX5 21 (TX5 8).1 (TX5 8).2.1 (TX5 8).2.2.1 ∈ tk_G := (tk_mem 122 (by decide +kernel) rfl)
theorem wm_X3_77 : Cond.methodLink RX3 77 yX5_addKerb ∈ tk_G := (tk_mem 336 (by decide +kernel) rfl)
theorem wm_X3_73 : Cond.methodLink RX3 73 yX5_setLevel ∈ tk_G := (tk_mem 323 (by decide +kernel) rfl)
theorem wf_X3_24 : Cond.fieldLink RX3 24 (TX3 6).1 (TX3 6).2.1 (TX3 6).2.2.1 ∈ tk_G := (tk_mem 71 (by decide +kernel) rfl)
theorem wf_X5_38 : Cond.fieldLink RX5 38 (TX5 4).1 (TX5 4).2.1 (TX5 4).2.2.1 ∈ tk_G := (tk_mem 112 (by decide +kernel) rfl)
theorem wm_X5_54 : Cond.methodLink RX5 54 yX5_hasRoomForThing ∈ tk_G := (tk_mem 357 (by decide +kernel) rfl)
theorem wf_X5_24 : Cond.fieldLink RX5 24 (TX5 9).1 (TX5 9).2.1 (TX5 9).2.2.1 ∈ tk_G := (tk_mem 126 (by decide +kernel) rfl)
theorem wm_X3_91 : Cond.methodLink RX3 91 yX5_addThing ∈ tk_G := (tk_mem 353 (by decide +kernel) rfl)
theorem wm_X3_44 : Cond.methodLink RX3 44 yX3_readLevel ∈ tk_G := (tk_mem 314 (by decide +kernel) rfl)
theorem wm_X3_47 : Cond.methodLink RX3 47 yX3_readItemEnd ∈ tk_G := (tk_mem 324 (by decide +kernel) rfl)
theorem wm_X3_51 : Cond.methodLink RX3 51 yX5_hasRoomForKerb ∈ tk_G := (tk_mem 328 (by decide +kernel) rfl)
theorem wm_X3_54 : Cond.methodLink RX3 54 yX3_readKerb ∈ tk_G := (tk_mem 332 (by decide +kernel) rfl)
theorem wm_X3_57 : Cond.methodLink RX3 57 yX3_readDrain ∈ tk_G := (tk_mem 341 (by decide +kernel) rfl)
theorem wm_X3_60 : Cond.methodLink RX3 60 yX5_hasRoomForThing ∈ tk_G := (tk_mem 345 (by decide +kernel) rfl)
theorem wm_X3_63 : Cond.methodLink RX3 63 yX3_readThing ∈ tk_G := (tk_mem 349 (by decide +kernel) rfl)
theorem wm_X5_30 : Cond.methodLink RX5 30 yX5_setLevel ∈ tk_G := (tk_mem 98 (by decide +kernel) rfl)
theorem wm_X3_19 : Cond.methodLink RX3 19 yX5_reset ∈ tk_G := (tk_mem 298 (by decide +kernel) rfl)
theorem wm_X3_37 : Cond.methodLink RX3 37 yX3_readItem ∈ tk_G := (tk_mem 310 (by decide +kernel) rfl)
theorem wm_X5_3 : Cond.methodLink RX5 3 objectInit ∈ tk_G := (tk_mem 93 (by decide +kernel) rfl)
theorem wm_X5_27 : Cond.methodLink RX5 27 yX5_reset ∈ tk_G := (tk_mem 94 (by decide +kernel) rfl)
theorem wm_X5_65 : Cond.methodLink RX5 65 yX5_isFlooded ∈ tk_G := (tk_mem 422 (by decide +kernel) rfl)
theorem wm_X6_1 : Cond.methodLink RX6 1 objectInit ∈ tk_G := (tk_mem 55 (by decide +kernel) rfl)
theorem wk_X6_7 : Cond.classLink RX6 7 RX3 ∈ tk_G := (tk_mem 58 (by decide +kernel) rfl)
theorem wi_X3 : Cond.instantiable RX3 7 ∈ tk_G := (tk_mem 59 (by decide +kernel) rfl)
theorem wn_X3 : Cond.initialized RX3 ∈ tk_G := (tk_mem 41 (by decide +kernel) rfl)
theorem wm_X6_9 : Cond.methodLinkNest RX6 9 yX3_init "TwoKerbs" ∈ lw_tbl := List.mem_of_getElem? (i := 60) (by decide +kernel)
theorem wf_X6_10 : Cond.fieldLink RX6 10 (TX6 0).1 (TX6 0).2.1 (TX6 0).2.2.1 ∈ tk_G := (tk_mem 234 (by decide +kernel) rfl)
theorem wk_X6_16 : Cond.classLink RX6 16 RX5 ∈ tk_G := (tk_mem 88 (by decide +kernel) rfl)
theorem wi_X5 : Cond.instantiable RX5 10 ∈ tk_G := (tk_mem 89 (by decide +kernel) rfl)
theorem wn_X5 : Cond.initialized RX5 ∈ tk_G := (tk_mem 42 (by decide +kernel) rfl)
theorem wm_X6_18 : Cond.methodLink RX6 18 yX5_init ∈ tk_G := (tk_mem 90 (by decide +kernel) rfl)
theorem wf_X6_19 : Cond.fieldLink RX6 19 (TX6 1).1 (TX6 1).2.1 (TX6 1).2.2.1 ∈ tk_G := (tk_mem 235 (by decide +kernel) rfl)
theorem wf_X6_23 : Cond.fieldLink RX6 23 (TX6 2).1 (TX6 2).2.1 (TX6 2).2.2.1 ∈ tk_G := (tk_mem 236 (by decide +kernel) rfl)
theorem wk_X6_26 : Cond.classLink RX6 26 RX1 ∈ tk_G := (tk_mem 150 (by decide +kernel) rfl)
theorem wi_X1 : Cond.instantiable RX1 3 ∈ tk_G := (tk_mem 151 (by decide +kernel) rfl)
theorem wn_X1 : Cond.initialized RX1 ∈ tk_G := (tk_mem 43 (by decide +kernel) rfl)
theorem wm_X6_28 : Cond.methodLink RX6 28 yX1_init ∈ tk_G := (tk_mem 152 (by decide +kernel) rfl)
theorem wf_X6_29 : Cond.fieldLink RX6 29 (TX6 3).1 (TX6 3).2.1 (TX6 3).2.2.1 ∈ tk_G := (tk_mem 237 (by decide +kernel) rfl)
theorem wk_X6_33 : Cond.classLink RX6 33 RX2 ∈ tk_G := (tk_mem 192 (by decide +kernel) rfl)
theorem wi_X2 : Cond.instantiable RX2 3 ∈ tk_G := (tk_mem 193 (by decide +kernel) rfl)
theorem wn_X2 : Cond.initialized RX2 ∈ tk_G := (tk_mem 45 (by decide +kernel) rfl)
theorem wm_X6_35 : Cond.methodLinkNest RX6 35 yX2_init "TwoKerbs" ∈ lw_tbl := List.mem_of_getElem? (i := 194) (by decide +kernel)
theorem wf_X6_36 : Cond.fieldLink RX6 36 (TX6 4).1 (TX6 4).2.1 (TX6 4).2.2.1 ∈ tk_G := (tk_mem 238 (by decide +kernel) rfl)
theorem wk_X6_40 : Cond.classLink RX6 40 "[[I" ∈ tk_G := (tk_mem 211 (by decide +kernel) rfl)
theorem wf_X6_42 : Cond.fieldLink RX6 42 (TX6 5).1 (TX6 5).2.1 (TX6 5).2.2.1 ∈ tk_G := (tk_mem 239 (by decide +kernel) rfl)
theorem wa_boolean : Cond.arrayClass .boolean ∈ tk_G := (tk_mem 231 (by decide +kernel) rfl)
theorem wf_X6_45 : Cond.fieldLink RX6 45 (TX6 6).1 (TX6 6).2.1 (TX6 6).2.2.1 ∈ tk_G := (tk_mem 240 (by decide +kernel) rfl)
theorem wk_X6_49 : Cond.classLink RX6 49 RX0 ∈ tk_G := (tk_mem 212 (by decide +kernel) rfl)
theorem wi_X0 : Cond.instantiable RX0 3 ∈ tk_G := (tk_mem 213 (by decide +kernel) rfl)
theorem wn_X0 : Cond.initialized RX0 ∈ tk_G := (tk_mem 46 (by decide +kernel) rfl)
theorem wm_X6_51 : Cond.methodLinkNest RX6 51 yX0_init "TwoKerbs" ∈ lw_tbl := List.mem_of_getElem? (i := 214) (by decide +kernel)
theorem wf_X6_52 : Cond.fieldLink RX6 52 (TX6 7).1 (TX6 7).2.1 (TX6 7).2.2.1 ∈ tk_G := (tk_mem 241 (by decide +kernel) rfl)
theorem wf_X6_56 : Cond.fieldLink RX6 56 (TX6 8).1 (TX6 8).2.1 (TX6 8).2.2.1 ∈ tk_G := (tk_mem 242 (by decide +kernel) rfl)
theorem wk_X6_59 : Cond.classLink RX6 59 RX4 ∈ tk_G := (tk_mem 232 (by decide +kernel) rfl)
theorem wm_X6_61 : Cond.methodLinkNest RX6 61 yX4_init "TwoKerbs" ∈ lw_tbl := List.mem_of_getElem? (i := 233) (by decide +kernel)
theorem wf_X6_62 : Cond.fieldLink RX6 62 (TX6 9).1 (TX6 9).2.1 (TX6 9).2.2.1 ∈ tk_G := (tk_mem 243 (by decide +kernel) rfl)
theorem wf_X6_66 : Cond.fieldLink RX6 66 (TX6 10).1 (TX6 10).2.1 (TX6 10).2.2.1 ∈ tk_G := (tk_mem 244 (by decide +kernel) rfl)
theorem wm_X6_69 : Cond.methodLink RX6 69 yX6_isWithin ∈ tk_G := (tk_mem 275 (by decide +kernel) rfl)
theorem wm_X6_73 : Cond.methodLink RX6 73 yX3_add ∈ tk_G := (tk_mem 278 (by decide +kernel) rfl)
theorem wm_X6_77 : Cond.methodLink RX6 77 yX3_empty ∈ tk_G := (tk_mem 286 (by decide +kernel) rfl)
theorem wm_X6_81 : Cond.methodLink RX6 81 yX3_readInto ∈ tk_G := (tk_mem 294 (by decide +kernel) rfl)
theorem wm_X6_85 : Cond.methodLink RX6 85 yX1_begin ∈ tk_G := (tk_mem 358 (by decide +kernel) rfl)
theorem wm_X6_89 : Cond.methodLink RX6 89 yX2_lose ∈ tk_G := (tk_mem 366 (by decide +kernel) rfl)
theorem wm_X6_92 : Cond.methodLink RX6 92 yX0_lose ∈ tk_G := (tk_mem 370 (by decide +kernel) rfl)
theorem wm_X6_94 : Cond.methodLink RX6 94 yX5_isKerb ∈ tk_G := (tk_mem 378 (by decide +kernel) rfl)
theorem wf_X6_98 : Cond.fieldLink RX6 98 (TX5 5).1 (TX5 5).2.1 (TX5 5).2.2.1 ∈ tk_G := (tk_mem 115 (by decide +kernel) rfl)
theorem wf_X6_102 : Cond.fieldLink RX6 102 (TX5 6).1 (TX5 6).2.1 (TX5 6).2.2.1 ∈ tk_G := (tk_mem 117 (by decide +kernel) rfl)
theorem wf_X6_105 : Cond.fieldLink RX6 105 (TX5 7).1 (TX5 7).2.1 (TX5 7).2.2.1 ∈ tk_G := (tk_mem 119 (by decide +kernel) rfl)
theorem wf_X6_108 : Cond.fieldLink RX6 108 (TX5 8).1 (TX5 8).2.1 (TX5 8).2.2.1 ∈ tk_G := (tk_mem 123 (by decide +kernel) rfl)
theorem wf_X6_111 : Cond.fieldLink RX6 111 (TX5 4).1 (TX5 4).2.1 (TX5 4).2.2.1 ∈ tk_G := (tk_mem 113 (by decide +kernel) rfl)
theorem wm_X6_115 : Cond.methodLink RX6 115 yX1_lyingOn ∈ tk_G := (tk_mem 382 (by decide +kernel) rfl)
theorem wm_X6_119 : Cond.methodLink RX6 119 yX5_isThing ∈ tk_G := (tk_mem 398 (by decide +kernel) rfl)
theorem wf_X6_122 : Cond.fieldLink RX6 122 (TX1 2).1 (TX1 2).2.1 (TX1 2).2.2.1 ∈ tk_G := (tk_mem 184 (by decide +kernel) rfl)
theorem wm_X6_125 : Cond.methodLink RX6 125 yX4_place ∈ tk_G := (tk_mem 402 (by decide +kernel) rfl)
theorem wf_X6_128 : Cond.fieldLink RX6 128 (TX4 0).1 (TX4 0).2.1 (TX4 0).2.2.1 ∈ tk_G := (tk_mem 165 (by decide +kernel) rfl)
theorem wf_X6_131 : Cond.fieldLink RX6 131 (TX4 1).1 (TX4 1).2.1 (TX4 1).2.2.1 ∈ tk_G := (tk_mem 168 (by decide +kernel) rfl)
theorem wf_X6_134 : Cond.fieldLink RX6 134 (TX4 2).1 (TX4 2).2.1 (TX4 2).2.2.1 ∈ tk_G := (tk_mem 171 (by decide +kernel) rfl)
theorem wf_X6_138 : Cond.fieldLink RX6 138 (TX1 0).1 (TX1 0).2.1 (TX1 0).2.2.1 ∈ tk_G := (tk_mem 180 (by decide +kernel) rfl)
theorem wm_X6_141 : Cond.methodLink RX6 141 yX5_levelOf ∈ tk_G := (tk_mem 410 (by decide +kernel) rfl)
theorem wf_X6_144 : Cond.fieldLink RX6 144 (TX1 1).1 (TX1 1).2.1 (TX1 1).2.2.1 ∈ tk_G := (tk_mem 182 (by decide +kernel) rfl)
theorem wm_X6_147 : Cond.methodLink RX6 147 yX5_floodedBy ∈ tk_G := (tk_mem 418 (by decide +kernel) rfl)
theorem wf_X6_150 : Cond.fieldLink RX6 150 (TX2 1).1 (TX2 1).2.1 (TX2 1).2.2.1 ∈ tk_G := (tk_mem 202 (by decide +kernel) rfl)
theorem wm_X6_153 : Cond.methodLink RX6 153 yX2_nextRow ∈ tk_G := (tk_mem 431 (by decide +kernel) rfl)
theorem wm_X6_157 : Cond.methodLink RX6 157 yX1_saveTo ∈ tk_G := (tk_mem 438 (by decide +kernel) rfl)
theorem wm_X6_161 : Cond.methodLink RX6 161 yX1_pass ∈ tk_G := (tk_mem 442 (by decide +kernel) rfl)
theorem wm_X6_164 : Cond.methodLink RX6 164 yX4_lies ∈ tk_G := (tk_mem 458 (by decide +kernel) rfl)
theorem wm_X6_168 : Cond.methodLink RX6 168 yX1_tiedOf ∈ tk_G := (tk_mem 459 (by decide +kernel) rfl)
theorem wm_X6_171 : Cond.methodLink RX6 171 yX5_areOfOneTown ∈ tk_G := (tk_mem 467 (by decide +kernel) rfl)
theorem wm_X6_175 : Cond.methodLink RX6 175 yX2_latestRow ∈ tk_G := (tk_mem 475 (by decide +kernel) rfl)
theorem wm_X6_178 : Cond.methodLink RX6 178 yX1_loadFrom ∈ tk_G := (tk_mem 482 (by decide +kernel) rfl)
theorem wf_X6_181 : Cond.fieldLink RX6 181 (TX5 0).1 (TX5 0).2.1 (TX5 0).2.2.1 ∈ tk_G := (tk_mem 103 (by decide +kernel) rfl)
theorem wm_X6_184 : Cond.methodLink RX6 184 yX4_becomes ∈ tk_G := (tk_mem 502 (by decide +kernel) rfl)
theorem wm_X6_188 : Cond.methodLink RX6 188 yX4_pass ∈ tk_G := (tk_mem 506 (by decide +kernel) rfl)
theorem wm_X6_202 : Cond.methodLink RX6 202 yX4_liesOn ∈ tk_G := (tk_mem 515 (by decide +kernel) rfl)
theorem wm_X6_191 : Cond.methodLink RX6 191 yX6_firstTideOn ∈ tk_G := (tk_mem 511 (by decide +kernel) rfl)
theorem wf_X6_195 : Cond.fieldLink RX6 195 (TX5 3).1 (TX5 3).2.1 (TX5 3).2.2.1 ∈ tk_G := (tk_mem 110 (by decide +kernel) rfl)
theorem wm_X6_198 : Cond.methodLink RX6 198 yX4_lieOn ∈ tk_G := (tk_mem 520 (by decide +kernel) rfl)
theorem wm_X6_205 : Cond.methodLink RX6 205 yX4_isAs ∈ tk_G := (tk_mem 529 (by decide +kernel) rfl)
theorem wm_X6_209 : Cond.methodLink RX6 209 yX5_leftOver ∈ tk_G := (tk_mem 533 (by decide +kernel) rfl)
theorem wm_X6_270 : Cond.methodLink RX6 270 yJ9_max_7cf53 ∈ tk_G := (tk_mem 554 (by decide +kernel) rfl)
theorem wc_J6_265 : Cond.constant RJ6 265 (1431655765) ∈ tk_G := (tk_mem 545 (by decide +kernel) rfl)
theorem wc_J6_266 : Cond.constant RJ6 266 (858993459) ∈ tk_G := (tk_mem 546 (by decide +kernel) rfl)
theorem wc_J6_267 : Cond.constant RJ6 267 (252645135) ∈ tk_G := (tk_mem 547 (by decide +kernel) rfl)
theorem wm_X6_212 : Cond.methodLink RX6 212 yX6_passSomeWeak ∈ tk_G := (tk_mem 538 (by decide +kernel) rfl)
theorem wm_X6_216 : Cond.methodLink RX6 216 yJ6_bitCount_0f7a4 ∈ tk_G := (tk_mem 542 (by decide +kernel) rfl)
theorem wm_X6_221 : Cond.methodLink RX6 221 yX6_power ∈ tk_G := (tk_mem 548 (by decide +kernel) rfl)
theorem wm_X6_224 : Cond.methodLink RX6 224 yX6_commonDivisor ∈ tk_G := (tk_mem 551 (by decide +kernel) rfl)
theorem wm_X6_227 : Cond.methodLink RX6 227 yX0_add ∈ tk_G := (tk_mem 559 (by decide +kernel) rfl)
theorem wf_X6_260 : Cond.fieldLink RX6 260 (TX0 2).1 (TX0 2).2.1 (TX0 2).2.2.1 ∈ tk_G := (tk_mem 223 (by decide +kernel) rfl)
theorem wf_X6_275 : Cond.fieldLink RX6 275 (TX0 1).1 (TX0 1).2.1 (TX0 1).2.2.1 ∈ tk_G := (tk_mem 221 (by decide +kernel) rfl)
theorem wf_X6_278 : Cond.fieldLink RX6 278 (TX0 0).1 (TX0 0).2.1 (TX0 0).2.2.1 ∈ tk_G := (tk_mem 219 (by decide +kernel) rfl)
theorem wm_X6_229 : Cond.methodLink RX6 229 yX6_canHaveBegunOn ∈ tk_G := (tk_mem 567 (by decide +kernel) rfl)
theorem wm_X6_232 : Cond.methodLink RX6 232 yX6_isLaw ∈ tk_G := (tk_mem 579 (by decide +kernel) rfl)
theorem wf_X6_266 : Cond.fieldLink RX6 266 (TX6 11).1 (TX6 11).2.1 (TX6 11).2.2.1 ∈ tk_G := (tk_mem 245 (by decide +kernel) rfl)
theorem wc_X6_281 : Cond.constantLong RX6 281 (10) ∈ tk_G := (tk_mem 600 (by decide +kernel) rfl)
theorem wm_X6_236 : Cond.methodLink RX6 236 yX6_rateAsKerb ∈ tk_G := (tk_mem 592 (by decide +kernel) rfl)
theorem wc_X6_283 : Cond.constantLong RX6 283 (100) ∈ tk_G := (tk_mem 605 (by decide +kernel) rfl)
theorem wc_X6_287 : Cond.constantLong RX6 287 (10000) ∈ tk_G := (tk_mem 615 (by decide +kernel) rfl)
theorem wm_X6_242 : Cond.methodLink RX6 242 yX6_rateAsSteps ∈ tk_G := (tk_mem 601 (by decide +kernel) rfl)
theorem wc_X6_285 : Cond.constantLong RX6 285 (1000) ∈ tk_G := (tk_mem 610 (by decide +kernel) rfl)
theorem wm_X6_239 : Cond.methodLink RX6 239 yX6_rateAsBank ∈ tk_G := (tk_mem 596 (by decide +kernel) rfl)
theorem wc_X6_289 : Cond.constantLong RX6 289 (100000) ∈ tk_G := (tk_mem 620 (by decide +kernel) rfl)
theorem wc_X6_235 : Cond.constant RX6 235 (-1000000) ∈ tk_G := (tk_mem 591 (by decide +kernel) rfl)
theorem wm_X6_245 : Cond.methodLink RX6 245 yX6_rateAsChurch ∈ tk_G := (tk_mem 606 (by decide +kernel) rfl)
theorem wm_X6_248 : Cond.methodLink RX6 248 yX6_rateAsButcher ∈ tk_G := (tk_mem 611 (by decide +kernel) rfl)
theorem wm_X6_251 : Cond.methodLink RX6 251 yX6_rateAsRing ∈ tk_G := (tk_mem 616 (by decide +kernel) rfl)
theorem wf_X6_254 : Cond.fieldLink RX6 254 (TX5 1).1 (TX5 1).2.1 (TX5 1).2.2.1 ∈ tk_G := (tk_mem 105 (by decide +kernel) rfl)
theorem wf_X6_257 : Cond.fieldLink RX6 257 (TX5 2).1 (TX5 2).2.1 (TX5 2).2.2.1 ∈ tk_G := (tk_mem 107 (by decide +kernel) rfl)
theorem wf_X6_263 : Cond.fieldLink RX6 263 (TX3 1).1 (TX3 1).2.1 (TX3 1).2.2.1 ∈ tk_G := (tk_mem 66 (by decide +kernel) rfl)
theorem wf_X7_103 : Cond.fieldLink RX7 103 (TX7 10).1 (TX7 10).2.1 (TX7 10).2.2.1 ∈ tk_G := (tk_mem 661 (by decide +kernel) rfl)
theorem wf_X7_13 : Cond.fieldLink RX7 13 (TX7 9).1 (TX7 9).2.1 (TX7 9).2.2.1 ∈ tk_G := (tk_mem 660 (by decide +kernel) rfl)
theorem wf_X7_31 : Cond.fieldLink RX7 31 (TX7 16).1 (TX7 16).2.1 (TX7 16).2.2.1 ∈ tk_G := (tk_mem 667 (by decide +kernel) rfl)
theorem wf_X7_16 : Cond.fieldLink RX7 16 (TX7 11).1 (TX7 11).2.1 (TX7 11).2.2.1 ∈ tk_G := (tk_mem 662 (by decide +kernel) rfl)
theorem wf_X7_19 : Cond.fieldLink RX7 19 (TX7 12).1 (TX7 12).2.1 (TX7 12).2.2.1 ∈ tk_G := (tk_mem 663 (by decide +kernel) rfl)
theorem wf_X7_22 : Cond.fieldLink RX7 22 (TX7 13).1 (TX7 13).2.1 (TX7 13).2.2.1 ∈ tk_G := (tk_mem 664 (by decide +kernel) rfl)
theorem wf_X7_25 : Cond.fieldLink RX7 25 (TX7 14).1 (TX7 14).2.1 (TX7 14).2.2.1 ∈ tk_G := (tk_mem 665 (by decide +kernel) rfl)
theorem wf_X7_28 : Cond.fieldLink RX7 28 (TX7 15).1 (TX7 15).2.1 (TX7 15).2.2.1 ∈ tk_G := (tk_mem 666 (by decide +kernel) rfl)
theorem wf_X7_70 : Cond.fieldLink RX7 70 (TX7 3).1 (TX7 3).2.1 (TX7 3).2.2.1 ∈ tk_G := (tk_mem 654 (by decide +kernel) rfl)
theorem wf_X7_118 : Cond.fieldLink RX7 118 (TX7 23).1 (TX7 23).2.1 (TX7 23).2.2.1 ∈ tk_G := (tk_mem 674 (by decide +kernel) rfl)
theorem wf_X7_121 : Cond.fieldLink RX7 121 (TX7 26).1 (TX7 26).2.1 (TX7 26).2.2.1 ∈ tk_G := (tk_mem 677 (by decide +kernel) rfl)
theorem wf_X7_124 : Cond.fieldLink RX7 124 (TX7 20).1 (TX7 20).2.1 (TX7 20).2.2.1 ∈ tk_G := (tk_mem 671 (by decide +kernel) rfl)
theorem wf_X7_37 : Cond.fieldLink RX7 37 (TX7 18).1 (TX7 18).2.1 (TX7 18).2.2.1 ∈ tk_G := (tk_mem 669 (by decide +kernel) rfl)
theorem wm_X7_1 : Cond.methodLink RX7 1 objectInit ∈ tk_G := (tk_mem 642 (by decide +kernel) rfl)
theorem wf_X7_7 : Cond.fieldLink RX7 7 (TX7 2).1 (TX7 2).2.1 (TX7 2).2.2.1 ∈ tk_G := (tk_mem 653 (by decide +kernel) rfl)
theorem wf_X7_34 : Cond.fieldLink RX7 34 (TX7 17).1 (TX7 17).2.1 (TX7 17).2.2.1 ∈ tk_G := (tk_mem 668 (by decide +kernel) rfl)
theorem wf_X7_41 : Cond.fieldLink RX7 41 (TX7 19).1 (TX7 19).2.1 (TX7 19).2.2.1 ∈ tk_G := (tk_mem 670 (by decide +kernel) rfl)
theorem wf_X7_44 : Cond.fieldLink RX7 44 (TX7 21).1 (TX7 21).2.1 (TX7 21).2.2.1 ∈ tk_G := (tk_mem 672 (by decide +kernel) rfl)
theorem wf_X7_47 : Cond.fieldLink RX7 47 (TX7 22).1 (TX7 22).2.1 (TX7 22).2.2.1 ∈ tk_G := (tk_mem 673 (by decide +kernel) rfl)
theorem wf_X7_50 : Cond.fieldLink RX7 50 (TX7 24).1 (TX7 24).2.1 (TX7 24).2.2.1 ∈ tk_G := (tk_mem 675 (by decide +kernel) rfl)
theorem wf_X7_53 : Cond.fieldLink RX7 53 (TX7 25).1 (TX7 25).2.1 (TX7 25).2.2.1 ∈ tk_G := (tk_mem 676 (by decide +kernel) rfl)
theorem wm_X7_56 : Cond.methodLink RX7 56 yX7_begins ∈ tk_G := (tk_mem 643 (by decide +kernel) rfl)
theorem wm_X7_59 : Cond.methodLink RX7 59 yX7_settles ∈ tk_G := (tk_mem 647 (by decide +kernel) rfl)
theorem wf_X7_62 : Cond.fieldLink RX7 62 (TX7 0).1 (TX7 0).2.1 (TX7 0).2.2.1 ∈ tk_G := (tk_mem 651 (by decide +kernel) rfl)
theorem wm_X7_66 : Cond.methodLink RX7 66 yX7_in ∈ tk_G := (tk_mem 743 (by decide +kernel) rfl)
theorem wf_X7_73 : Cond.fieldLink RX7 73 (TX7 4).1 (TX7 4).2.1 (TX7 4).2.2.1 ∈ tk_G := (tk_mem 655 (by decide +kernel) rfl)
theorem wm_X7_76 : Cond.methodLink RX7 76 yX7_letterAt ∈ tk_G := (tk_mem 758 (by decide +kernel) rfl)
theorem wf_X7_80 : Cond.fieldLink RX7 80 (TX7 6).1 (TX7 6).2.1 (TX7 6).2.2.1 ∈ tk_G := (tk_mem 657 (by decide +kernel) rfl)
theorem wf_X7_83 : Cond.fieldLink RX7 83 (TX7 5).1 (TX7 5).2.1 (TX7 5).2.2.1 ∈ tk_G := (tk_mem 656 (by decide +kernel) rfl)
theorem wf_X7_86 : Cond.fieldLink RX7 86 (TX7 7).1 (TX7 7).2.1 (TX7 7).2.2.1 ∈ tk_G := (tk_mem 658 (by decide +kernel) rfl)
theorem wf_X7_89 : Cond.fieldLink RX7 89 (TX7 8).1 (TX7 8).2.1 (TX7 8).2.2.1 ∈ tk_G := (tk_mem 659 (by decide +kernel) rfl)
theorem wm_X7_92 : Cond.methodLink RX7 92 yX7_isWell ∈ tk_G := (tk_mem 762 (by decide +kernel) rfl)
theorem wm_X7_96 : Cond.methodLink RX7 96 yX7_advances ∈ tk_G := (tk_mem 754 (by decide +kernel) rfl)
theorem wm_X7_99 : Cond.methodLink RX7 99 yX7_takes ∈ tk_G := (tk_mem 770 (by decide +kernel) rfl)
theorem wm_X7_107 : Cond.methodLink RX7 107 yX7_number ∈ tk_G := (tk_mem 778 (by decide +kernel) rfl)
theorem wm_X7_111 : Cond.methodLink RX7 111 yX7_mayBegin ∈ tk_G := (tk_mem 766 (by decide +kernel) rfl)
theorem wm_X7_114 : Cond.methodLink RX7 114 yX7_readsItem ∈ tk_G := (tk_mem 774 (by decide +kernel) rfl)
theorem wm_X7_127 : Cond.methodLink RX7 127 yX7_levelOf ∈ tk_G := (tk_mem 806 (by decide +kernel) rfl)
theorem wm_X7_130 : Cond.methodLink RX7 130 yX7_isKerb ∈ tk_G := (tk_mem 786 (by decide +kernel) rfl)
theorem wm_X7_134 : Cond.methodLink RX7 134 yX7_thingsOn ∈ tk_G := (tk_mem 790 (by decide +kernel) rfl)
theorem wm_X7_137 : Cond.methodLink RX7 137 yX7_isThing ∈ tk_G := (tk_mem 798 (by decide +kernel) rfl)
theorem wm_X7_140 : Cond.methodLink RX7 140 yX7_floodIn ∈ tk_G := (tk_mem 810 (by decide +kernel) rfl)
theorem wf_X7_143 : Cond.fieldLink RX7 143 (TX7 28).1 (TX7 28).2.1 (TX7 28).2.2.1 ∈ tk_G := (tk_mem 679 (by decide +kernel) rfl)
theorem wf_X7_146 : Cond.fieldLink RX7 146 (TX7 27).1 (TX7 27).2.1 (TX7 27).2.2.1 ∈ tk_G := (tk_mem 678 (by decide +kernel) rfl)
theorem wm_X7_149 : Cond.methodLink RX7 149 yX7_notes ∈ tk_G := (tk_mem 818 (by decide +kernel) rfl)
theorem wm_X7_152 : Cond.methodLink RX7 152 yX7_takesUp ∈ tk_G := (tk_mem 822 (by decide +kernel) rfl)
theorem wm_X7_155 : Cond.methodLink RX7 155 yX7_isTied ∈ tk_G := (tk_mem 826 (by decide +kernel) rfl)
theorem wm_X7_158 : Cond.methodLink RX7 158 yX7_goes ∈ tk_G := (tk_mem 830 (by decide +kernel) rfl)
theorem wc_X7_161 : Cond.constant RX7 161 (99999) ∈ tk_G := (tk_mem 834 (by decide +kernel) rfl)
theorem wm_X7_162 : Cond.methodLink RX7 162 yX7_ones ∈ tk_G := (tk_mem 839 (by decide +kernel) rfl)
theorem wm_X7_165 : Cond.methodLink RX7 165 yX7_soon ∈ tk_G := (tk_mem 870 (by decide +kernel) rfl)
theorem wm_X7_169 : Cond.methodLink RX7 169 yX7_gcd ∈ tk_G := (tk_mem 890 (by decide +kernel) rfl)
theorem wm_X7_172 : Cond.methodLink RX7 172 yX7_canBegin ∈ tk_G := (tk_mem 901 (by decide +kernel) rfl)
theorem wc_X7_175 : Cond.constant RX7 175 (-1000000) ∈ tk_G := (tk_mem 921 (by decide +kernel) rfl)
theorem wf_X7_176 : Cond.fieldLink RX7 176 (TX7 1).1 (TX7 1).2.1 (TX7 1).2.2.1 ∈ tk_G := (tk_mem 652 (by decide +kernel) rfl)
theorem wc_X7_180 : Cond.constantLong RX7 180 (11) ∈ tk_G := (tk_mem 922 (by decide +kernel) rfl)
theorem wc_X7_182 : Cond.constantLong RX7 182 (101) ∈ tk_G := (tk_mem 923 (by decide +kernel) rfl)
theorem wc_X7_184 : Cond.constantLong RX7 184 (1011) ∈ tk_G := (tk_mem 924 (by decide +kernel) rfl)
theorem wc_X7_186 : Cond.constantLong RX7 186 (10101) ∈ tk_G := (tk_mem 925 (by decide +kernel) rfl)
theorem wc_X7_188 : Cond.constantLong RX7 188 (100001) ∈ tk_G := (tk_mem 926 (by decide +kernel) rfl)
theorem wk_L_7 : Cond.classLink RL 7 RX6 ∈ tk_G := (tk_mem 50 (by decide +kernel) rfl)
theorem wi_X6 : Cond.instantiable RX6 12 ∈ tk_G := (tk_mem 51 (by decide +kernel) rfl)
theorem wn_X6 : Cond.initialized RX6 ∈ tk_G := (tk_mem 40 (by decide +kernel) rfl)
theorem wm_L_9 : Cond.methodLink RL 9 yX6_init ∈ tk_G := (tk_mem 52 (by decide +kernel) rfl)
theorem wk_L_10 : Cond.classLink RL 10 RX7 ∈ tk_G := (tk_mem 637 (by decide +kernel) rfl)
theorem wi_X7 : Cond.instantiable RX7 29 ∈ tk_G := (tk_mem 638 (by decide +kernel) rfl)
theorem wn_X7 : Cond.initialized RX7 ∈ tk_G := (tk_mem 47 (by decide +kernel) rfl)
theorem wm_L_12 : Cond.methodLink RL 12 yX7_init ∈ tk_G := (tk_mem 639 (by decide +kernel) rfl)
theorem wm_L_13 : Cond.methodLink RL 13 yX6_type ∈ tk_G := (tk_mem 271 (by decide +kernel) rfl)
theorem wm_L_17 : Cond.methodLink RL 17 yX7_type ∈ tk_G := (tk_mem 739 (by decide +kernel) rfl)
theorem wm_L_18 : Cond.methodLink RL 18 yX6_clear ∈ tk_G := (tk_mem 282 (by decide +kernel) rfl)
theorem wm_L_22 : Cond.methodLink RL 22 yX7_clear ∈ tk_G := (tk_mem 746 (by decide +kernel) rfl)
theorem wm_L_23 : Cond.methodLink RL 23 yX6_towns ∈ tk_G := (tk_mem 290 (by decide +kernel) rfl)
theorem wm_L_26 : Cond.methodLink RL 26 yX7_towns ∈ tk_G := (tk_mem 750 (by decide +kernel) rfl)
theorem wm_L_27 : Cond.methodLink RL 27 yX6_kerb ∈ tk_G := (tk_mem 374 (by decide +kernel) rfl)
theorem wm_L_31 : Cond.methodLink RL 31 yX7_kerb ∈ tk_G := (tk_mem 782 (by decide +kernel) rfl)
theorem wm_L_32 : Cond.methodLink RL 32 yX6_thing ∈ tk_G := (tk_mem 394 (by decide +kernel) rfl)
theorem wm_L_35 : Cond.methodLink RL 35 yX7_thing ∈ tk_G := (tk_mem 794 (by decide +kernel) rfl)
theorem wm_L_36 : Cond.methodLink RL 36 yX6_now ∈ tk_G := (tk_mem 406 (by decide +kernel) rfl)
theorem wm_L_39 : Cond.methodLink RL 39 yX7_now ∈ tk_G := (tk_mem 802 (by decide +kernel) rfl)
theorem wm_L_40 : Cond.methodLink RL 40 yX6_tides ∈ tk_G := (tk_mem 427 (by decide +kernel) rfl)
theorem wm_L_43 : Cond.methodLink RL 43 yX7_tides ∈ tk_G := (tk_mem 814 (by decide +kernel) rfl)
theorem wm_L_44 : Cond.methodLink RL 44 yX6_ties ∈ tk_G := (tk_mem 454 (by decide +kernel) rfl)
theorem wm_L_47 : Cond.methodLink RL 47 yX7_ties ∈ tk_G := (tk_mem 835 (by decide +kernel) rfl)
theorem wm_L_48 : Cond.methodLink RL 48 yX6_carries ∈ tk_G := (tk_mem 463 (by decide +kernel) rfl)
theorem wm_L_51 : Cond.methodLink RL 51 yX7_carries ∈ tk_G := (tk_mem 842 (by decide +kernel) rfl)
theorem wm_L_52 : Cond.methodLink RL 52 yX6_undo ∈ tk_G := (tk_mem 471 (by decide +kernel) rfl)
theorem wm_L_55 : Cond.methodLink RL 55 yX7_undo ∈ tk_G := (tk_mem 846 (by decide +kernel) rfl)
theorem wm_L_56 : Cond.methodLink RL 56 yX6_level ∈ tk_G := (tk_mem 486 (by decide +kernel) rfl)
theorem wm_L_59 : Cond.methodLink RL 59 yX7_level ∈ tk_G := (tk_mem 850 (by decide +kernel) rfl)
theorem wm_L_60 : Cond.methodLink RL 60 yX6_high ∈ tk_G := (tk_mem 490 (by decide +kernel) rfl)
theorem wm_L_63 : Cond.methodLink RL 63 yX7_high ∈ tk_G := (tk_mem 854 (by decide +kernel) rfl)
theorem wm_L_64 : Cond.methodLink RL 64 yX6_flood ∈ tk_G := (tk_mem 494 (by decide +kernel) rfl)
theorem wm_L_67 : Cond.methodLink RL 67 yX7_flood ∈ tk_G := (tk_mem 858 (by decide +kernel) rfl)
theorem wm_L_68 : Cond.methodLink RL 68 yX6_where ∈ tk_G := (tk_mem 498 (by decide +kernel) rfl)
theorem wm_L_71 : Cond.methodLink RL 71 yX7_where ∈ tk_G := (tk_mem 862 (by decide +kernel) rfl)
theorem wm_L_72 : Cond.methodLink RL 72 yX6_when ∈ tk_G := (tk_mem 507 (by decide +kernel) rfl)
theorem wm_L_75 : Cond.methodLink RL 75 yX7_when ∈ tk_G := (tk_mem 866 (by decide +kernel) rfl)
theorem wm_L_76 : Cond.methodLink RL 76 yX6_send ∈ tk_G := (tk_mem 516 (by decide +kernel) rfl)
theorem wm_L_80 : Cond.methodLink RL 80 yX7_send ∈ tk_G := (tk_mem 874 (by decide +kernel) rfl)
theorem wm_L_81 : Cond.methodLink RL 81 yX6_meet ∈ tk_G := (tk_mem 521 (by decide +kernel) rfl)
theorem wm_L_84 : Cond.methodLink RL 84 yX7_meet ∈ tk_G := (tk_mem 878 (by decide +kernel) rfl)
theorem wm_L_85 : Cond.methodLink RL 85 yX6_round ∈ tk_G := (tk_mem 525 (by decide +kernel) rfl)
theorem wm_L_88 : Cond.methodLink RL 88 yX7_round ∈ tk_G := (tk_mem 882 (by decide +kernel) rfl)
theorem wm_L_89 : Cond.methodLink RL 89 yX6_odds ∈ tk_G := (tk_mem 534 (by decide +kernel) rfl)
theorem wm_L_93 : Cond.methodLink RL 93 yX7_odds ∈ tk_G := (tk_mem 886 (by decide +kernel) rfl)
theorem wm_L_94 : Cond.methodLink RL 94 yX6_found ∈ tk_G := (tk_mem 555 (by decide +kernel) rfl)
theorem wm_L_97 : Cond.methodLink RL 97 yX7_found ∈ tk_G := (tk_mem 893 (by decide +kernel) rfl)
theorem wm_L_98 : Cond.methodLink RL 98 yX6_began ∈ tk_G := (tk_mem 563 (by decide +kernel) rfl)
theorem wm_L_101 : Cond.methodLink RL 101 yX7_began ∈ tk_G := (tk_mem 897 (by decide +kernel) rfl)
theorem wm_L_102 : Cond.methodLink RL 102 yX6_saw ∈ tk_G := (tk_mem 571 (by decide +kernel) rfl)
theorem wm_L_105 : Cond.methodLink RL 105 yX7_saw ∈ tk_G := (tk_mem 905 (by decide +kernel) rfl)
theorem wm_L_106 : Cond.methodLink RL 106 yX6_laws ∈ tk_G := (tk_mem 575 (by decide +kernel) rfl)
theorem wm_L_109 : Cond.methodLink RL 109 yX7_laws ∈ tk_G := (tk_mem 909 (by decide +kernel) rfl)
theorem wm_L_110 : Cond.methodLink RL 110 yX6_forget ∈ tk_G := (tk_mem 583 (by decide +kernel) rfl)
theorem wm_L_113 : Cond.methodLink RL 113 yX7_forget ∈ tk_G := (tk_mem 913 (by decide +kernel) rfl)
theorem wm_L_114 : Cond.methodLink RL 114 yX6_rate ∈ tk_G := (tk_mem 587 (by decide +kernel) rfl)
theorem wm_L_117 : Cond.methodLink RL 117 yX7_rate ∈ tk_G := (tk_mem 917 (by decide +kernel) rfl)
theorem wm_L_118 : Cond.methodLink RL 118 yX6_keep ∈ tk_G := (tk_mem 621 (by decide +kernel) rfl)
theorem wm_L_121 : Cond.methodLink RL 121 yX7_keep ∈ tk_G := (tk_mem 927 (by decide +kernel) rfl)
theorem wm_L_122 : Cond.methodLink RL 122 yX6_back ∈ tk_G := (tk_mem 625 (by decide +kernel) rfl)
theorem wm_L_125 : Cond.methodLink RL 125 yX7_back ∈ tk_G := (tk_mem 931 (by decide +kernel) rfl)
theorem wm_L_126 : Cond.methodLink RL 126 yX6_count ∈ tk_G := (tk_mem 629 (by decide +kernel) rfl)
theorem wm_L_129 : Cond.methodLink RL 129 yX7_count ∈ tk_G := (tk_mem 935 (by decide +kernel) rfl)
theorem wm_L_130 : Cond.methodLink RL 130 yX6_trace ∈ tk_G := (tk_mem 633 (by decide +kernel) rfl)
theorem wm_L_134 : Cond.methodLink RL 134 yX7_trace ∈ tk_G := (tk_mem 939 (by decide +kernel) rfl)
theorem wn_J9 : Cond.initialized RJ9 ∈ tk_G := (tk_mem 48 (by decide +kernel) rfl)
theorem wn_J6 : Cond.initialized RJ6 ∈ tk_G := (tk_mem 49 (by decide +kernel) rfl)
def M_X0_init : tk_Md := (yX0_init, cX0_init, 1, none, { frames := 1, cells := 2, slots := 12, locals := 12 })
theorem mv_X0_init : tk_MI M_X0_init 0 := ⟨⟨tk_mem 216 (by decide +kernel) rfl, wn_X0, by decide, by decide, by decide +kernel⟩, tk_mem 215 (by decide +kernel) rfl, rfl, rfl⟩
def M_X0_add : tk_Md := (yX0_add, cX0_add, 3, (some .int), { frames := 0, cells := 0, slots := 0, locals := 0 })
theorem mv_X0_add : tk_MV M_X0_add 2 := ⟨⟨tk_mem 562 (by decide +kernel) rfl, wn_X0, by decide, by decide, by decide +kernel⟩, tk_mem 560 (by decide +kernel) rfl, tk_mem 561 (by decide +kernel) rfl⟩
def M_X0_lose : tk_Md := (yX0_lose, cX0_lose, 2, (some .int), { frames := 0, cells := 0, slots := 0, locals := 0 })
theorem mv_X0_lose : tk_MV M_X0_lose 0 := ⟨⟨tk_mem 373 (by decide +kernel) rfl, wn_X0, by decide, by decide, by decide +kernel⟩, tk_mem 371 (by decide +kernel) rfl, tk_mem 372 (by decide +kernel) rfl⟩
def M_X4_init : tk_Md := (yX4_init, cX4_init, 1, none, { frames := 1, cells := 0, slots := 0, locals := 12 })
theorem mv_X4_init : tk_MI M_X4_init 0 := ⟨⟨tk_mem 161 (by decide +kernel) rfl, wn_X4, by decide, by decide, by decide +kernel⟩, tk_mem 160 (by decide +kernel) rfl, rfl, rfl⟩
def M_X1_init : tk_Md := (yX1_init, cX1_init, 2, none, { frames := 2, cells := 6, slots := 20, locals := 32 })
theorem mv_X1_init : tk_MI M_X1_init 0 := ⟨⟨tk_mem 154 (by decide +kernel) rfl, wn_X1, by decide, by decide, by decide +kernel⟩, tk_mem 153 (by decide +kernel) rfl, rfl, rfl⟩
def M_X4_lieOn : tk_Md := (yX4_lieOn, cX4_lieOn, 2, none, { frames := 0, cells := 0, slots := 0, locals := 0 })
theorem mv_X4_lieOn : tk_MV M_X4_lieOn 1 := ⟨⟨tk_mem 365 (by decide +kernel) rfl, wn_X4, by decide, by decide, by decide +kernel⟩, tk_mem 363 (by decide +kernel) rfl, tk_mem 364 (by decide +kernel) rfl⟩
def M_X1_begin : tk_Md := (yX1_begin, cX1_begin, 3, none, { frames := 1, cells := 0, slots := 0, locals := 21 })
theorem mv_X1_begin : tk_MV M_X1_begin 1 := ⟨⟨tk_mem 361 (by decide +kernel) rfl, wn_X1, by decide, by decide, by decide +kernel⟩, tk_mem 359 (by decide +kernel) rfl, tk_mem 360 (by decide +kernel) rfl⟩
def M_X4_lies : tk_Md := (yX4_lies, cX4_lies, 1, (some .boolean), { frames := 0, cells := 0, slots := 0, locals := 0 })
theorem mv_X4_lies : tk_MV M_X4_lies 0 := ⟨⟨tk_mem 393 (by decide +kernel) rfl, wn_X4, by decide, by decide, by decide +kernel⟩, tk_mem 391 (by decide +kernel) rfl, tk_mem 392 (by decide +kernel) rfl⟩
def M_X5_isKerb : tk_Md := (yX5_isKerb, cX5_isKerb, 2, (some .boolean), { frames := 0, cells := 0, slots := 0, locals := 0 })
theorem mv_X5_isKerb : tk_MV M_X5_isKerb 1 := ⟨⟨tk_mem 381 (by decide +kernel) rfl, wn_X5, by decide, by decide, by decide +kernel⟩, tk_mem 379 (by decide +kernel) rfl, tk_mem 380 (by decide +kernel) rfl⟩
def M_X5_isFlooded : tk_Md := (yX5_isFlooded, cX5_isFlooded, 3, (some .boolean), { frames := 1, cells := 0, slots := 0, locals := 21 })
theorem mv_X5_isFlooded : tk_MV M_X5_isFlooded 2 := ⟨⟨tk_mem 425 (by decide +kernel) rfl, wn_X5, by decide, by decide, by decide +kernel⟩, tk_mem 423 (by decide +kernel) rfl, tk_mem 424 (by decide +kernel) rfl⟩
def M_X4_pass : tk_Md := (yX4_pass, cX4_pass, 4, (some .boolean), { frames := 2, cells := 0, slots := 0, locals := 43 })
theorem mv_X4_pass : tk_MV M_X4_pass 2 := ⟨⟨tk_mem 450 (by decide +kernel) rfl, wn_X4, by decide, by decide, by decide +kernel⟩, tk_mem 448 (by decide +kernel) rfl, tk_mem 449 (by decide +kernel) rfl⟩
def M_X5_leftOver : tk_Md := (yX5_leftOver, cX5_leftOver, 2, (some .int), { frames := 0, cells := 0, slots := 0, locals := 0 })
theorem mv_X5_leftOver : tk_MV M_X5_leftOver 1 := ⟨⟨tk_mem 417 (by decide +kernel) rfl, wn_X5, by decide, by decide, by decide +kernel⟩, tk_mem 415 (by decide +kernel) rfl, tk_mem 416 (by decide +kernel) rfl⟩
def M_X5_levelOf : tk_Md := (yX5_levelOf, cX5_levelOf, 2, (some .int), { frames := 1, cells := 0, slots := 0, locals := 21 })
theorem mv_X5_levelOf : tk_MV M_X5_levelOf 1 := ⟨⟨tk_mem 413 (by decide +kernel) rfl, wn_X5, by decide, by decide, by decide +kernel⟩, tk_mem 411 (by decide +kernel) rfl, tk_mem 412 (by decide +kernel) rfl⟩
def M_J9_min_7cf53 : tk_Md := (yJ9_min_7cf53, cJ9_min_7cf53, 2, (some .int), { frames := 0, cells := 0, slots := 0, locals := 0 })
theorem mv_J9_min_7cf53 : tk_MS M_J9_min_7cf53 2 := ⟨⟨tk_mem 437 (by decide +kernel) rfl, wn_J9, by decide, by decide, by decide +kernel⟩, tk_mem 436 (by decide +kernel) rfl⟩
def M_X1_pass : tk_Md := (yX1_pass, cX1_pass, 5, (some .int), { frames := 3, cells := 0, slots := 0, locals := 66 })
theorem mv_X1_pass : tk_MV M_X1_pass 1 := ⟨⟨tk_mem 445 (by decide +kernel) rfl, wn_X1, by decide, by decide, by decide +kernel⟩, tk_mem 443 (by decide +kernel) rfl, tk_mem 444 (by decide +kernel) rfl⟩
def M_X4_liesOn : tk_Md := (yX4_liesOn, cX4_liesOn, 2, (some .boolean), { frames := 1, cells := 0, slots := 0, locals := 20 })
theorem mv_X4_liesOn : tk_MV M_X4_liesOn 1 := ⟨⟨tk_mem 389 (by decide +kernel) rfl, wn_X4, by decide, by decide, by decide +kernel⟩, tk_mem 387 (by decide +kernel) rfl, tk_mem 388 (by decide +kernel) rfl⟩
def M_X1_lyingOn : tk_Md := (yX1_lyingOn, cX1_lyingOn, 5, (some .int), { frames := 2, cells := 0, slots := 0, locals := 41 })
theorem mv_X1_lyingOn : tk_MV M_X1_lyingOn 2 := ⟨⟨tk_mem 385 (by decide +kernel) rfl, wn_X1, by decide, by decide, by decide +kernel⟩, tk_mem 383 (by decide +kernel) rfl, tk_mem 384 (by decide +kernel) rfl⟩
def M_X1_tiedOf : tk_Md := (yX1_tiedOf, cX1_tiedOf, 4, (some .int), { frames := 0, cells := 0, slots := 0, locals := 0 })
theorem mv_X1_tiedOf : tk_MV M_X1_tiedOf 1 := ⟨⟨tk_mem 462 (by decide +kernel) rfl, wn_X1, by decide, by decide, by decide +kernel⟩, tk_mem 460 (by decide +kernel) rfl, tk_mem 461 (by decide +kernel) rfl⟩
def M_X1_saveTo : tk_Md := (yX1_saveTo, cX1_saveTo, 4, none, { frames := 0, cells := 0, slots := 0, locals := 0 })
theorem mv_X1_saveTo : tk_MV M_X1_saveTo 1 := ⟨⟨tk_mem 441 (by decide +kernel) rfl, wn_X1, by decide, by decide, by decide +kernel⟩, tk_mem 439 (by decide +kernel) rfl, tk_mem 440 (by decide +kernel) rfl⟩
def M_X1_loadFrom : tk_Md := (yX1_loadFrom, cX1_loadFrom, 4, none, { frames := 0, cells := 0, slots := 0, locals := 0 })
theorem mv_X1_loadFrom : tk_MV M_X1_loadFrom 1 := ⟨⟨tk_mem 485 (by decide +kernel) rfl, wn_X1, by decide, by decide, by decide +kernel⟩, tk_mem 483 (by decide +kernel) rfl, tk_mem 484 (by decide +kernel) rfl⟩
def M_X2_init : tk_Md := (yX2_init, cX2_init, 1, none, { frames := 1, cells := 11, slots := 180, locals := 12 })
theorem mv_X2_init : tk_MI M_X2_init 0 := ⟨⟨tk_mem 196 (by decide +kernel) rfl, wn_X2, by decide, by decide, by decide +kernel⟩, tk_mem 195 (by decide +kernel) rfl, rfl, rfl⟩
def M_X2_nextRow : tk_Md := (yX2_nextRow, cX2_nextRow, 2, (some (.array .int)), { frames := 1, cells := 0, slots := 0, locals := 21 })
theorem mv_X2_nextRow : tk_MV M_X2_nextRow 0 := ⟨⟨tk_mem 434 (by decide +kernel) rfl, wn_X2, by decide, by decide, by decide +kernel⟩, tk_mem 432 (by decide +kernel) rfl, tk_mem 433 (by decide +kernel) rfl⟩
def M_J9_max_7cf53 : tk_Md := (yJ9_max_7cf53, cJ9_max_7cf53, 2, (some .int), { frames := 0, cells := 0, slots := 0, locals := 0 })
theorem mv_J9_max_7cf53 : tk_MS M_J9_max_7cf53 2 := ⟨⟨tk_mem 481 (by decide +kernel) rfl, wn_J9, by decide, by decide, by decide +kernel⟩, tk_mem 480 (by decide +kernel) rfl⟩
def M_X2_latestRow : tk_Md := (yX2_latestRow, cX2_latestRow, 1, (some (.array .int)), { frames := 1, cells := 0, slots := 0, locals := 21 })
theorem mv_X2_latestRow : tk_MV M_X2_latestRow 0 := ⟨⟨tk_mem 478 (by decide +kernel) rfl, wn_X2, by decide, by decide, by decide +kernel⟩, tk_mem 476 (by decide +kernel) rfl, tk_mem 477 (by decide +kernel) rfl⟩
def M_X2_lose : tk_Md := (yX2_lose, cX2_lose, 1, none, { frames := 0, cells := 0, slots := 0, locals := 0 })
theorem mv_X2_lose : tk_MV M_X2_lose 0 := ⟨⟨tk_mem 369 (by decide +kernel) rfl, wn_X2, by decide, by decide, by decide +kernel⟩, tk_mem 367 (by decide +kernel) rfl, tk_mem 368 (by decide +kernel) rfl⟩
def M_X3_init : tk_Md := (yX3_init, cX3_init, 1, none, { frames := 1, cells := 1, slots := 150, locals := 12 })
theorem mv_X3_init : tk_MI M_X3_init 0 := ⟨⟨tk_mem 62 (by decide +kernel) rfl, wn_X3, by decide, by decide, by decide +kernel⟩, tk_mem 61 (by decide +kernel) rfl, rfl, rfl⟩
def M_X3_add : tk_Md := (yX3_add, cX3_add, 2, (some .int), { frames := 0, cells := 0, slots := 0, locals := 0 })
theorem mv_X3_add : tk_MV M_X3_add 1 := ⟨⟨tk_mem 281 (by decide +kernel) rfl, wn_X3, by decide, by decide, by decide +kernel⟩, tk_mem 279 (by decide +kernel) rfl, tk_mem 280 (by decide +kernel) rfl⟩
def M_X3_empty : tk_Md := (yX3_empty, cX3_empty, 2, (some .int), { frames := 0, cells := 0, slots := 0, locals := 0 })
theorem mv_X3_empty : tk_MV M_X3_empty 0 := ⟨⟨tk_mem 289 (by decide +kernel) rfl, wn_X3, by decide, by decide, by decide +kernel⟩, tk_mem 287 (by decide +kernel) rfl, tk_mem 288 (by decide +kernel) rfl⟩
def M_X6_isWithin : tk_Md := (yX6_isWithin, cX6_isWithin, 3, (some .boolean), { frames := 0, cells := 0, slots := 0, locals := 0 })
theorem mv_X6_isWithin : tk_MS M_X6_isWithin 3 := ⟨⟨tk_mem 277 (by decide +kernel) rfl, wn_X6, by decide, by decide, by decide +kernel⟩, tk_mem 276 (by decide +kernel) rfl⟩
def M_X3_isDigit : tk_Md := (yX3_isDigit, cX3_isDigit, 1, (some .boolean), { frames := 0, cells := 0, slots := 0, locals := 0 })
theorem mv_X3_isDigit : tk_MS M_X3_isDigit 1 := ⟨⟨tk_mem 305 (by decide +kernel) rfl, wn_X3, by decide, by decide, by decide +kernel⟩, tk_mem 304 (by decide +kernel) rfl⟩
def M_X3_readDigits : tk_Md := (yX3_readDigits, cX3_readDigits, 5, (some .int), { frames := 1, cells := 0, slots := 0, locals := 20 })
theorem mv_X3_readDigits : tk_MV M_X3_readDigits 0 := ⟨⟨tk_mem 309 (by decide +kernel) rfl, wn_X3, by decide, by decide, by decide +kernel⟩, tk_mem 308 (by decide +kernel) rfl, tk_mem 1 (by decide +kernel) rfl⟩
def M_X3_readToken : tk_Md := (yX3_readToken, cX3_readToken, 1, none, { frames := 2, cells := 0, slots := 0, locals := 44 })
theorem mv_X3_readToken : tk_MV M_X3_readToken 0 := ⟨⟨tk_mem 302 (by decide +kernel) rfl, wn_X3, by decide, by decide, by decide +kernel⟩, tk_mem 301 (by decide +kernel) rfl, tk_mem 0 (by decide +kernel) rfl⟩
def M_X3_readNumber : tk_Md := (yX3_readNumber, cX3_readNumber, 3, (some .boolean), { frames := 3, cells := 0, slots := 0, locals := 64 })
theorem mv_X3_readNumber : tk_MV M_X3_readNumber 2 := ⟨⟨tk_mem 321 (by decide +kernel) rfl, wn_X3, by decide, by decide, by decide +kernel⟩, tk_mem 320 (by decide +kernel) rfl, tk_mem 4 (by decide +kernel) rfl⟩
def M_X3_readDrain : tk_Md := (yX3_readDrain, cX3_readDrain, 4, (some .boolean), { frames := 4, cells := 0, slots := 0, locals := 86 })
theorem mv_X3_readDrain : tk_MV M_X3_readDrain 1 := ⟨⟨tk_mem 344 (by decide +kernel) rfl, wn_X3, by decide, by decide, by decide +kernel⟩, tk_mem 343 (by decide +kernel) rfl, tk_mem 7 (by decide +kernel) rfl⟩
def M_X3_readItemEnd : tk_Md := (yX3_readItemEnd, cX3_readItemEnd, 1, (some .boolean), { frames := 3, cells := 0, slots := 0, locals := 64 })
theorem mv_X3_readItemEnd : tk_MV M_X3_readItemEnd 0 := ⟨⟨tk_mem 327 (by decide +kernel) rfl, wn_X3, by decide, by decide, by decide +kernel⟩, tk_mem 326 (by decide +kernel) rfl, tk_mem 5 (by decide +kernel) rfl⟩
def M_X5_hasRoomForKerb : tk_Md := (yX5_hasRoomForKerb, cX5_hasRoomForKerb, 1, (some .boolean), { frames := 0, cells := 0, slots := 0, locals := 0 })
theorem mv_X5_hasRoomForKerb : tk_MV M_X5_hasRoomForKerb 0 := ⟨⟨tk_mem 331 (by decide +kernel) rfl, wn_X5, by decide, by decide, by decide +kernel⟩, tk_mem 329 (by decide +kernel) rfl, tk_mem 330 (by decide +kernel) rfl⟩
def M_X5_addKerb : tk_Md := (yX5_addKerb, cX5_addKerb, 3, none, { frames := 1, cells := 0, slots := 0, locals := 20 })
theorem mv_X5_addKerb : tk_MV M_X5_addKerb 2 := ⟨⟨tk_mem 339 (by decide +kernel) rfl, wn_X5, by decide, by decide, by decide +kernel⟩, tk_mem 337 (by decide +kernel) rfl, tk_mem 338 (by decide +kernel) rfl⟩
def M_X3_readKerb : tk_Md := (yX3_readKerb, cX3_readKerb, 3, (some .boolean), { frames := 4, cells := 0, slots := 0, locals := 86 })
theorem mv_X3_readKerb : tk_MV M_X3_readKerb 1 := ⟨⟨tk_mem 335 (by decide +kernel) rfl, wn_X3, by decide, by decide, by decide +kernel⟩, tk_mem 334 (by decide +kernel) rfl, tk_mem 6 (by decide +kernel) rfl⟩
def M_X5_setLevel : tk_Md := (yX5_setLevel, cX5_setLevel, 4, none, { frames := 0, cells := 0, slots := 0, locals := 0 })
theorem mv_X5_setLevel : tk_MV M_X5_setLevel 3 := ⟨⟨tk_mem 101 (by decide +kernel) rfl, wn_X5, by decide, by decide, by decide +kernel⟩, tk_mem 99 (by decide +kernel) rfl, tk_mem 100 (by decide +kernel) rfl⟩
def M_X3_readLevel : tk_Md := (yX3_readLevel, cX3_readLevel, 4, (some .boolean), { frames := 4, cells := 0, slots := 0, locals := 86 })
theorem mv_X3_readLevel : tk_MV M_X3_readLevel 1 := ⟨⟨tk_mem 317 (by decide +kernel) rfl, wn_X3, by decide, by decide, by decide +kernel⟩, tk_mem 316 (by decide +kernel) rfl, tk_mem 3 (by decide +kernel) rfl⟩
def M_X5_hasRoomForThing : tk_Md := (yX5_hasRoomForThing, cX5_hasRoomForThing, 1, (some .boolean), { frames := 0, cells := 0, slots := 0, locals := 0 })
theorem mv_X5_hasRoomForThing : tk_MV M_X5_hasRoomForThing 0 := ⟨⟨tk_mem 348 (by decide +kernel) rfl, wn_X5, by decide, by decide, by decide +kernel⟩, tk_mem 346 (by decide +kernel) rfl, tk_mem 347 (by decide +kernel) rfl⟩
def M_X5_addThing : tk_Md := (yX5_addThing, cX5_addThing, 2, none, { frames := 1, cells := 0, slots := 0, locals := 20 })
theorem mv_X5_addThing : tk_MV M_X5_addThing 1 := ⟨⟨tk_mem 356 (by decide +kernel) rfl, wn_X5, by decide, by decide, by decide +kernel⟩, tk_mem 354 (by decide +kernel) rfl, tk_mem 355 (by decide +kernel) rfl⟩
def M_X3_readThing : tk_Md := (yX3_readThing, cX3_readThing, 2, (some .boolean), { frames := 4, cells := 0, slots := 0, locals := 86 })
theorem mv_X3_readThing : tk_MV M_X3_readThing 1 := ⟨⟨tk_mem 352 (by decide +kernel) rfl, wn_X3, by decide, by decide, by decide +kernel⟩, tk_mem 351 (by decide +kernel) rfl, tk_mem 8 (by decide +kernel) rfl⟩
def M_X3_readItem : tk_Md := (yX3_readItem, cX3_readItem, 2, (some .boolean), { frames := 5, cells := 0, slots := 0, locals := 109 })
theorem mv_X3_readItem : tk_MV M_X3_readItem 1 := ⟨⟨tk_mem 313 (by decide +kernel) rfl, wn_X3, by decide, by decide, by decide +kernel⟩, tk_mem 312 (by decide +kernel) rfl, tk_mem 2 (by decide +kernel) rfl⟩
def M_X5_reset : tk_Md := (yX5_reset, cX5_reset, 1, none, { frames := 1, cells := 0, slots := 0, locals := 23 })
theorem mv_X5_reset : tk_MV M_X5_reset 0 := ⟨⟨tk_mem 97 (by decide +kernel) rfl, wn_X5, by decide, by decide, by decide +kernel⟩, tk_mem 95 (by decide +kernel) rfl, tk_mem 96 (by decide +kernel) rfl⟩
def M_X3_readInto : tk_Md := (yX3_readInto, cX3_readInto, 3, (some .int), { frames := 6, cells := 0, slots := 0, locals := 130 })
theorem mv_X3_readInto : tk_MV M_X3_readInto 1 := ⟨⟨tk_mem 297 (by decide +kernel) rfl, wn_X3, by decide, by decide, by decide +kernel⟩, tk_mem 295 (by decide +kernel) rfl, tk_mem 296 (by decide +kernel) rfl⟩
def M_X4_becomes : tk_Md := (yX4_becomes, cX4_becomes, 2, none, { frames := 0, cells := 0, slots := 0, locals := 0 })
theorem mv_X4_becomes : tk_MV M_X4_becomes 1 := ⟨⟨tk_mem 505 (by decide +kernel) rfl, wn_X4, by decide, by decide, by decide +kernel⟩, tk_mem 503 (by decide +kernel) rfl, tk_mem 504 (by decide +kernel) rfl⟩
def M_X4_isAs : tk_Md := (yX4_isAs, cX4_isAs, 2, (some .boolean), { frames := 0, cells := 0, slots := 0, locals := 0 })
theorem mv_X4_isAs : tk_MV M_X4_isAs 1 := ⟨⟨tk_mem 532 (by decide +kernel) rfl, wn_X4, by decide, by decide, by decide +kernel⟩, tk_mem 530 (by decide +kernel) rfl, tk_mem 531 (by decide +kernel) rfl⟩
def M_X4_place : tk_Md := (yX4_place, cX4_place, 1, (some .int), { frames := 1, cells := 0, slots := 0, locals := 20 })
theorem mv_X4_place : tk_MV M_X4_place 0 := ⟨⟨tk_mem 405 (by decide +kernel) rfl, wn_X4, by decide, by decide, by decide +kernel⟩, tk_mem 403 (by decide +kernel) rfl, tk_mem 404 (by decide +kernel) rfl⟩
def M_X5_init : tk_Md := (yX5_init, cX5_init, 1, none, { frames := 2, cells := 5, slots := 37, locals := 43 })
theorem mv_X5_init : tk_MI M_X5_init 0 := ⟨⟨tk_mem 92 (by decide +kernel) rfl, wn_X5, by decide, by decide, by decide +kernel⟩, tk_mem 91 (by decide +kernel) rfl, rfl, rfl⟩
def M_X5_isThing : tk_Md := (yX5_isThing, cX5_isThing, 2, (some .boolean), { frames := 0, cells := 0, slots := 0, locals := 0 })
theorem mv_X5_isThing : tk_MV M_X5_isThing 1 := ⟨⟨tk_mem 401 (by decide +kernel) rfl, wn_X5, by decide, by decide, by decide +kernel⟩, tk_mem 399 (by decide +kernel) rfl, tk_mem 400 (by decide +kernel) rfl⟩
def M_X5_areOfOneTown : tk_Md := (yX5_areOfOneTown, cX5_areOfOneTown, 3, (some .boolean), { frames := 1, cells := 0, slots := 0, locals := 21 })
theorem mv_X5_areOfOneTown : tk_MV M_X5_areOfOneTown 2 := ⟨⟨tk_mem 470 (by decide +kernel) rfl, wn_X5, by decide, by decide, by decide +kernel⟩, tk_mem 468 (by decide +kernel) rfl, tk_mem 469 (by decide +kernel) rfl⟩
def M_X5_floodedBy : tk_Md := (yX5_floodedBy, cX5_floodedBy, 4, (some .int), { frames := 2, cells := 0, slots := 0, locals := 43 })
theorem mv_X5_floodedBy : tk_MV M_X5_floodedBy 1 := ⟨⟨tk_mem 421 (by decide +kernel) rfl, wn_X5, by decide, by decide, by decide +kernel⟩, tk_mem 419 (by decide +kernel) rfl, tk_mem 420 (by decide +kernel) rfl⟩
def M_X6_init : tk_Md := (yX6_init, cX6_init, 1, none, { frames := 3, cells := 45, slots := 531, locals := 63 })
theorem mv_X6_init : tk_MI M_X6_init 0 := ⟨⟨tk_mem 54 (by decide +kernel) rfl, wn_X6, by decide, by decide, by decide +kernel⟩, tk_mem 53 (by decide +kernel) rfl, rfl, rfl⟩
def M_X6_type : tk_Md := (yX6_type, cX6_type, 2, (some .int), { frames := 1, cells := 0, slots := 0, locals := 22 })
theorem mv_X6_type : tk_MV M_X6_type 1 := ⟨⟨tk_mem 274 (by decide +kernel) rfl, wn_X6, by decide, by decide, by decide +kernel⟩, tk_mem 272 (by decide +kernel) rfl, tk_mem 273 (by decide +kernel) rfl⟩
def M_X6_clear : tk_Md := (yX6_clear, cX6_clear, 1, (some .int), { frames := 1, cells := 0, slots := 0, locals := 21 })
theorem mv_X6_clear : tk_MV M_X6_clear 0 := ⟨⟨tk_mem 285 (by decide +kernel) rfl, wn_X6, by decide, by decide, by decide +kernel⟩, tk_mem 283 (by decide +kernel) rfl, tk_mem 284 (by decide +kernel) rfl⟩
def M_X6_towns : tk_Md := (yX6_towns, cX6_towns, 4, (some .int), { frames := 7, cells := 0, slots := 0, locals := 152 })
theorem mv_X6_towns : tk_MV M_X6_towns 0 := ⟨⟨tk_mem 293 (by decide +kernel) rfl, wn_X6, by decide, by decide, by decide +kernel⟩, tk_mem 291 (by decide +kernel) rfl, tk_mem 292 (by decide +kernel) rfl⟩
def M_X6_kerb : tk_Md := (yX6_kerb, cX6_kerb, 3, (some .int), { frames := 3, cells := 0, slots := 0, locals := 65 })
theorem mv_X6_kerb : tk_MV M_X6_kerb 2 := ⟨⟨tk_mem 377 (by decide +kernel) rfl, wn_X6, by decide, by decide, by decide +kernel⟩, tk_mem 375 (by decide +kernel) rfl, tk_mem 376 (by decide +kernel) rfl⟩
def M_X6_thing : tk_Md := (yX6_thing, cX6_thing, 4, (some .int), { frames := 2, cells := 0, slots := 0, locals := 40 })
theorem mv_X6_thing : tk_MV M_X6_thing 2 := ⟨⟨tk_mem 397 (by decide +kernel) rfl, wn_X6, by decide, by decide, by decide +kernel⟩, tk_mem 395 (by decide +kernel) rfl, tk_mem 396 (by decide +kernel) rfl⟩
def M_X6_now : tk_Md := (yX6_now, cX6_now, 2, (some .int), { frames := 3, cells := 0, slots := 0, locals := 66 })
theorem mv_X6_now : tk_MV M_X6_now 1 := ⟨⟨tk_mem 409 (by decide +kernel) rfl, wn_X6, by decide, by decide, by decide +kernel⟩, tk_mem 407 (by decide +kernel) rfl, tk_mem 408 (by decide +kernel) rfl⟩
def M_X6_tides : tk_Md := (yX6_tides, cX6_tides, 4, (some .int), { frames := 4, cells := 0, slots := 0, locals := 90 })
theorem mv_X6_tides : tk_MV M_X6_tides 1 := ⟨⟨tk_mem 430 (by decide +kernel) rfl, wn_X6, by decide, by decide, by decide +kernel⟩, tk_mem 428 (by decide +kernel) rfl, tk_mem 429 (by decide +kernel) rfl⟩
def M_X6_ties : tk_Md := (yX6_ties, cX6_ties, 5, (some .int), { frames := 2, cells := 0, slots := 0, locals := 42 })
theorem mv_X6_ties : tk_MV M_X6_ties 2 := ⟨⟨tk_mem 457 (by decide +kernel) rfl, wn_X6, by decide, by decide, by decide +kernel⟩, tk_mem 455 (by decide +kernel) rfl, tk_mem 456 (by decide +kernel) rfl⟩
def M_X6_carries : tk_Md := (yX6_carries, cX6_carries, 5, (some .int), { frames := 2, cells := 0, slots := 0, locals := 43 })
theorem mv_X6_carries : tk_MV M_X6_carries 2 := ⟨⟨tk_mem 466 (by decide +kernel) rfl, wn_X6, by decide, by decide, by decide +kernel⟩, tk_mem 464 (by decide +kernel) rfl, tk_mem 465 (by decide +kernel) rfl⟩
def M_X6_undo : tk_Md := (yX6_undo, cX6_undo, 1, (some .int), { frames := 2, cells := 0, slots := 0, locals := 41 })
theorem mv_X6_undo : tk_MV M_X6_undo 0 := ⟨⟨tk_mem 474 (by decide +kernel) rfl, wn_X6, by decide, by decide, by decide +kernel⟩, tk_mem 472 (by decide +kernel) rfl, tk_mem 473 (by decide +kernel) rfl⟩
def M_X6_level : tk_Md := (yX6_level, cX6_level, 2, (some .int), { frames := 2, cells := 0, slots := 0, locals := 42 })
theorem mv_X6_level : tk_MV M_X6_level 1 := ⟨⟨tk_mem 489 (by decide +kernel) rfl, wn_X6, by decide, by decide, by decide +kernel⟩, tk_mem 487 (by decide +kernel) rfl, tk_mem 488 (by decide +kernel) rfl⟩
def M_X6_high : tk_Md := (yX6_high, cX6_high, 3, (some .int), { frames := 2, cells := 0, slots := 0, locals := 42 })
theorem mv_X6_high : tk_MV M_X6_high 1 := ⟨⟨tk_mem 493 (by decide +kernel) rfl, wn_X6, by decide, by decide, by decide +kernel⟩, tk_mem 491 (by decide +kernel) rfl, tk_mem 492 (by decide +kernel) rfl⟩
def M_X6_flood : tk_Md := (yX6_flood, cX6_flood, 2, (some .int), { frames := 3, cells := 0, slots := 0, locals := 66 })
theorem mv_X6_flood : tk_MV M_X6_flood 1 := ⟨⟨tk_mem 497 (by decide +kernel) rfl, wn_X6, by decide, by decide, by decide +kernel⟩, tk_mem 495 (by decide +kernel) rfl, tk_mem 496 (by decide +kernel) rfl⟩
def M_X6_where : tk_Md := (yX6_where, cX6_where, 4, (some .int), { frames := 3, cells := 0, slots := 0, locals := 66 })
theorem mv_X6_where : tk_MV M_X6_where 2 := ⟨⟨tk_mem 501 (by decide +kernel) rfl, wn_X6, by decide, by decide, by decide +kernel⟩, tk_mem 499 (by decide +kernel) rfl, tk_mem 500 (by decide +kernel) rfl⟩
def M_X6_firstTideOn : tk_Md := (yX6_firstTideOn, cX6_firstTideOn, 4, (some .int), { frames := 3, cells := 0, slots := 0, locals := 66 })
theorem mv_X6_firstTideOn : tk_MV M_X6_firstTideOn 2 := ⟨⟨tk_mem 514 (by decide +kernel) rfl, wn_X6, by decide, by decide, by decide +kernel⟩, tk_mem 513 (by decide +kernel) rfl, tk_mem 9 (by decide +kernel) rfl⟩
def M_X6_when : tk_Md := (yX6_when, cX6_when, 3, (some .int), { frames := 4, cells := 0, slots := 0, locals := 89 })
theorem mv_X6_when : tk_MV M_X6_when 2 := ⟨⟨tk_mem 510 (by decide +kernel) rfl, wn_X6, by decide, by decide, by decide +kernel⟩, tk_mem 508 (by decide +kernel) rfl, tk_mem 509 (by decide +kernel) rfl⟩
def M_X6_send : tk_Md := (yX6_send, cX6_send, 9, (some .int), { frames := 4, cells := 0, slots := 0, locals := 89 })
theorem mv_X6_send : tk_MV M_X6_send 3 := ⟨⟨tk_mem 519 (by decide +kernel) rfl, wn_X6, by decide, by decide, by decide +kernel⟩, tk_mem 517 (by decide +kernel) rfl, tk_mem 518 (by decide +kernel) rfl⟩
def M_X6_meet : tk_Md := (yX6_meet, cX6_meet, 5, (some .int), { frames := 3, cells := 0, slots := 0, locals := 66 })
theorem mv_X6_meet : tk_MV M_X6_meet 2 := ⟨⟨tk_mem 524 (by decide +kernel) rfl, wn_X6, by decide, by decide, by decide +kernel⟩, tk_mem 522 (by decide +kernel) rfl, tk_mem 523 (by decide +kernel) rfl⟩
def M_X6_round : tk_Md := (yX6_round, cX6_round, 4, (some .int), { frames := 3, cells := 0, slots := 0, locals := 66 })
theorem mv_X6_round : tk_MV M_X6_round 1 := ⟨⟨tk_mem 528 (by decide +kernel) rfl, wn_X6, by decide, by decide, by decide +kernel⟩, tk_mem 526 (by decide +kernel) rfl, tk_mem 527 (by decide +kernel) rfl⟩
def M_X6_commonDivisor : tk_Md := (yX6_commonDivisor, cX6_commonDivisor, 6, (some .int), { frames := 1, cells := 0, slots := 0, locals := 21 })
theorem mv_X6_commonDivisor : tk_MS M_X6_commonDivisor 2 := ⟨⟨tk_mem 553 (by decide +kernel) rfl, wn_X6, by decide, by decide, by decide +kernel⟩, tk_mem 552 (by decide +kernel) rfl⟩
def M_X6_passSomeWeak : tk_Md := (yX6_passSomeWeak, cX6_passSomeWeak, 6, none, { frames := 3, cells := 0, slots := 0, locals := 66 })
theorem mv_X6_passSomeWeak : tk_MV M_X6_passSomeWeak 3 := ⟨⟨tk_mem 541 (by decide +kernel) rfl, wn_X6, by decide, by decide, by decide +kernel⟩, tk_mem 540 (by decide +kernel) rfl, tk_mem 10 (by decide +kernel) rfl⟩
def M_X6_power : tk_Md := (yX6_power, cX6_power, 4, (some .int), { frames := 0, cells := 0, slots := 0, locals := 0 })
theorem mv_X6_power : tk_MS M_X6_power 2 := ⟨⟨tk_mem 550 (by decide +kernel) rfl, wn_X6, by decide, by decide, by decide +kernel⟩, tk_mem 549 (by decide +kernel) rfl⟩
def M_J6_bitCount_0f7a4 : tk_Md := (yJ6_bitCount_0f7a4, cJ6_bitCount_0f7a4, 1, (some .int), { frames := 0, cells := 0, slots := 0, locals := 0 })
theorem mv_J6_bitCount_0f7a4 : tk_MS M_J6_bitCount_0f7a4 1 := ⟨⟨tk_mem 544 (by decide +kernel) rfl, wn_J6, by decide, by decide, by decide +kernel⟩, tk_mem 543 (by decide +kernel) rfl⟩
def M_X6_odds : tk_Md := (yX6_odds, cX6_odds, 9, (some .int), { frames := 4, cells := 0, slots := 0, locals := 91 })
theorem mv_X6_odds : tk_MV M_X6_odds 5 := ⟨⟨tk_mem 537 (by decide +kernel) rfl, wn_X6, by decide, by decide, by decide +kernel⟩, tk_mem 535 (by decide +kernel) rfl, tk_mem 536 (by decide +kernel) rfl⟩
def M_X6_found : tk_Md := (yX6_found, cX6_found, 3, (some .int), { frames := 1, cells := 0, slots := 0, locals := 22 })
theorem mv_X6_found : tk_MV M_X6_found 2 := ⟨⟨tk_mem 558 (by decide +kernel) rfl, wn_X6, by decide, by decide, by decide +kernel⟩, tk_mem 556 (by decide +kernel) rfl, tk_mem 557 (by decide +kernel) rfl⟩
def M_X6_canHaveBegunOn : tk_Md := (yX6_canHaveBegunOn, cX6_canHaveBegunOn, 4, (some .boolean), { frames := 3, cells := 0, slots := 0, locals := 66 })
theorem mv_X6_canHaveBegunOn : tk_MV M_X6_canHaveBegunOn 1 := ⟨⟨tk_mem 570 (by decide +kernel) rfl, wn_X6, by decide, by decide, by decide +kernel⟩, tk_mem 569 (by decide +kernel) rfl, tk_mem 11 (by decide +kernel) rfl⟩
def M_X6_began : tk_Md := (yX6_began, cX6_began, 3, (some .int), { frames := 4, cells := 0, slots := 0, locals := 89 })
theorem mv_X6_began : tk_MV M_X6_began 0 := ⟨⟨tk_mem 566 (by decide +kernel) rfl, wn_X6, by decide, by decide, by decide +kernel⟩, tk_mem 564 (by decide +kernel) rfl, tk_mem 565 (by decide +kernel) rfl⟩
def M_X6_saw : tk_Md := (yX6_saw, cX6_saw, 3, (some .int), { frames := 1, cells := 0, slots := 0, locals := 22 })
theorem mv_X6_saw : tk_MV M_X6_saw 2 := ⟨⟨tk_mem 574 (by decide +kernel) rfl, wn_X6, by decide, by decide, by decide +kernel⟩, tk_mem 572 (by decide +kernel) rfl, tk_mem 573 (by decide +kernel) rfl⟩
def M_X6_isLaw : tk_Md := (yX6_isLaw, cX6_isLaw, 4, (some .boolean), { frames := 1, cells := 0, slots := 0, locals := 21 })
theorem mv_X6_isLaw : tk_MV M_X6_isLaw 2 := ⟨⟨tk_mem 582 (by decide +kernel) rfl, wn_X6, by decide, by decide, by decide +kernel⟩, tk_mem 581 (by decide +kernel) rfl, tk_mem 12 (by decide +kernel) rfl⟩
def M_X6_laws : tk_Md := (yX6_laws, cX6_laws, 6, (some .int), { frames := 2, cells := 0, slots := 0, locals := 44 })
theorem mv_X6_laws : tk_MV M_X6_laws 1 := ⟨⟨tk_mem 578 (by decide +kernel) rfl, wn_X6, by decide, by decide, by decide +kernel⟩, tk_mem 576 (by decide +kernel) rfl, tk_mem 577 (by decide +kernel) rfl⟩
def M_X6_forget : tk_Md := (yX6_forget, cX6_forget, 1, (some .int), { frames := 1, cells := 0, slots := 0, locals := 21 })
theorem mv_X6_forget : tk_MV M_X6_forget 0 := ⟨⟨tk_mem 586 (by decide +kernel) rfl, wn_X6, by decide, by decide, by decide +kernel⟩, tk_mem 584 (by decide +kernel) rfl, tk_mem 585 (by decide +kernel) rfl⟩
def M_X6_rateAsKerb : tk_Md := (yX6_rateAsKerb, cX6_rateAsKerb, 2, (some .int), { frames := 0, cells := 0, slots := 0, locals := 0 })
theorem mv_X6_rateAsKerb : tk_MV M_X6_rateAsKerb 1 := ⟨⟨tk_mem 595 (by decide +kernel) rfl, wn_X6, by decide, by decide, by decide +kernel⟩, tk_mem 594 (by decide +kernel) rfl, tk_mem 13 (by decide +kernel) rfl⟩
def M_X6_rateAsBank : tk_Md := (yX6_rateAsBank, cX6_rateAsBank, 2, (some .int), { frames := 3, cells := 0, slots := 0, locals := 65 })
theorem mv_X6_rateAsBank : tk_MV M_X6_rateAsBank 1 := ⟨⟨tk_mem 599 (by decide +kernel) rfl, wn_X6, by decide, by decide, by decide +kernel⟩, tk_mem 598 (by decide +kernel) rfl, tk_mem 14 (by decide +kernel) rfl⟩
def M_X6_rateAsSteps : tk_Md := (yX6_rateAsSteps, cX6_rateAsSteps, 2, (some .int), { frames := 2, cells := 0, slots := 0, locals := 42 })
theorem mv_X6_rateAsSteps : tk_MV M_X6_rateAsSteps 1 := ⟨⟨tk_mem 604 (by decide +kernel) rfl, wn_X6, by decide, by decide, by decide +kernel⟩, tk_mem 603 (by decide +kernel) rfl, tk_mem 15 (by decide +kernel) rfl⟩
def M_X6_rateAsButcher : tk_Md := (yX6_rateAsButcher, cX6_rateAsButcher, 2, (some .int), { frames := 3, cells := 0, slots := 0, locals := 63 })
theorem mv_X6_rateAsButcher : tk_MV M_X6_rateAsButcher 1 := ⟨⟨tk_mem 614 (by decide +kernel) rfl, wn_X6, by decide, by decide, by decide +kernel⟩, tk_mem 613 (by decide +kernel) rfl, tk_mem 17 (by decide +kernel) rfl⟩
def M_X6_rateAsChurch : tk_Md := (yX6_rateAsChurch, cX6_rateAsChurch, 2, (some .int), { frames := 4, cells := 0, slots := 0, locals := 86 })
theorem mv_X6_rateAsChurch : tk_MV M_X6_rateAsChurch 1 := ⟨⟨tk_mem 609 (by decide +kernel) rfl, wn_X6, by decide, by decide, by decide +kernel⟩, tk_mem 608 (by decide +kernel) rfl, tk_mem 16 (by decide +kernel) rfl⟩
def M_X6_rateAsRing : tk_Md := (yX6_rateAsRing, cX6_rateAsRing, 2, (some .int), { frames := 1, cells := 0, slots := 0, locals := 21 })
theorem mv_X6_rateAsRing : tk_MV M_X6_rateAsRing 1 := ⟨⟨tk_mem 619 (by decide +kernel) rfl, wn_X6, by decide, by decide, by decide +kernel⟩, tk_mem 618 (by decide +kernel) rfl, tk_mem 18 (by decide +kernel) rfl⟩
def M_X6_rate : tk_Md := (yX6_rate, cX6_rate, 3, (some .int), { frames := 5, cells := 0, slots := 0, locals := 107 })
theorem mv_X6_rate : tk_MV M_X6_rate 2 := ⟨⟨tk_mem 590 (by decide +kernel) rfl, wn_X6, by decide, by decide, by decide +kernel⟩, tk_mem 588 (by decide +kernel) rfl, tk_mem 589 (by decide +kernel) rfl⟩
def M_X6_keep : tk_Md := (yX6_keep, cX6_keep, 2, (some .int), { frames := 1, cells := 0, slots := 0, locals := 23 })
theorem mv_X6_keep : tk_MV M_X6_keep 1 := ⟨⟨tk_mem 624 (by decide +kernel) rfl, wn_X6, by decide, by decide, by decide +kernel⟩, tk_mem 622 (by decide +kernel) rfl, tk_mem 623 (by decide +kernel) rfl⟩
def M_X6_back : tk_Md := (yX6_back, cX6_back, 2, (some .int), { frames := 1, cells := 0, slots := 0, locals := 23 })
theorem mv_X6_back : tk_MV M_X6_back 1 := ⟨⟨tk_mem 628 (by decide +kernel) rfl, wn_X6, by decide, by decide, by decide +kernel⟩, tk_mem 626 (by decide +kernel) rfl, tk_mem 627 (by decide +kernel) rfl⟩
def M_X6_count : tk_Md := (yX6_count, cX6_count, 2, (some .int), { frames := 0, cells := 0, slots := 0, locals := 0 })
theorem mv_X6_count : tk_MV M_X6_count 1 := ⟨⟨tk_mem 632 (by decide +kernel) rfl, wn_X6, by decide, by decide, by decide +kernel⟩, tk_mem 630 (by decide +kernel) rfl, tk_mem 631 (by decide +kernel) rfl⟩
def M_X6_trace : tk_Md := (yX6_trace, cX6_trace, 1, (some .long), { frames := 0, cells := 0, slots := 0, locals := 0 })
theorem mv_X6_trace : tk_MV M_X6_trace 0 := ⟨⟨tk_mem 636 (by decide +kernel) rfl, wn_X6, by decide, by decide, by decide +kernel⟩, tk_mem 634 (by decide +kernel) rfl, tk_mem 635 (by decide +kernel) rfl⟩
def M_X7_begins : tk_Md := (yX7_begins, cX7_begins, 1, none, { frames := 0, cells := 0, slots := 0, locals := 0 })
theorem mv_X7_begins : tk_MV M_X7_begins 0 := ⟨⟨tk_mem 646 (by decide +kernel) rfl, wn_X7, by decide, by decide, by decide +kernel⟩, tk_mem 645 (by decide +kernel) rfl, tk_mem 19 (by decide +kernel) rfl⟩
def M_X7_settles : tk_Md := (yX7_settles, cX7_settles, 2, none, { frames := 0, cells := 0, slots := 0, locals := 0 })
theorem mv_X7_settles : tk_MV M_X7_settles 0 := ⟨⟨tk_mem 650 (by decide +kernel) rfl, wn_X7, by decide, by decide, by decide +kernel⟩, tk_mem 649 (by decide +kernel) rfl, tk_mem 20 (by decide +kernel) rfl⟩
def M_X7_init : tk_Md := (yX7_init, cX7_init, 1, none, { frames := 1, cells := 15, slots := 424, locals := 21 })
theorem mv_X7_init : tk_MI M_X7_init 0 := ⟨⟨tk_mem 641 (by decide +kernel) rfl, wn_X7, by decide, by decide, by decide +kernel⟩, tk_mem 640 (by decide +kernel) rfl, rfl, rfl⟩
def M_X7_in : tk_Md := (yX7_in, cX7_in, 3, (some .boolean), { frames := 0, cells := 0, slots := 0, locals := 0 })
theorem mv_X7_in : tk_MS M_X7_in 3 := ⟨⟨tk_mem 745 (by decide +kernel) rfl, wn_X7, by decide, by decide, by decide +kernel⟩, tk_mem 744 (by decide +kernel) rfl⟩
def M_X7_ones : tk_Md := (yX7_ones, cX7_ones, 3, (some .int), { frames := 0, cells := 0, slots := 0, locals := 0 })
theorem mv_X7_ones : tk_MS M_X7_ones 1 := ⟨⟨tk_mem 841 (by decide +kernel) rfl, wn_X7, by decide, by decide, by decide +kernel⟩, tk_mem 840 (by decide +kernel) rfl⟩
def M_X7_type : tk_Md := (yX7_type, cX7_type, 2, (some .int), { frames := 1, cells := 0, slots := 0, locals := 22 })
theorem mv_X7_type : tk_MV M_X7_type 1 := ⟨⟨tk_mem 742 (by decide +kernel) rfl, wn_X7, by decide, by decide, by decide +kernel⟩, tk_mem 740 (by decide +kernel) rfl, tk_mem 741 (by decide +kernel) rfl⟩
def M_X7_clear : tk_Md := (yX7_clear, cX7_clear, 2, (some .int), { frames := 0, cells := 0, slots := 0, locals := 0 })
theorem mv_X7_clear : tk_MV M_X7_clear 0 := ⟨⟨tk_mem 749 (by decide +kernel) rfl, wn_X7, by decide, by decide, by decide +kernel⟩, tk_mem 747 (by decide +kernel) rfl, tk_mem 748 (by decide +kernel) rfl⟩
def M_X7_letterAt : tk_Md := (yX7_letterAt, cX7_letterAt, 2, (some .int), { frames := 0, cells := 0, slots := 0, locals := 0 })
theorem mv_X7_letterAt : tk_MV M_X7_letterAt 1 := ⟨⟨tk_mem 761 (by decide +kernel) rfl, wn_X7, by decide, by decide, by decide +kernel⟩, tk_mem 760 (by decide +kernel) rfl, tk_mem 22 (by decide +kernel) rfl⟩
def M_X7_advances : tk_Md := (yX7_advances, cX7_advances, 2, none, { frames := 1, cells := 0, slots := 0, locals := 22 })
theorem mv_X7_advances : tk_MV M_X7_advances 0 := ⟨⟨tk_mem 757 (by decide +kernel) rfl, wn_X7, by decide, by decide, by decide +kernel⟩, tk_mem 756 (by decide +kernel) rfl, tk_mem 21 (by decide +kernel) rfl⟩
def M_X7_isWell : tk_Md := (yX7_isWell, cX7_isWell, 1, (some .boolean), { frames := 0, cells := 0, slots := 0, locals := 0 })
theorem mv_X7_isWell : tk_MV M_X7_isWell 0 := ⟨⟨tk_mem 765 (by decide +kernel) rfl, wn_X7, by decide, by decide, by decide +kernel⟩, tk_mem 764 (by decide +kernel) rfl, tk_mem 23 (by decide +kernel) rfl⟩
def M_X7_takes : tk_Md := (yX7_takes, cX7_takes, 3, (some .int), { frames := 2, cells := 0, slots := 0, locals := 43 })
theorem mv_X7_takes : tk_MV M_X7_takes 1 := ⟨⟨tk_mem 773 (by decide +kernel) rfl, wn_X7, by decide, by decide, by decide +kernel⟩, tk_mem 772 (by decide +kernel) rfl, tk_mem 25 (by decide +kernel) rfl⟩
def M_X7_number : tk_Md := (yX7_number, cX7_number, 3, (some .int), { frames := 3, cells := 0, slots := 0, locals := 65 })
theorem mv_X7_number : tk_MV M_X7_number 2 := ⟨⟨tk_mem 781 (by decide +kernel) rfl, wn_X7, by decide, by decide, by decide +kernel⟩, tk_mem 780 (by decide +kernel) rfl, tk_mem 27 (by decide +kernel) rfl⟩
def M_X7_mayBegin : tk_Md := (yX7_mayBegin, cX7_mayBegin, 1, (some .boolean), { frames := 0, cells := 0, slots := 0, locals := 0 })
theorem mv_X7_mayBegin : tk_MV M_X7_mayBegin 0 := ⟨⟨tk_mem 769 (by decide +kernel) rfl, wn_X7, by decide, by decide, by decide +kernel⟩, tk_mem 768 (by decide +kernel) rfl, tk_mem 24 (by decide +kernel) rfl⟩
def M_X7_readsItem : tk_Md := (yX7_readsItem, cX7_readsItem, 6, none, { frames := 4, cells := 0, slots := 0, locals := 87 })
theorem mv_X7_readsItem : tk_MV M_X7_readsItem 1 := ⟨⟨tk_mem 777 (by decide +kernel) rfl, wn_X7, by decide, by decide, by decide +kernel⟩, tk_mem 776 (by decide +kernel) rfl, tk_mem 26 (by decide +kernel) rfl⟩
def M_X7_towns : tk_Md := (yX7_towns, cX7_towns, 3, (some .int), { frames := 5, cells := 0, slots := 0, locals := 112 })
theorem mv_X7_towns : tk_MV M_X7_towns 0 := ⟨⟨tk_mem 753 (by decide +kernel) rfl, wn_X7, by decide, by decide, by decide +kernel⟩, tk_mem 751 (by decide +kernel) rfl, tk_mem 752 (by decide +kernel) rfl⟩
def M_X7_isKerb : tk_Md := (yX7_isKerb, cX7_isKerb, 2, (some .boolean), { frames := 1, cells := 0, slots := 0, locals := 22 })
theorem mv_X7_isKerb : tk_MV M_X7_isKerb 1 := ⟨⟨tk_mem 789 (by decide +kernel) rfl, wn_X7, by decide, by decide, by decide +kernel⟩, tk_mem 788 (by decide +kernel) rfl, tk_mem 28 (by decide +kernel) rfl⟩
def M_X7_isThing : tk_Md := (yX7_isThing, cX7_isThing, 2, (some .boolean), { frames := 1, cells := 0, slots := 0, locals := 22 })
theorem mv_X7_isThing : tk_MV M_X7_isThing 1 := ⟨⟨tk_mem 801 (by decide +kernel) rfl, wn_X7, by decide, by decide, by decide +kernel⟩, tk_mem 800 (by decide +kernel) rfl, tk_mem 30 (by decide +kernel) rfl⟩
def M_X7_isTied : tk_Md := (yX7_isTied, cX7_isTied, 2, (some .boolean), { frames := 0, cells := 0, slots := 0, locals := 0 })
theorem mv_X7_isTied : tk_MV M_X7_isTied 1 := ⟨⟨tk_mem 829 (by decide +kernel) rfl, wn_X7, by decide, by decide, by decide +kernel⟩, tk_mem 828 (by decide +kernel) rfl, tk_mem 35 (by decide +kernel) rfl⟩
def M_X7_levelOf : tk_Md := (yX7_levelOf, cX7_levelOf, 2, (some .int), { frames := 0, cells := 0, slots := 0, locals := 0 })
theorem mv_X7_levelOf : tk_MV M_X7_levelOf 1 := ⟨⟨tk_mem 809 (by decide +kernel) rfl, wn_X7, by decide, by decide, by decide +kernel⟩, tk_mem 808 (by decide +kernel) rfl, tk_mem 31 (by decide +kernel) rfl⟩
def M_X7_floodIn : tk_Md := (yX7_floodIn, cX7_floodIn, 4, (some .int), { frames := 1, cells := 0, slots := 0, locals := 21 })
theorem mv_X7_floodIn : tk_MV M_X7_floodIn 1 := ⟨⟨tk_mem 813 (by decide +kernel) rfl, wn_X7, by decide, by decide, by decide +kernel⟩, tk_mem 812 (by decide +kernel) rfl, tk_mem 32 (by decide +kernel) rfl⟩
def M_X7_thingsOn : tk_Md := (yX7_thingsOn, cX7_thingsOn, 4, (some .int), { frames := 0, cells := 0, slots := 0, locals := 0 })
theorem mv_X7_thingsOn : tk_MV M_X7_thingsOn 1 := ⟨⟨tk_mem 793 (by decide +kernel) rfl, wn_X7, by decide, by decide, by decide +kernel⟩, tk_mem 792 (by decide +kernel) rfl, tk_mem 29 (by decide +kernel) rfl⟩
def M_X7_kerb : tk_Md := (yX7_kerb, cX7_kerb, 3, (some .int), { frames := 2, cells := 0, slots := 0, locals := 43 })
theorem mv_X7_kerb : tk_MV M_X7_kerb 2 := ⟨⟨tk_mem 785 (by decide +kernel) rfl, wn_X7, by decide, by decide, by decide +kernel⟩, tk_mem 783 (by decide +kernel) rfl, tk_mem 784 (by decide +kernel) rfl⟩
def M_X7_thing : tk_Md := (yX7_thing, cX7_thing, 3, (some .int), { frames := 2, cells := 0, slots := 0, locals := 43 })
theorem mv_X7_thing : tk_MV M_X7_thing 2 := ⟨⟨tk_mem 797 (by decide +kernel) rfl, wn_X7, by decide, by decide, by decide +kernel⟩, tk_mem 795 (by decide +kernel) rfl, tk_mem 796 (by decide +kernel) rfl⟩
def M_X7_now : tk_Md := (yX7_now, cX7_now, 2, (some .int), { frames := 2, cells := 0, slots := 0, locals := 44 })
theorem mv_X7_now : tk_MV M_X7_now 1 := ⟨⟨tk_mem 805 (by decide +kernel) rfl, wn_X7, by decide, by decide, by decide +kernel⟩, tk_mem 803 (by decide +kernel) rfl, tk_mem 804 (by decide +kernel) rfl⟩
def M_X7_notes : tk_Md := (yX7_notes, cX7_notes, 2, none, { frames := 0, cells := 0, slots := 0, locals := 0 })
theorem mv_X7_notes : tk_MV M_X7_notes 0 := ⟨⟨tk_mem 821 (by decide +kernel) rfl, wn_X7, by decide, by decide, by decide +kernel⟩, tk_mem 820 (by decide +kernel) rfl, tk_mem 33 (by decide +kernel) rfl⟩
def M_X7_goes : tk_Md := (yX7_goes, cX7_goes, 3, (some .boolean), { frames := 0, cells := 0, slots := 0, locals := 0 })
theorem mv_X7_goes : tk_MV M_X7_goes 1 := ⟨⟨tk_mem 833 (by decide +kernel) rfl, wn_X7, by decide, by decide, by decide +kernel⟩, tk_mem 832 (by decide +kernel) rfl, tk_mem 36 (by decide +kernel) rfl⟩
def M_X7_takesUp : tk_Md := (yX7_takesUp, cX7_takesUp, 2, none, { frames := 0, cells := 0, slots := 0, locals := 0 })
theorem mv_X7_takesUp : tk_MV M_X7_takesUp 1 := ⟨⟨tk_mem 825 (by decide +kernel) rfl, wn_X7, by decide, by decide, by decide +kernel⟩, tk_mem 824 (by decide +kernel) rfl, tk_mem 34 (by decide +kernel) rfl⟩
def M_X7_tides : tk_Md := (yX7_tides, cX7_tides, 5, (some .int), { frames := 1, cells := 0, slots := 0, locals := 22 })
theorem mv_X7_tides : tk_MV M_X7_tides 1 := ⟨⟨tk_mem 817 (by decide +kernel) rfl, wn_X7, by decide, by decide, by decide +kernel⟩, tk_mem 815 (by decide +kernel) rfl, tk_mem 816 (by decide +kernel) rfl⟩
def M_X7_ties : tk_Md := (yX7_ties, cX7_ties, 3, (some .int), { frames := 2, cells := 0, slots := 0, locals := 43 })
theorem mv_X7_ties : tk_MV M_X7_ties 2 := ⟨⟨tk_mem 838 (by decide +kernel) rfl, wn_X7, by decide, by decide, by decide +kernel⟩, tk_mem 836 (by decide +kernel) rfl, tk_mem 837 (by decide +kernel) rfl⟩
def M_X7_carries : tk_Md := (yX7_carries, cX7_carries, 4, (some .int), { frames := 2, cells := 0, slots := 0, locals := 43 })
theorem mv_X7_carries : tk_MV M_X7_carries 2 := ⟨⟨tk_mem 845 (by decide +kernel) rfl, wn_X7, by decide, by decide, by decide +kernel⟩, tk_mem 843 (by decide +kernel) rfl, tk_mem 844 (by decide +kernel) rfl⟩
def M_X7_undo : tk_Md := (yX7_undo, cX7_undo, 2, (some .int), { frames := 0, cells := 0, slots := 0, locals := 0 })
theorem mv_X7_undo : tk_MV M_X7_undo 0 := ⟨⟨tk_mem 849 (by decide +kernel) rfl, wn_X7, by decide, by decide, by decide +kernel⟩, tk_mem 847 (by decide +kernel) rfl, tk_mem 848 (by decide +kernel) rfl⟩
def M_X7_level : tk_Md := (yX7_level, cX7_level, 2, (some .int), { frames := 1, cells := 0, slots := 0, locals := 22 })
theorem mv_X7_level : tk_MV M_X7_level 1 := ⟨⟨tk_mem 853 (by decide +kernel) rfl, wn_X7, by decide, by decide, by decide +kernel⟩, tk_mem 851 (by decide +kernel) rfl, tk_mem 852 (by decide +kernel) rfl⟩
def M_X7_high : tk_Md := (yX7_high, cX7_high, 3, (some .int), { frames := 1, cells := 0, slots := 0, locals := 22 })
theorem mv_X7_high : tk_MV M_X7_high 1 := ⟨⟨tk_mem 857 (by decide +kernel) rfl, wn_X7, by decide, by decide, by decide +kernel⟩, tk_mem 855 (by decide +kernel) rfl, tk_mem 856 (by decide +kernel) rfl⟩
def M_X7_flood : tk_Md := (yX7_flood, cX7_flood, 2, (some .int), { frames := 2, cells := 0, slots := 0, locals := 44 })
theorem mv_X7_flood : tk_MV M_X7_flood 1 := ⟨⟨tk_mem 861 (by decide +kernel) rfl, wn_X7, by decide, by decide, by decide +kernel⟩, tk_mem 859 (by decide +kernel) rfl, tk_mem 860 (by decide +kernel) rfl⟩
def M_X7_where : tk_Md := (yX7_where, cX7_where, 4, (some .int), { frames := 2, cells := 0, slots := 0, locals := 43 })
theorem mv_X7_where : tk_MV M_X7_where 2 := ⟨⟨tk_mem 865 (by decide +kernel) rfl, wn_X7, by decide, by decide, by decide +kernel⟩, tk_mem 863 (by decide +kernel) rfl, tk_mem 864 (by decide +kernel) rfl⟩
def M_X7_soon : tk_Md := (yX7_soon, cX7_soon, 4, (some .int), { frames := 1, cells := 0, slots := 0, locals := 22 })
theorem mv_X7_soon : tk_MV M_X7_soon 2 := ⟨⟨tk_mem 873 (by decide +kernel) rfl, wn_X7, by decide, by decide, by decide +kernel⟩, tk_mem 872 (by decide +kernel) rfl, tk_mem 37 (by decide +kernel) rfl⟩
def M_X7_when : tk_Md := (yX7_when, cX7_when, 4, (some .int), { frames := 2, cells := 0, slots := 0, locals := 45 })
theorem mv_X7_when : tk_MV M_X7_when 2 := ⟨⟨tk_mem 869 (by decide +kernel) rfl, wn_X7, by decide, by decide, by decide +kernel⟩, tk_mem 867 (by decide +kernel) rfl, tk_mem 868 (by decide +kernel) rfl⟩
def M_X7_send : tk_Md := (yX7_send, cX7_send, 9, (some .int), { frames := 2, cells := 0, slots := 0, locals := 45 })
theorem mv_X7_send : tk_MV M_X7_send 3 := ⟨⟨tk_mem 877 (by decide +kernel) rfl, wn_X7, by decide, by decide, by decide +kernel⟩, tk_mem 875 (by decide +kernel) rfl, tk_mem 876 (by decide +kernel) rfl⟩
def M_X7_meet : tk_Md := (yX7_meet, cX7_meet, 8, (some .int), { frames := 2, cells := 0, slots := 0, locals := 43 })
theorem mv_X7_meet : tk_MV M_X7_meet 2 := ⟨⟨tk_mem 881 (by decide +kernel) rfl, wn_X7, by decide, by decide, by decide +kernel⟩, tk_mem 879 (by decide +kernel) rfl, tk_mem 880 (by decide +kernel) rfl⟩
def M_X7_round : tk_Md := (yX7_round, cX7_round, 6, (some .int), { frames := 2, cells := 0, slots := 0, locals := 43 })
theorem mv_X7_round : tk_MV M_X7_round 1 := ⟨⟨tk_mem 885 (by decide +kernel) rfl, wn_X7, by decide, by decide, by decide +kernel⟩, tk_mem 883 (by decide +kernel) rfl, tk_mem 884 (by decide +kernel) rfl⟩
def M_X7_gcd : tk_Md := (yX7_gcd, cX7_gcd, 5, (some .int), { frames := 0, cells := 0, slots := 0, locals := 0 })
theorem mv_X7_gcd : tk_MS M_X7_gcd 2 := ⟨⟨tk_mem 892 (by decide +kernel) rfl, wn_X7, by decide, by decide, by decide +kernel⟩, tk_mem 891 (by decide +kernel) rfl⟩
def M_X7_odds : tk_Md := (yX7_odds, cX7_odds, 12, (some .int), { frames := 2, cells := 0, slots := 0, locals := 43 })
theorem mv_X7_odds : tk_MV M_X7_odds 5 := ⟨⟨tk_mem 889 (by decide +kernel) rfl, wn_X7, by decide, by decide, by decide +kernel⟩, tk_mem 887 (by decide +kernel) rfl, tk_mem 888 (by decide +kernel) rfl⟩
def M_X7_found : tk_Md := (yX7_found, cX7_found, 3, (some .int), { frames := 2, cells := 0, slots := 0, locals := 43 })
theorem mv_X7_found : tk_MV M_X7_found 2 := ⟨⟨tk_mem 896 (by decide +kernel) rfl, wn_X7, by decide, by decide, by decide +kernel⟩, tk_mem 894 (by decide +kernel) rfl, tk_mem 895 (by decide +kernel) rfl⟩
def M_X7_canBegin : tk_Md := (yX7_canBegin, cX7_canBegin, 5, (some .boolean), { frames := 1, cells := 0, slots := 0, locals := 22 })
theorem mv_X7_canBegin : tk_MV M_X7_canBegin 1 := ⟨⟨tk_mem 904 (by decide +kernel) rfl, wn_X7, by decide, by decide, by decide +kernel⟩, tk_mem 903 (by decide +kernel) rfl, tk_mem 38 (by decide +kernel) rfl⟩
def M_X7_began : tk_Md := (yX7_began, cX7_began, 3, (some .int), { frames := 2, cells := 0, slots := 0, locals := 46 })
theorem mv_X7_began : tk_MV M_X7_began 0 := ⟨⟨tk_mem 900 (by decide +kernel) rfl, wn_X7, by decide, by decide, by decide +kernel⟩, tk_mem 898 (by decide +kernel) rfl, tk_mem 899 (by decide +kernel) rfl⟩
def M_X7_saw : tk_Md := (yX7_saw, cX7_saw, 3, (some .int), { frames := 1, cells := 0, slots := 0, locals := 22 })
theorem mv_X7_saw : tk_MV M_X7_saw 2 := ⟨⟨tk_mem 908 (by decide +kernel) rfl, wn_X7, by decide, by decide, by decide +kernel⟩, tk_mem 906 (by decide +kernel) rfl, tk_mem 907 (by decide +kernel) rfl⟩
def M_X7_laws : tk_Md := (yX7_laws, cX7_laws, 8, (some .int), { frames := 1, cells := 0, slots := 0, locals := 22 })
theorem mv_X7_laws : tk_MV M_X7_laws 1 := ⟨⟨tk_mem 912 (by decide +kernel) rfl, wn_X7, by decide, by decide, by decide +kernel⟩, tk_mem 910 (by decide +kernel) rfl, tk_mem 911 (by decide +kernel) rfl⟩
def M_X7_forget : tk_Md := (yX7_forget, cX7_forget, 2, (some .int), { frames := 0, cells := 0, slots := 0, locals := 0 })
theorem mv_X7_forget : tk_MV M_X7_forget 0 := ⟨⟨tk_mem 916 (by decide +kernel) rfl, wn_X7, by decide, by decide, by decide +kernel⟩, tk_mem 914 (by decide +kernel) rfl, tk_mem 915 (by decide +kernel) rfl⟩
def M_X7_rate : tk_Md := (yX7_rate, cX7_rate, 6, (some .int), { frames := 2, cells := 0, slots := 0, locals := 43 })
theorem mv_X7_rate : tk_MV M_X7_rate 2 := ⟨⟨tk_mem 920 (by decide +kernel) rfl, wn_X7, by decide, by decide, by decide +kernel⟩, tk_mem 918 (by decide +kernel) rfl, tk_mem 919 (by decide +kernel) rfl⟩
def M_X7_keep : tk_Md := (yX7_keep, cX7_keep, 3, (some .int), { frames := 1, cells := 0, slots := 0, locals := 22 })
theorem mv_X7_keep : tk_MV M_X7_keep 1 := ⟨⟨tk_mem 930 (by decide +kernel) rfl, wn_X7, by decide, by decide, by decide +kernel⟩, tk_mem 928 (by decide +kernel) rfl, tk_mem 929 (by decide +kernel) rfl⟩
def M_X7_back : tk_Md := (yX7_back, cX7_back, 3, (some .int), { frames := 1, cells := 0, slots := 0, locals := 22 })
theorem mv_X7_back : tk_MV M_X7_back 1 := ⟨⟨tk_mem 934 (by decide +kernel) rfl, wn_X7, by decide, by decide, by decide +kernel⟩, tk_mem 932 (by decide +kernel) rfl, tk_mem 933 (by decide +kernel) rfl⟩
def M_X7_count : tk_Md := (yX7_count, cX7_count, 2, (some .int), { frames := 1, cells := 0, slots := 0, locals := 22 })
theorem mv_X7_count : tk_MV M_X7_count 1 := ⟨⟨tk_mem 938 (by decide +kernel) rfl, wn_X7, by decide, by decide, by decide +kernel⟩, tk_mem 936 (by decide +kernel) rfl, tk_mem 937 (by decide +kernel) rfl⟩
def M_X7_trace : tk_Md := (yX7_trace, cX7_trace, 1, (some .long), { frames := 0, cells := 0, slots := 0, locals := 0 })
theorem mv_X7_trace : tk_MV M_X7_trace 0 := ⟨⟨tk_mem 942 (by decide +kernel) rfl, wn_X7, by decide, by decide, by decide +kernel⟩, tk_mem 940 (by decide +kernel) rfl, tk_mem 941 (by decide +kernel) rfl⟩
def M_L_law : tk_Md := (x, cL_law, 4, some .boolean, room_1)
