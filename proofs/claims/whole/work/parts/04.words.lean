theorem in_X0 : ∀ w ∈ u_ws RX0 TX0 5, w ∈ g_T := by decide +kernel
theorem in_X2 : ∀ w ∈ u_ws RX2 TX2 1, w ∈ g_T := by decide +kernel
theorem in_X7 : ∀ w ∈ u_ws RX7 TX7 6, w ∈ g_T := by decide +kernel
theorem in_X8 : ∀ w ∈ u_ws RX8 TX8 8, w ∈ g_T := by decide +kernel
theorem in_X9 : ∀ w ∈ u_ws RX9 TX9 18, w ∈ g_T := by decide +kernel
theorem in_X11 : ∀ w ∈ u_ws RX11 TX11 14, w ∈ g_T := by decide +kernel
theorem in_X12 : ∀ w ∈ u_ws RX12 TX12 45, w ∈ g_T := by decide +kernel
theorem fl_X11_10 : g_FL RX11 10 11 0 14 := ⟨RX11, TX11, rfl, in_X11, by decide, g_T_mem (i := 350) (w := .fieldLink RX11 10 (TX11 0).1 (TX11 0).2.1 (TX11 0).2.2.1) (by decide +kernel) (by decide +kernel), tyX11_ok, nmX11⟩
theorem fl_X11_16 : g_FL RX11 16 11 1 14 := ⟨RX11, TX11, rfl, in_X11, by decide, g_T_mem (i := 351) (w := .fieldLink RX11 16 (TX11 1).1 (TX11 1).2.1 (TX11 1).2.2.1) (by decide +kernel) (by decide +kernel), tyX11_ok, nmX11⟩
theorem fl_X11_24 : g_FL RX11 24 11 2 14 := ⟨RX11, TX11, rfl, in_X11, by decide, g_T_mem (i := 352) (w := .fieldLink RX11 24 (TX11 2).1 (TX11 2).2.1 (TX11 2).2.2.1) (by decide +kernel) (by decide +kernel), tyX11_ok, nmX11⟩
theorem fl_X11_31 : g_FL RX11 31 11 3 14 := ⟨RX11, TX11, rfl, in_X11, by decide, g_T_mem (i := 353) (w := .fieldLink RX11 31 (TX11 3).1 (TX11 3).2.1 (TX11 3).2.2.1) (by decide +kernel) (by decide +kernel), tyX11_ok, nmX11⟩
theorem fl_X11_38 : g_FL RX11 38 11 4 14 := ⟨RX11, TX11, rfl, in_X11, by decide, g_T_mem (i := 354) (w := .fieldLink RX11 38 (TX11 4).1 (TX11 4).2.1 (TX11 4).2.2.1) (by decide +kernel) (by decide +kernel), tyX11_ok, nmX11⟩
theorem fl_X11_42 : g_FL RX11 42 11 5 14 := ⟨RX11, TX11, rfl, in_X11, by decide, g_T_mem (i := 355) (w := .fieldLink RX11 42 (TX11 5).1 (TX11 5).2.1 (TX11 5).2.2.1) (by decide +kernel) (by decide +kernel), tyX11_ok, nmX11⟩
theorem fl_X11_46 : g_FL RX11 46 11 6 14 := ⟨RX11, TX11, rfl, in_X11, by decide, g_T_mem (i := 356) (w := .fieldLink RX11 46 (TX11 6).1 (TX11 6).2.1 (TX11 6).2.2.1) (by decide +kernel) (by decide +kernel), tyX11_ok, nmX11⟩
theorem fl_X11_49 : g_FL RX11 49 11 7 14 := ⟨RX11, TX11, rfl, in_X11, by decide, g_T_mem (i := 357) (w := .fieldLink RX11 49 (TX11 7).1 (TX11 7).2.1 (TX11 7).2.2.1) (by decide +kernel) (by decide +kernel), tyX11_ok, nmX11⟩
theorem fl_X11_54 : g_FL RX11 54 11 8 14 := ⟨RX11, TX11, rfl, in_X11, by decide, g_T_mem (i := 358) (w := .fieldLink RX11 54 (TX11 8).1 (TX11 8).2.1 (TX11 8).2.2.1) (by decide +kernel) (by decide +kernel), tyX11_ok, nmX11⟩
theorem fl_X11_57 : g_FL RX11 57 11 9 14 := ⟨RX11, TX11, rfl, in_X11, by decide, g_T_mem (i := 359) (w := .fieldLink RX11 57 (TX11 9).1 (TX11 9).2.1 (TX11 9).2.2.1) (by decide +kernel) (by decide +kernel), tyX11_ok, nmX11⟩
theorem fl_X11_60 : g_FL RX11 60 11 10 14 := ⟨RX11, TX11, rfl, in_X11, by decide, g_T_mem (i := 360) (w := .fieldLink RX11 60 (TX11 10).1 (TX11 10).2.1 (TX11 10).2.2.1) (by decide +kernel) (by decide +kernel), tyX11_ok, nmX11⟩
theorem fl_X11_63 : g_FL RX11 63 11 11 14 := ⟨RX11, TX11, rfl, in_X11, by decide, g_T_mem (i := 361) (w := .fieldLink RX11 63 (TX11 11).1 (TX11 11).2.1 (TX11 11).2.2.1) (by decide +kernel) (by decide +kernel), tyX11_ok, nmX11⟩
theorem fl_X11_79 : g_FL RX11 79 9 11 18 := ⟨RX9, TX9, rfl, in_X9, by decide, g_T_mem (i := 218) (w := .fieldLink RX11 79 (TX9 11).1 (TX9 11).2.1 (TX9 11).2.2.1) (by decide +kernel) (by decide +kernel), tyX9_ok, nmX9⟩
theorem fl_X11_90 : g_FL RX11 90 9 1 18 := ⟨RX9, TX9, rfl, in_X9, by decide, g_T_mem (i := 204) (w := .fieldLink RX11 90 (TX9 1).1 (TX9 1).2.1 (TX9 1).2.2.1) (by decide +kernel) (by decide +kernel), tyX9_ok, nmX9⟩
theorem fl_X11_93 : g_FL RX11 93 9 2 18 := ⟨RX9, TX9, rfl, in_X9, by decide, g_T_mem (i := 206) (w := .fieldLink RX11 93 (TX9 2).1 (TX9 2).2.1 (TX9 2).2.2.1) (by decide +kernel) (by decide +kernel), tyX9_ok, nmX9⟩
theorem fl_X11_96 : g_FL RX11 96 9 3 18 := ⟨RX9, TX9, rfl, in_X9, by decide, g_T_mem (i := 208) (w := .fieldLink RX11 96 (TX9 3).1 (TX9 3).2.1 (TX9 3).2.2.1) (by decide +kernel) (by decide +kernel), tyX9_ok, nmX9⟩
theorem fl_X11_99 : g_FL RX11 99 9 4 18 := ⟨RX9, TX9, rfl, in_X9, by decide, g_T_mem (i := 210) (w := .fieldLink RX11 99 (TX9 4).1 (TX9 4).2.1 (TX9 4).2.2.1) (by decide +kernel) (by decide +kernel), tyX9_ok, nmX9⟩
theorem fl_X11_102 : g_FL RX11 102 9 12 18 := ⟨RX9, TX9, rfl, in_X9, by decide, g_T_mem (i := 223) (w := .fieldLink RX11 102 (TX9 12).1 (TX9 12).2.1 (TX9 12).2.2.1) (by decide +kernel) (by decide +kernel), tyX9_ok, nmX9⟩
theorem fl_X11_109 : g_FL RX11 109 9 13 18 := ⟨RX9, TX9, rfl, in_X9, by decide, g_T_mem (i := 226) (w := .fieldLink RX11 109 (TX9 13).1 (TX9 13).2.1 (TX9 13).2.2.1) (by decide +kernel) (by decide +kernel), tyX9_ok, nmX9⟩
theorem fl_X11_139 : g_FL RX11 139 9 14 18 := ⟨RX9, TX9, rfl, in_X9, by decide, g_T_mem (i := 229) (w := .fieldLink RX11 139 (TX9 14).1 (TX9 14).2.1 (TX9 14).2.2.1) (by decide +kernel) (by decide +kernel), tyX9_ok, nmX9⟩
theorem fl_X11_142 : g_FL RX11 142 9 15 18 := ⟨RX9, TX9, rfl, in_X9, by decide, g_T_mem (i := 231) (w := .fieldLink RX11 142 (TX9 15).1 (TX9 15).2.1 (TX9 15).2.2.1) (by decide +kernel) (by decide +kernel), tyX9_ok, nmX9⟩
theorem fl_X11_153 : g_FL RX11 153 8 6 8 := ⟨RX8, TX8, rfl, in_X8, by decide, g_T_mem (i := 296) (w := .fieldLink RX11 153 (TX8 6).1 (TX8 6).2.1 (TX8 6).2.2.1) (by decide +kernel) (by decide +kernel), tyX8_ok, nmX8⟩
theorem fl_X11_164 : g_FL RX11 164 8 7 8 := ⟨RX8, TX8, rfl, in_X8, by decide, g_T_mem (i := 298) (w := .fieldLink RX11 164 (TX8 7).1 (TX8 7).2.1 (TX8 7).2.2.1) (by decide +kernel) (by decide +kernel), tyX8_ok, nmX8⟩
theorem fl_X11_171 : g_FL RX11 171 7 4 6 := ⟨RX7, TX7, rfl, in_X7, by decide, g_T_mem (i := 185) (w := .fieldLink RX11 171 (TX7 4).1 (TX7 4).2.1 (TX7 4).2.2.1) (by decide +kernel) (by decide +kernel), tyX7_ok, nmX7⟩
theorem fl_X11_257 : g_FL RX11 257 9 17 18 := ⟨RX9, TX9, rfl, in_X9, by decide, g_T_mem (i := 235) (w := .fieldLink RX11 257 (TX9 17).1 (TX9 17).2.1 (TX9 17).2.2.1) (by decide +kernel) (by decide +kernel), tyX9_ok, nmX9⟩
theorem fl_X11_269 : g_FL RX11 269 9 16 18 := ⟨RX9, TX9, rfl, in_X9, by decide, g_T_mem (i := 233) (w := .fieldLink RX11 269 (TX9 16).1 (TX9 16).2.1 (TX9 16).2.2.1) (by decide +kernel) (by decide +kernel), tyX9_ok, nmX9⟩
theorem fl_X11_281 : g_FL RX11 281 11 12 14 := ⟨RX11, TX11, rfl, in_X11, by decide, g_T_mem (i := 362) (w := .fieldLink RX11 281 (TX11 12).1 (TX11 12).2.1 (TX11 12).2.2.1) (by decide +kernel) (by decide +kernel), tyX11_ok, nmX11⟩
theorem fl_X11_317 : g_FL RX11 317 0 2 5 := ⟨RX0, TX0, rfl, in_X0, by decide, g_T_mem (i := 329) (w := .fieldLink RX11 317 (TX0 2).1 (TX0 2).2.1 (TX0 2).2.2.1) (by decide +kernel) (by decide +kernel), tyX0_ok, nmX0⟩
theorem fl_X11_320 : g_FL RX11 320 0 3 5 := ⟨RX0, TX0, rfl, in_X0, by decide, g_T_mem (i := 332) (w := .fieldLink RX11 320 (TX0 3).1 (TX0 3).2.1 (TX0 3).2.2.1) (by decide +kernel) (by decide +kernel), tyX0_ok, nmX0⟩
theorem fl_X11_322 : g_FL RX11 322 9 0 18 := ⟨RX9, TX9, rfl, in_X9, by decide, g_T_mem (i := 202) (w := .fieldLink RX11 322 (TX9 0).1 (TX9 0).2.1 (TX9 0).2.2.1) (by decide +kernel) (by decide +kernel), tyX9_ok, nmX9⟩
theorem fl_X11_341 : g_FL RX11 341 0 4 5 := ⟨RX0, TX0, rfl, in_X0, by decide, g_T_mem (i := 336) (w := .fieldLink RX11 341 (TX0 4).1 (TX0 4).2.1 (TX0 4).2.2.1) (by decide +kernel) (by decide +kernel), tyX0_ok, nmX0⟩
theorem fl_X11_345 : g_FL RX11 345 0 1 5 := ⟨RX0, TX0, rfl, in_X0, by decide, g_T_mem (i := 325) (w := .fieldLink RX11 345 (TX0 1).1 (TX0 1).2.1 (TX0 1).2.2.1) (by decide +kernel) (by decide +kernel), tyX0_ok, nmX0⟩
theorem fl_X11_346 : g_FL RX11 346 0 0 5 := ⟨RX0, TX0, rfl, in_X0, by decide, g_T_mem (i := 323) (w := .fieldLink RX11 346 (TX0 0).1 (TX0 0).2.1 (TX0 0).2.2.1) (by decide +kernel) (by decide +kernel), tyX0_ok, nmX0⟩
theorem fl_X11_349 : g_FL RX11 349 9 10 18 := ⟨RX9, TX9, rfl, in_X9, by decide, g_T_mem (i := 217) (w := .fieldLink RX11 349 (TX9 10).1 (TX9 10).2.1 (TX9 10).2.2.1) (by decide +kernel) (by decide +kernel), tyX9_ok, nmX9⟩
theorem fl_X11_356 : g_FL RX11 356 11 13 14 := ⟨RX11, TX11, rfl, in_X11, by decide, g_T_mem (i := 363) (w := .fieldLink RX11 356 (TX11 13).1 (TX11 13).2.1 (TX11 13).2.2.1) (by decide +kernel) (by decide +kernel), tyX11_ok, nmX11⟩
theorem fl_X0_9 : g_FL RX0 9 0 0 5 := ⟨RX0, TX0, rfl, in_X0, by decide, g_T_mem (i := 322) (w := .fieldLink RX0 9 (TX0 0).1 (TX0 0).2.1 (TX0 0).2.2.1) (by decide +kernel) (by decide +kernel), tyX0_ok, nmX0⟩
theorem fl_X0_15 : g_FL RX0 15 0 1 5 := ⟨RX0, TX0, rfl, in_X0, by decide, g_T_mem (i := 324) (w := .fieldLink RX0 15 (TX0 1).1 (TX0 1).2.1 (TX0 1).2.2.1) (by decide +kernel) (by decide +kernel), tyX0_ok, nmX0⟩
theorem fl_X0_19 : g_FL RX0 19 0 4 5 := ⟨RX0, TX0, rfl, in_X0, by decide, g_T_mem (i := 333) (w := .fieldLink RX0 19 (TX0 4).1 (TX0 4).2.1 (TX0 4).2.2.1) (by decide +kernel) (by decide +kernel), tyX0_ok, nmX0⟩
theorem fl_X2_9 : g_FL RX2 9 2 0 1 := ⟨RX2, TX2, rfl, in_X2, by decide, g_T_mem (i := 279) (w := .fieldLink RX2 9 (TX2 0).1 (TX2 0).2.1 (TX2 0).2.2.1) (by decide +kernel) (by decide +kernel), tyX2_ok, nmX2⟩
theorem fl_X2_15 : g_FL RX2 15 9 12 18 := ⟨RX9, TX9, rfl, in_X9, by decide, g_T_mem (i := 221) (w := .fieldLink RX2 15 (TX9 12).1 (TX9 12).2.1 (TX9 12).2.2.1) (by decide +kernel) (by decide +kernel), tyX9_ok, nmX9⟩
theorem fl_X2_25 : g_FL RX2 25 9 13 18 := ⟨RX9, TX9, rfl, in_X9, by decide, g_T_mem (i := 224) (w := .fieldLink RX2 25 (TX9 13).1 (TX9 13).2.1 (TX9 13).2.2.1) (by decide +kernel) (by decide +kernel), tyX9_ok, nmX9⟩
theorem fl_X2_39 : g_FL RX2 39 9 14 18 := ⟨RX9, TX9, rfl, in_X9, by decide, g_T_mem (i := 228) (w := .fieldLink RX2 39 (TX9 14).1 (TX9 14).2.1 (TX9 14).2.2.1) (by decide +kernel) (by decide +kernel), tyX9_ok, nmX9⟩
theorem fl_X2_72 : g_FL RX2 72 9 11 18 := ⟨RX9, TX9, rfl, in_X9, by decide, g_T_mem (i := 220) (w := .fieldLink RX2 72 (TX9 11).1 (TX9 11).2.1 (TX9 11).2.2.1) (by decide +kernel) (by decide +kernel), tyX9_ok, nmX9⟩
theorem fl_X3_13 : g_FL RX3 13 0 2 5 := ⟨RX0, TX0, rfl, in_X0, by decide, g_T_mem (i := 326) (w := .fieldLink RX3 13 (TX0 2).1 (TX0 2).2.1 (TX0 2).2.2.1) (by decide +kernel) (by decide +kernel), tyX0_ok, nmX0⟩
theorem fl_X3_23 : g_FL RX3 23 0 3 5 := ⟨RX0, TX0, rfl, in_X0, by decide, g_T_mem (i := 331) (w := .fieldLink RX3 23 (TX0 3).1 (TX0 3).2.1 (TX0 3).2.2.1) (by decide +kernel) (by decide +kernel), tyX0_ok, nmX0⟩
theorem fl_X3_26 : g_FL RX3 26 0 4 5 := ⟨RX0, TX0, rfl, in_X0, by decide, g_T_mem (i := 335) (w := .fieldLink RX3 26 (TX0 4).1 (TX0 4).2.1 (TX0 4).2.2.1) (by decide +kernel) (by decide +kernel), tyX0_ok, nmX0⟩
theorem fl_X4_17 : g_FL RX4 17 0 3 5 := ⟨RX0, TX0, rfl, in_X0, by decide, g_T_mem (i := 330) (w := .fieldLink RX4 17 (TX0 3).1 (TX0 3).2.1 (TX0 3).2.2.1) (by decide +kernel) (by decide +kernel), tyX0_ok, nmX0⟩
theorem fl_X5_28 : g_FL RX5 28 0 4 5 := ⟨RX0, TX0, rfl, in_X0, by decide, g_T_mem (i := 334) (w := .fieldLink RX5 28 (TX0 4).1 (TX0 4).2.1 (TX0 4).2.2.1) (by decide +kernel) (by decide +kernel), tyX0_ok, nmX0⟩
theorem fl_X5_32 : g_FL RX5 32 0 2 5 := ⟨RX0, TX0, rfl, in_X0, by decide, g_T_mem (i := 328) (w := .fieldLink RX5 32 (TX0 2).1 (TX0 2).2.1 (TX0 2).2.2.1) (by decide +kernel) (by decide +kernel), tyX0_ok, nmX0⟩
theorem fl_X6_25 : g_FL RX6 25 0 2 5 := ⟨RX0, TX0, rfl, in_X0, by decide, g_T_mem (i := 327) (w := .fieldLink RX6 25 (TX0 2).1 (TX0 2).2.1 (TX0 2).2.2.1) (by decide +kernel) (by decide +kernel), tyX0_ok, nmX0⟩
theorem fl_X7_9 : g_FL RX7 9 7 0 6 := ⟨RX7, TX7, rfl, in_X7, by decide, g_T_mem (i := 180) (w := .fieldLink RX7 9 (TX7 0).1 (TX7 0).2.1 (TX7 0).2.2.1) (by decide +kernel) (by decide +kernel), tyX7_ok, nmX7⟩
theorem fl_X7_15 : g_FL RX7 15 7 1 6 := ⟨RX7, TX7, rfl, in_X7, by decide, g_T_mem (i := 181) (w := .fieldLink RX7 15 (TX7 1).1 (TX7 1).2.1 (TX7 1).2.2.1) (by decide +kernel) (by decide +kernel), tyX7_ok, nmX7⟩
theorem fl_X7_18 : g_FL RX7 18 7 2 6 := ⟨RX7, TX7, rfl, in_X7, by decide, g_T_mem (i := 182) (w := .fieldLink RX7 18 (TX7 2).1 (TX7 2).2.1 (TX7 2).2.2.1) (by decide +kernel) (by decide +kernel), tyX7_ok, nmX7⟩
theorem fl_X7_27 : g_FL RX7 27 7 3 6 := ⟨RX7, TX7, rfl, in_X7, by decide, g_T_mem (i := 183) (w := .fieldLink RX7 27 (TX7 3).1 (TX7 3).2.1 (TX7 3).2.2.1) (by decide +kernel) (by decide +kernel), tyX7_ok, nmX7⟩
theorem fl_X7_30 : g_FL RX7 30 7 4 6 := ⟨RX7, TX7, rfl, in_X7, by decide, g_T_mem (i := 184) (w := .fieldLink RX7 30 (TX7 4).1 (TX7 4).2.1 (TX7 4).2.2.1) (by decide +kernel) (by decide +kernel), tyX7_ok, nmX7⟩
theorem fl_X7_34 : g_FL RX7 34 7 5 6 := ⟨RX7, TX7, rfl, in_X7, by decide, g_T_mem (i := 186) (w := .fieldLink RX7 34 (TX7 5).1 (TX7 5).2.1 (TX7 5).2.2.1) (by decide +kernel) (by decide +kernel), tyX7_ok, nmX7⟩
theorem fl_X8_9 : g_FL RX8 9 8 0 8 := ⟨RX8, TX8, rfl, in_X8, by decide, g_T_mem (i := 289) (w := .fieldLink RX8 9 (TX8 0).1 (TX8 0).2.1 (TX8 0).2.2.1) (by decide +kernel) (by decide +kernel), tyX8_ok, nmX8⟩
theorem fl_X8_15 : g_FL RX8 15 8 1 8 := ⟨RX8, TX8, rfl, in_X8, by decide, g_T_mem (i := 290) (w := .fieldLink RX8 15 (TX8 1).1 (TX8 1).2.1 (TX8 1).2.2.1) (by decide +kernel) (by decide +kernel), tyX8_ok, nmX8⟩
theorem fl_X8_18 : g_FL RX8 18 8 2 8 := ⟨RX8, TX8, rfl, in_X8, by decide, g_T_mem (i := 291) (w := .fieldLink RX8 18 (TX8 2).1 (TX8 2).2.1 (TX8 2).2.2.1) (by decide +kernel) (by decide +kernel), tyX8_ok, nmX8⟩
theorem fl_X8_21 : g_FL RX8 21 8 3 8 := ⟨RX8, TX8, rfl, in_X8, by decide, g_T_mem (i := 292) (w := .fieldLink RX8 21 (TX8 3).1 (TX8 3).2.1 (TX8 3).2.2.1) (by decide +kernel) (by decide +kernel), tyX8_ok, nmX8⟩
theorem fl_X8_24 : g_FL RX8 24 8 6 8 := ⟨RX8, TX8, rfl, in_X8, by decide, g_T_mem (i := 295) (w := .fieldLink RX8 24 (TX8 6).1 (TX8 6).2.1 (TX8 6).2.2.1) (by decide +kernel) (by decide +kernel), tyX8_ok, nmX8⟩
theorem fl_X8_31 : g_FL RX8 31 8 5 8 := ⟨RX8, TX8, rfl, in_X8, by decide, g_T_mem (i := 294) (w := .fieldLink RX8 31 (TX8 5).1 (TX8 5).2.1 (TX8 5).2.2.1) (by decide +kernel) (by decide +kernel), tyX8_ok, nmX8⟩
theorem fl_X8_36 : g_FL RX8 36 8 4 8 := ⟨RX8, TX8, rfl, in_X8, by decide, g_T_mem (i := 293) (w := .fieldLink RX8 36 (TX8 4).1 (TX8 4).2.1 (TX8 4).2.2.1) (by decide +kernel) (by decide +kernel), tyX8_ok, nmX8⟩
theorem fl_X8_46 : g_FL RX8 46 8 7 8 := ⟨RX8, TX8, rfl, in_X8, by decide, g_T_mem (i := 297) (w := .fieldLink RX8 46 (TX8 7).1 (TX8 7).2.1 (TX8 7).2.2.1) (by decide +kernel) (by decide +kernel), tyX8_ok, nmX8⟩
theorem fl_X9_27 : g_FL RX9 27 9 0 18 := ⟨RX9, TX9, rfl, in_X9, by decide, g_T_mem (i := 201) (w := .fieldLink RX9 27 (TX9 0).1 (TX9 0).2.1 (TX9 0).2.2.1) (by decide +kernel) (by decide +kernel), tyX9_ok, nmX9⟩
theorem fl_X9_33 : g_FL RX9 33 9 1 18 := ⟨RX9, TX9, rfl, in_X9, by decide, g_T_mem (i := 203) (w := .fieldLink RX9 33 (TX9 1).1 (TX9 1).2.1 (TX9 1).2.2.1) (by decide +kernel) (by decide +kernel), tyX9_ok, nmX9⟩
theorem fl_X9_37 : g_FL RX9 37 9 2 18 := ⟨RX9, TX9, rfl, in_X9, by decide, g_T_mem (i := 205) (w := .fieldLink RX9 37 (TX9 2).1 (TX9 2).2.1 (TX9 2).2.2.1) (by decide +kernel) (by decide +kernel), tyX9_ok, nmX9⟩
theorem fl_X9_40 : g_FL RX9 40 9 3 18 := ⟨RX9, TX9, rfl, in_X9, by decide, g_T_mem (i := 207) (w := .fieldLink RX9 40 (TX9 3).1 (TX9 3).2.1 (TX9 3).2.2.1) (by decide +kernel) (by decide +kernel), tyX9_ok, nmX9⟩
theorem fl_X9_43 : g_FL RX9 43 9 4 18 := ⟨RX9, TX9, rfl, in_X9, by decide, g_T_mem (i := 209) (w := .fieldLink RX9 43 (TX9 4).1 (TX9 4).2.1 (TX9 4).2.2.1) (by decide +kernel) (by decide +kernel), tyX9_ok, nmX9⟩
theorem fl_X9_46 : g_FL RX9 46 9 5 18 := ⟨RX9, TX9, rfl, in_X9, by decide, g_T_mem (i := 211) (w := .fieldLink RX9 46 (TX9 5).1 (TX9 5).2.1 (TX9 5).2.2.1) (by decide +kernel) (by decide +kernel), tyX9_ok, nmX9⟩
theorem fl_X9_49 : g_FL RX9 49 9 6 18 := ⟨RX9, TX9, rfl, in_X9, by decide, g_T_mem (i := 212) (w := .fieldLink RX9 49 (TX9 6).1 (TX9 6).2.1 (TX9 6).2.2.1) (by decide +kernel) (by decide +kernel), tyX9_ok, nmX9⟩
theorem fl_X9_52 : g_FL RX9 52 9 7 18 := ⟨RX9, TX9, rfl, in_X9, by decide, g_T_mem (i := 213) (w := .fieldLink RX9 52 (TX9 7).1 (TX9 7).2.1 (TX9 7).2.2.1) (by decide +kernel) (by decide +kernel), tyX9_ok, nmX9⟩
theorem fl_X9_57 : g_FL RX9 57 9 8 18 := ⟨RX9, TX9, rfl, in_X9, by decide, g_T_mem (i := 214) (w := .fieldLink RX9 57 (TX9 8).1 (TX9 8).2.1 (TX9 8).2.2.1) (by decide +kernel) (by decide +kernel), tyX9_ok, nmX9⟩
theorem fl_X9_60 : g_FL RX9 60 9 9 18 := ⟨RX9, TX9, rfl, in_X9, by decide, g_T_mem (i := 215) (w := .fieldLink RX9 60 (TX9 9).1 (TX9 9).2.1 (TX9 9).2.2.1) (by decide +kernel) (by decide +kernel), tyX9_ok, nmX9⟩
theorem fl_X9_66 : g_FL RX9 66 9 10 18 := ⟨RX9, TX9, rfl, in_X9, by decide, g_T_mem (i := 216) (w := .fieldLink RX9 66 (TX9 10).1 (TX9 10).2.1 (TX9 10).2.2.1) (by decide +kernel) (by decide +kernel), tyX9_ok, nmX9⟩
theorem fl_X9_70 : g_FL RX9 70 9 14 18 := ⟨RX9, TX9, rfl, in_X9, by decide, g_T_mem (i := 227) (w := .fieldLink RX9 70 (TX9 14).1 (TX9 14).2.1 (TX9 14).2.2.1) (by decide +kernel) (by decide +kernel), tyX9_ok, nmX9⟩
theorem fl_X9_74 : g_FL RX9 74 9 16 18 := ⟨RX9, TX9, rfl, in_X9, by decide, g_T_mem (i := 232) (w := .fieldLink RX9 74 (TX9 16).1 (TX9 16).2.1 (TX9 16).2.2.1) (by decide +kernel) (by decide +kernel), tyX9_ok, nmX9⟩
theorem fl_X9_83 : g_FL RX9 83 9 11 18 := ⟨RX9, TX9, rfl, in_X9, by decide, g_T_mem (i := 219) (w := .fieldLink RX9 83 (TX9 11).1 (TX9 11).2.1 (TX9 11).2.2.1) (by decide +kernel) (by decide +kernel), tyX9_ok, nmX9⟩
theorem fl_X9_86 : g_FL RX9 86 9 12 18 := ⟨RX9, TX9, rfl, in_X9, by decide, g_T_mem (i := 222) (w := .fieldLink RX9 86 (TX9 12).1 (TX9 12).2.1 (TX9 12).2.2.1) (by decide +kernel) (by decide +kernel), tyX9_ok, nmX9⟩
theorem fl_X9_89 : g_FL RX9 89 9 13 18 := ⟨RX9, TX9, rfl, in_X9, by decide, g_T_mem (i := 225) (w := .fieldLink RX9 89 (TX9 13).1 (TX9 13).2.1 (TX9 13).2.2.1) (by decide +kernel) (by decide +kernel), tyX9_ok, nmX9⟩
theorem fl_X9_92 : g_FL RX9 92 9 15 18 := ⟨RX9, TX9, rfl, in_X9, by decide, g_T_mem (i := 230) (w := .fieldLink RX9 92 (TX9 15).1 (TX9 15).2.1 (TX9 15).2.2.1) (by decide +kernel) (by decide +kernel), tyX9_ok, nmX9⟩
theorem fl_X9_95 : g_FL RX9 95 9 17 18 := ⟨RX9, TX9, rfl, in_X9, by decide, g_T_mem (i := 234) (w := .fieldLink RX9 95 (TX9 17).1 (TX9 17).2.1 (TX9 17).2.2.1) (by decide +kernel) (by decide +kernel), tyX9_ok, nmX9⟩
theorem fl_X12_7 : g_FL RX12 7 12 0 45 := ⟨RX12, TX12, rfl, in_X12, by decide, g_T_mem (i := 1189) (w := .fieldLink RX12 7 (TX12 0).1 (TX12 0).2.1 (TX12 0).2.2.1) (by decide +kernel) (by decide +kernel), tyX12_ok, nmX12⟩
theorem fl_X12_13 : g_FL RX12 13 12 1 45 := ⟨RX12, TX12, rfl, in_X12, by decide, g_T_mem (i := 1190) (w := .fieldLink RX12 13 (TX12 1).1 (TX12 1).2.1 (TX12 1).2.2.1) (by decide +kernel) (by decide +kernel), tyX12_ok, nmX12⟩
theorem fl_X12_16 : g_FL RX12 16 12 3 45 := ⟨RX12, TX12, rfl, in_X12, by decide, g_T_mem (i := 1192) (w := .fieldLink RX12 16 (TX12 3).1 (TX12 3).2.1 (TX12 3).2.2.1) (by decide +kernel) (by decide +kernel), tyX12_ok, nmX12⟩
theorem fl_X12_19 : g_FL RX12 19 12 4 45 := ⟨RX12, TX12, rfl, in_X12, by decide, g_T_mem (i := 1193) (w := .fieldLink RX12 19 (TX12 4).1 (TX12 4).2.1 (TX12 4).2.2.1) (by decide +kernel) (by decide +kernel), tyX12_ok, nmX12⟩
theorem fl_X12_22 : g_FL RX12 22 12 6 45 := ⟨RX12, TX12, rfl, in_X12, by decide, g_T_mem (i := 1195) (w := .fieldLink RX12 22 (TX12 6).1 (TX12 6).2.1 (TX12 6).2.2.1) (by decide +kernel) (by decide +kernel), tyX12_ok, nmX12⟩
theorem fl_X12_25 : g_FL RX12 25 12 14 45 := ⟨RX12, TX12, rfl, in_X12, by decide, g_T_mem (i := 1203) (w := .fieldLink RX12 25 (TX12 14).1 (TX12 14).2.1 (TX12 14).2.2.1) (by decide +kernel) (by decide +kernel), tyX12_ok, nmX12⟩
theorem fl_X12_28 : g_FL RX12 28 12 16 45 := ⟨RX12, TX12, rfl, in_X12, by decide, g_T_mem (i := 1205) (w := .fieldLink RX12 28 (TX12 16).1 (TX12 16).2.1 (TX12 16).2.2.1) (by decide +kernel) (by decide +kernel), tyX12_ok, nmX12⟩
theorem fl_X12_31 : g_FL RX12 31 12 17 45 := ⟨RX12, TX12, rfl, in_X12, by decide, g_T_mem (i := 1206) (w := .fieldLink RX12 31 (TX12 17).1 (TX12 17).2.1 (TX12 17).2.2.1) (by decide +kernel) (by decide +kernel), tyX12_ok, nmX12⟩
theorem fl_X12_34 : g_FL RX12 34 12 20 45 := ⟨RX12, TX12, rfl, in_X12, by decide, g_T_mem (i := 1209) (w := .fieldLink RX12 34 (TX12 20).1 (TX12 20).2.1 (TX12 20).2.2.1) (by decide +kernel) (by decide +kernel), tyX12_ok, nmX12⟩
theorem fl_X12_37 : g_FL RX12 37 12 21 45 := ⟨RX12, TX12, rfl, in_X12, by decide, g_T_mem (i := 1210) (w := .fieldLink RX12 37 (TX12 21).1 (TX12 21).2.1 (TX12 21).2.2.1) (by decide +kernel) (by decide +kernel), tyX12_ok, nmX12⟩
theorem fl_X12_40 : g_FL RX12 40 12 31 45 := ⟨RX12, TX12, rfl, in_X12, by decide, g_T_mem (i := 1220) (w := .fieldLink RX12 40 (TX12 31).1 (TX12 31).2.1 (TX12 31).2.2.1) (by decide +kernel) (by decide +kernel), tyX12_ok, nmX12⟩
theorem fl_X12_43 : g_FL RX12 43 12 33 45 := ⟨RX12, TX12, rfl, in_X12, by decide, g_T_mem (i := 1222) (w := .fieldLink RX12 43 (TX12 33).1 (TX12 33).2.1 (TX12 33).2.2.1) (by decide +kernel) (by decide +kernel), tyX12_ok, nmX12⟩
theorem fl_X12_46 : g_FL RX12 46 12 34 45 := ⟨RX12, TX12, rfl, in_X12, by decide, g_T_mem (i := 1223) (w := .fieldLink RX12 46 (TX12 34).1 (TX12 34).2.1 (TX12 34).2.2.1) (by decide +kernel) (by decide +kernel), tyX12_ok, nmX12⟩
theorem fl_X12_49 : g_FL RX12 49 12 35 45 := ⟨RX12, TX12, rfl, in_X12, by decide, g_T_mem (i := 1224) (w := .fieldLink RX12 49 (TX12 35).1 (TX12 35).2.1 (TX12 35).2.2.1) (by decide +kernel) (by decide +kernel), tyX12_ok, nmX12⟩
theorem fl_X12_52 : g_FL RX12 52 12 36 45 := ⟨RX12, TX12, rfl, in_X12, by decide, g_T_mem (i := 1225) (w := .fieldLink RX12 52 (TX12 36).1 (TX12 36).2.1 (TX12 36).2.2.1) (by decide +kernel) (by decide +kernel), tyX12_ok, nmX12⟩
theorem fl_X12_55 : g_FL RX12 55 12 37 45 := ⟨RX12, TX12, rfl, in_X12, by decide, g_T_mem (i := 1226) (w := .fieldLink RX12 55 (TX12 37).1 (TX12 37).2.1 (TX12 37).2.2.1) (by decide +kernel) (by decide +kernel), tyX12_ok, nmX12⟩
theorem fl_X12_58 : g_FL RX12 58 12 38 45 := ⟨RX12, TX12, rfl, in_X12, by decide, g_T_mem (i := 1227) (w := .fieldLink RX12 58 (TX12 38).1 (TX12 38).2.1 (TX12 38).2.2.1) (by decide +kernel) (by decide +kernel), tyX12_ok, nmX12⟩
theorem fl_X12_61 : g_FL RX12 61 12 39 45 := ⟨RX12, TX12, rfl, in_X12, by decide, g_T_mem (i := 1228) (w := .fieldLink RX12 61 (TX12 39).1 (TX12 39).2.1 (TX12 39).2.2.1) (by decide +kernel) (by decide +kernel), tyX12_ok, nmX12⟩
theorem fl_X12_99 : g_FL RX12 99 12 7 45 := ⟨RX12, TX12, rfl, in_X12, by decide, g_T_mem (i := 1196) (w := .fieldLink RX12 99 (TX12 7).1 (TX12 7).2.1 (TX12 7).2.2.1) (by decide +kernel) (by decide +kernel), tyX12_ok, nmX12⟩
theorem fl_X12_143 : g_FL RX12 143 12 5 45 := ⟨RX12, TX12, rfl, in_X12, by decide, g_T_mem (i := 1194) (w := .fieldLink RX12 143 (TX12 5).1 (TX12 5).2.1 (TX12 5).2.2.1) (by decide +kernel) (by decide +kernel), tyX12_ok, nmX12⟩
theorem fl_X12_148 : g_FL RX12 148 12 10 45 := ⟨RX12, TX12, rfl, in_X12, by decide, g_T_mem (i := 1199) (w := .fieldLink RX12 148 (TX12 10).1 (TX12 10).2.1 (TX12 10).2.2.1) (by decide +kernel) (by decide +kernel), tyX12_ok, nmX12⟩
theorem fl_X12_151 : g_FL RX12 151 12 9 45 := ⟨RX12, TX12, rfl, in_X12, by decide, g_T_mem (i := 1198) (w := .fieldLink RX12 151 (TX12 9).1 (TX12 9).2.1 (TX12 9).2.2.1) (by decide +kernel) (by decide +kernel), tyX12_ok, nmX12⟩
theorem fl_X12_163 : g_FL RX12 163 12 8 45 := ⟨RX12, TX12, rfl, in_X12, by decide, g_T_mem (i := 1197) (w := .fieldLink RX12 163 (TX12 8).1 (TX12 8).2.1 (TX12 8).2.2.1) (by decide +kernel) (by decide +kernel), tyX12_ok, nmX12⟩
theorem fl_X12_166 : g_FL RX12 166 12 11 45 := ⟨RX12, TX12, rfl, in_X12, by decide, g_T_mem (i := 1200) (w := .fieldLink RX12 166 (TX12 11).1 (TX12 11).2.1 (TX12 11).2.2.1) (by decide +kernel) (by decide +kernel), tyX12_ok, nmX12⟩
theorem fl_X12_169 : g_FL RX12 169 12 12 45 := ⟨RX12, TX12, rfl, in_X12, by decide, g_T_mem (i := 1201) (w := .fieldLink RX12 169 (TX12 12).1 (TX12 12).2.1 (TX12 12).2.2.1) (by decide +kernel) (by decide +kernel), tyX12_ok, nmX12⟩
theorem fl_X12_201 : g_FL RX12 201 12 13 45 := ⟨RX12, TX12, rfl, in_X12, by decide, g_T_mem (i := 1202) (w := .fieldLink RX12 201 (TX12 13).1 (TX12 13).2.1 (TX12 13).2.2.1) (by decide +kernel) (by decide +kernel), tyX12_ok, nmX12⟩
theorem fl_X12_228 : g_FL RX12 228 12 15 45 := ⟨RX12, TX12, rfl, in_X12, by decide, g_T_mem (i := 1204) (w := .fieldLink RX12 228 (TX12 15).1 (TX12 15).2.1 (TX12 15).2.2.1) (by decide +kernel) (by decide +kernel), tyX12_ok, nmX12⟩
theorem fl_X12_250 : g_FL RX12 250 12 18 45 := ⟨RX12, TX12, rfl, in_X12, by decide, g_T_mem (i := 1207) (w := .fieldLink RX12 250 (TX12 18).1 (TX12 18).2.1 (TX12 18).2.2.1) (by decide +kernel) (by decide +kernel), tyX12_ok, nmX12⟩
theorem fl_X12_253 : g_FL RX12 253 12 19 45 := ⟨RX12, TX12, rfl, in_X12, by decide, g_T_mem (i := 1208) (w := .fieldLink RX12 253 (TX12 19).1 (TX12 19).2.1 (TX12 19).2.2.1) (by decide +kernel) (by decide +kernel), tyX12_ok, nmX12⟩
theorem fl_X12_269 : g_FL RX12 269 12 22 45 := ⟨RX12, TX12, rfl, in_X12, by decide, g_T_mem (i := 1211) (w := .fieldLink RX12 269 (TX12 22).1 (TX12 22).2.1 (TX12 22).2.2.1) (by decide +kernel) (by decide +kernel), tyX12_ok, nmX12⟩
theorem fl_X12_272 : g_FL RX12 272 12 23 45 := ⟨RX12, TX12, rfl, in_X12, by decide, g_T_mem (i := 1212) (w := .fieldLink RX12 272 (TX12 23).1 (TX12 23).2.1 (TX12 23).2.2.1) (by decide +kernel) (by decide +kernel), tyX12_ok, nmX12⟩
theorem fl_X12_275 : g_FL RX12 275 12 24 45 := ⟨RX12, TX12, rfl, in_X12, by decide, g_T_mem (i := 1213) (w := .fieldLink RX12 275 (TX12 24).1 (TX12 24).2.1 (TX12 24).2.2.1) (by decide +kernel) (by decide +kernel), tyX12_ok, nmX12⟩
theorem fl_X12_278 : g_FL RX12 278 12 27 45 := ⟨RX12, TX12, rfl, in_X12, by decide, g_T_mem (i := 1216) (w := .fieldLink RX12 278 (TX12 27).1 (TX12 27).2.1 (TX12 27).2.2.1) (by decide +kernel) (by decide +kernel), tyX12_ok, nmX12⟩
theorem fl_X12_281 : g_FL RX12 281 12 25 45 := ⟨RX12, TX12, rfl, in_X12, by decide, g_T_mem (i := 1214) (w := .fieldLink RX12 281 (TX12 25).1 (TX12 25).2.1 (TX12 25).2.2.1) (by decide +kernel) (by decide +kernel), tyX12_ok, nmX12⟩
theorem fl_X12_284 : g_FL RX12 284 12 26 45 := ⟨RX12, TX12, rfl, in_X12, by decide, g_T_mem (i := 1215) (w := .fieldLink RX12 284 (TX12 26).1 (TX12 26).2.1 (TX12 26).2.2.1) (by decide +kernel) (by decide +kernel), tyX12_ok, nmX12⟩
theorem fl_X12_308 : g_FL RX12 308 12 28 45 := ⟨RX12, TX12, rfl, in_X12, by decide, g_T_mem (i := 1217) (w := .fieldLink RX12 308 (TX12 28).1 (TX12 28).2.1 (TX12 28).2.2.1) (by decide +kernel) (by decide +kernel), tyX12_ok, nmX12⟩
theorem fl_X12_315 : g_FL RX12 315 12 29 45 := ⟨RX12, TX12, rfl, in_X12, by decide, g_T_mem (i := 1218) (w := .fieldLink RX12 315 (TX12 29).1 (TX12 29).2.1 (TX12 29).2.2.1) (by decide +kernel) (by decide +kernel), tyX12_ok, nmX12⟩
theorem fl_X12_318 : g_FL RX12 318 12 30 45 := ⟨RX12, TX12, rfl, in_X12, by decide, g_T_mem (i := 1219) (w := .fieldLink RX12 318 (TX12 30).1 (TX12 30).2.1 (TX12 30).2.2.1) (by decide +kernel) (by decide +kernel), tyX12_ok, nmX12⟩
theorem fl_X12_336 : g_FL RX12 336 12 32 45 := ⟨RX12, TX12, rfl, in_X12, by decide, g_T_mem (i := 1221) (w := .fieldLink RX12 336 (TX12 32).1 (TX12 32).2.1 (TX12 32).2.2.1) (by decide +kernel) (by decide +kernel), tyX12_ok, nmX12⟩
theorem fl_X12_366 : g_FL RX12 366 12 40 45 := ⟨RX12, TX12, rfl, in_X12, by decide, g_T_mem (i := 1229) (w := .fieldLink RX12 366 (TX12 40).1 (TX12 40).2.1 (TX12 40).2.2.1) (by decide +kernel) (by decide +kernel), tyX12_ok, nmX12⟩
theorem fl_X12_372 : g_FL RX12 372 12 42 45 := ⟨RX12, TX12, rfl, in_X12, by decide, g_T_mem (i := 1231) (w := .fieldLink RX12 372 (TX12 42).1 (TX12 42).2.1 (TX12 42).2.2.1) (by decide +kernel) (by decide +kernel), tyX12_ok, nmX12⟩
theorem fl_X12_375 : g_FL RX12 375 12 41 45 := ⟨RX12, TX12, rfl, in_X12, by decide, g_T_mem (i := 1230) (w := .fieldLink RX12 375 (TX12 41).1 (TX12 41).2.1 (TX12 41).2.2.1) (by decide +kernel) (by decide +kernel), tyX12_ok, nmX12⟩
theorem fl_X12_384 : g_FL RX12 384 12 43 45 := ⟨RX12, TX12, rfl, in_X12, by decide, g_T_mem (i := 1232) (w := .fieldLink RX12 384 (TX12 43).1 (TX12 43).2.1 (TX12 43).2.2.1) (by decide +kernel) (by decide +kernel), tyX12_ok, nmX12⟩
theorem fl_X12_390 : g_FL RX12 390 12 44 45 := ⟨RX12, TX12, rfl, in_X12, by decide, g_T_mem (i := 1233) (w := .fieldLink RX12 390 (TX12 44).1 (TX12 44).2.1 (TX12 44).2.2.1) (by decide +kernel) (by decide +kernel), tyX12_ok, nmX12⟩
theorem fl_X12_411 : g_FL RX12 411 12 2 45 := ⟨RX12, TX12, rfl, in_X12, by decide, g_T_mem (i := 1191) (w := .fieldLink RX12 411 (TX12 2).1 (TX12 2).2.1 (TX12 2).2.2.1) (by decide +kernel) (by decide +kernel), tyX12_ok, nmX12⟩
theorem fw_0_1 : g_FW 0 1 := by intro C T N h; cases h; rfl
theorem fw_0_2 : g_FW 0 2 := by intro C T N h; cases h; rfl
theorem fw_0_3 : g_FW 0 3 := by intro C T N h; cases h; rfl
theorem fw_0_4 : g_FW 0 4 := by intro C T N h; cases h; rfl
theorem fw_7_4 : g_FW 7 4 := by intro C T N h; cases h; rfl
theorem fw_7_5 : g_FW 7 5 := by intro C T N h; cases h; rfl
theorem fw_8_4 : g_FW 8 4 := by intro C T N h; cases h; rfl
theorem fw_8_5 : g_FW 8 5 := by intro C T N h; cases h; rfl
theorem fw_8_6 : g_FW 8 6 := by intro C T N h; cases h; rfl
theorem fw_8_7 : g_FW 8 7 := by intro C T N h; cases h; rfl
theorem fw_9_10 : g_FW 9 10 := by intro C T N h; cases h; rfl
theorem fw_9_11 : g_FW 9 11 := by intro C T N h; cases h; rfl
theorem fw_9_12 : g_FW 9 12 := by intro C T N h; cases h; rfl
theorem fw_9_13 : g_FW 9 13 := by intro C T N h; cases h; rfl
theorem fw_9_14 : g_FW 9 14 := by intro C T N h; cases h; rfl
theorem fw_9_15 : g_FW 9 15 := by intro C T N h; cases h; rfl
theorem fw_9_16 : g_FW 9 16 := by intro C T N h; cases h; rfl
theorem fw_9_17 : g_FW 9 17 := by intro C T N h; cases h; rfl
theorem fw_11_12 : g_FW 11 12 := by intro C T N h; cases h; rfl
theorem fw_11_13 : g_FW 11 13 := by intro C T N h; cases h; rfl
theorem fw_12_2 : g_FW 12 2 := by intro C T N h; cases h; rfl
theorem fw_12_5 : g_FW 12 5 := by intro C T N h; cases h; rfl
theorem fw_12_7 : g_FW 12 7 := by intro C T N h; cases h; rfl
theorem fw_12_8 : g_FW 12 8 := by intro C T N h; cases h; rfl
theorem fw_12_9 : g_FW 12 9 := by intro C T N h; cases h; rfl
theorem fw_12_10 : g_FW 12 10 := by intro C T N h; cases h; rfl
theorem fw_12_11 : g_FW 12 11 := by intro C T N h; cases h; rfl
theorem fw_12_12 : g_FW 12 12 := by intro C T N h; cases h; rfl
theorem fw_12_13 : g_FW 12 13 := by intro C T N h; cases h; rfl
theorem fw_12_15 : g_FW 12 15 := by intro C T N h; cases h; rfl
theorem fw_12_18 : g_FW 12 18 := by intro C T N h; cases h; rfl
theorem fw_12_19 : g_FW 12 19 := by intro C T N h; cases h; rfl
theorem fw_12_22 : g_FW 12 22 := by intro C T N h; cases h; rfl
theorem fw_12_23 : g_FW 12 23 := by intro C T N h; cases h; rfl
theorem fw_12_24 : g_FW 12 24 := by intro C T N h; cases h; rfl
theorem fw_12_25 : g_FW 12 25 := by intro C T N h; cases h; rfl
theorem fw_12_26 : g_FW 12 26 := by intro C T N h; cases h; rfl
theorem fw_12_27 : g_FW 12 27 := by intro C T N h; cases h; rfl
theorem fw_12_28 : g_FW 12 28 := by intro C T N h; cases h; rfl
theorem fw_12_29 : g_FW 12 29 := by intro C T N h; cases h; rfl
theorem fw_12_30 : g_FW 12 30 := by intro C T N h; cases h; rfl
theorem fw_12_32 : g_FW 12 32 := by intro C T N h; cases h; rfl
theorem fw_12_40 : g_FW 12 40 := by intro C T N h; cases h; rfl
theorem fw_12_41 : g_FW 12 41 := by intro C T N h; cases h; rfl
theorem fw_12_42 : g_FW 12 42 := by intro C T N h; cases h; rfl
theorem fw_12_43 : g_FW 12 43 := by intro C T N h; cases h; rfl
theorem fw_12_44 : g_FW 12 44 := by intro C T N h; cases h; rfl
abbrev Y_X0_init : g_Y := (cX0_init, 1, none, RX0, "<init>")
theorem mt_X0_init : g_MT yX0_init Y_X0_init 0 := ⟨g_T_mem (i := 320) (w := .code yX0_init cX0_init 1 (none)) (by decide +kernel) (by decide +kernel), g_T_mem (i := 106) (w := .initialized RX0) (by decide +kernel) (by decide +kernel), by decide +kernel, by decide⟩
abbrev Y_X0_clear : g_Y := (cX0_clear, 1, none, RX0, "clear")
theorem mt_X0_clear : g_MT yX0_clear Y_X0_clear 0 := ⟨g_T_mem (i := 1074) (w := .code yX0_clear cX0_clear 1 (none)) (by decide +kernel) (by decide +kernel), g_T_mem (i := 106) (w := .initialized RX0) (by decide +kernel) (by decide +kernel), by decide +kernel, by decide⟩
theorem mv_X0_clear : Cond.instanceMethod yX0_clear ∈ g_T ∧ Cond.selects RX0 yX0_clear yX0_clear ∈ g_T := ⟨g_T_mem (i := 1072) (w := .instanceMethod yX0_clear) (by decide +kernel) (by decide +kernel), g_T_mem (i := 1073) (w := .selects RX0 yX0_clear yX0_clear) (by decide +kernel) (by decide +kernel)⟩
abbrev Y_X0_began : g_Y := (cX0_began, 2, none, RX0, "began")
theorem mt_X0_began : g_MT yX0_began Y_X0_began 1 := ⟨g_T_mem (i := 1085) (w := .code yX0_began cX0_began 2 (none)) (by decide +kernel) (by decide +kernel), g_T_mem (i := 106) (w := .initialized RX0) (by decide +kernel) (by decide +kernel), by decide +kernel, by decide⟩
theorem mv_X0_began : Cond.instanceMethod yX0_began ∈ g_T ∧ Cond.selects RX0 yX0_began yX0_began ∈ g_T := ⟨g_T_mem (i := 1083) (w := .instanceMethod yX0_began) (by decide +kernel) (by decide +kernel), g_T_mem (i := 1084) (w := .selects RX0 yX0_began yX0_began) (by decide +kernel) (by decide +kernel)⟩
abbrev Y_X1_init : g_Y := (cX1_init, 1, none, RX1, "<init>")
theorem mt_X1_init : g_MT yX1_init Y_X1_init 0 := ⟨g_T_mem (i := 154) (w := .code yX1_init cX1_init 1 (none)) (by decide +kernel) (by decide +kernel), g_T_mem (i := 99) (w := .initialized RX1) (by decide +kernel) (by decide +kernel), by decide +kernel, by decide⟩
abbrev Y_X1_yearns : g_Y := (cX1_yearns, 5, some .int, RX1, "yearns")
theorem mt_X1_yearns : g_MT yX1_yearns Y_X1_yearns 4 := ⟨g_T_mem (i := 433) (w := .code yX1_yearns cX1_yearns 5 (some .int)) (by decide +kernel) (by decide +kernel), g_T_mem (i := 99) (w := .initialized RX1) (by decide +kernel) (by decide +kernel), by decide +kernel, by decide⟩
abbrev Y_X1_bakes : g_Y := (cX1_bakes, 3, some .int, RX1, "bakes")
theorem mt_X1_bakes : g_MT yX1_bakes Y_X1_bakes 2 := ⟨g_T_mem (i := 496) (w := .code yX1_bakes cX1_bakes 3 (some .int)) (by decide +kernel) (by decide +kernel), g_T_mem (i := 99) (w := .initialized RX1) (by decide +kernel) (by decide +kernel), by decide +kernel, by decide⟩
abbrev Y_X1_glows : g_Y := (cX1_glows, 3, some .int, RX1, "glows")
theorem mt_X1_glows : g_MT yX1_glows Y_X1_glows 2 := ⟨g_T_mem (i := 1081) (w := .code yX1_glows cX1_glows 3 (some .int)) (by decide +kernel) (by decide +kernel), g_T_mem (i := 99) (w := .initialized RX1) (by decide +kernel) (by decide +kernel), by decide +kernel, by decide⟩
abbrev Y_X1_weds : g_Y := (cX1_weds, 4, some .int, RX1, "weds")
theorem mt_X1_weds : g_MT yX1_weds Y_X1_weds 2 := ⟨g_T_mem (i := 1146) (w := .code yX1_weds cX1_weds 4 (some .int)) (by decide +kernel) (by decide +kernel), g_T_mem (i := 99) (w := .initialized RX1) (by decide +kernel) (by decide +kernel), by decide +kernel, by decide⟩
abbrev Y_X2_init : g_Y := (cX2_init, 2, none, RX2, "<init>")
theorem mt_X2_init : g_MT yX2_init Y_X2_init 1 := ⟨g_T_mem (i := 277) (w := .code yX2_init cX2_init 2 (none)) (by decide +kernel) (by decide +kernel), g_T_mem (i := 104) (w := .initialized RX2) (by decide +kernel) (by decide +kernel), by decide +kernel, by decide⟩
abbrev Y_X2_restWorth : g_Y := (cX2_restWorth, 5, some .int, RX2, "restWorth")
theorem mt_X2_restWorth : g_MT yX2_restWorth Y_X2_restWorth 1 := ⟨g_T_mem (i := 739) (w := .code yX2_restWorth cX2_restWorth 5 (some .int)) (by decide +kernel) (by decide +kernel), g_T_mem (i := 104) (w := .initialized RX2) (by decide +kernel) (by decide +kernel), by decide +kernel, by decide⟩
theorem mv_X2_restWorth : Cond.instanceMethod yX2_restWorth ∈ g_T ∧ Cond.selects RX2 yX2_restWorth yX2_restWorth ∈ g_T := ⟨g_T_mem (i := 737) (w := .instanceMethod yX2_restWorth) (by decide +kernel) (by decide +kernel), g_T_mem (i := 738) (w := .selects RX2 yX2_restWorth yX2_restWorth) (by decide +kernel) (by decide +kernel)⟩
abbrev Y_X2_went : g_Y := (cX2_went, 4, some .boolean, RX2, "went")
theorem mt_X2_went : g_MT yX2_went Y_X2_went 3 := ⟨g_T_mem (i := 761) (w := .code yX2_went cX2_went 4 (some .boolean)) (by decide +kernel) (by decide +kernel), g_T_mem (i := 104) (w := .initialized RX2) (by decide +kernel) (by decide +kernel), by decide +kernel, by decide⟩
theorem mv_X2_went : Cond.instanceMethod yX2_went ∈ g_T ∧ Cond.selects RX2 yX2_went yX2_went ∈ g_T := ⟨g_T_mem (i := 760) (w := .instanceMethod yX2_went) (by decide +kernel) (by decide +kernel), g_T_mem (i := 19) (w := .selects RX2 yX2_went yX2_went) (by decide +kernel) (by decide +kernel)⟩
abbrev Y_X2_firstGoing : g_Y := (cX2_firstGoing, 5, some .int, RX2, "firstGoing")
theorem mt_X2_firstGoing : g_MT yX2_firstGoing Y_X2_firstGoing 1 := ⟨g_T_mem (i := 757) (w := .code yX2_firstGoing cX2_firstGoing 5 (some .int)) (by decide +kernel) (by decide +kernel), g_T_mem (i := 104) (w := .initialized RX2) (by decide +kernel) (by decide +kernel), by decide +kernel, by decide⟩
theorem mv_X2_firstGoing : Cond.instanceMethod yX2_firstGoing ∈ g_T ∧ Cond.selects RX2 yX2_firstGoing yX2_firstGoing ∈ g_T := ⟨g_T_mem (i := 755) (w := .instanceMethod yX2_firstGoing) (by decide +kernel) (by decide +kernel), g_T_mem (i := 756) (w := .selects RX2 yX2_firstGoing yX2_firstGoing) (by decide +kernel) (by decide +kernel)⟩
abbrev Y_X2_goings : g_Y := (cX2_goings, 6, some .int, RX2, "goings")
theorem mt_X2_goings : g_MT yX2_goings Y_X2_goings 1 := ⟨g_T_mem (i := 770) (w := .code yX2_goings cX2_goings 6 (some .int)) (by decide +kernel) (by decide +kernel), g_T_mem (i := 104) (w := .initialized RX2) (by decide +kernel) (by decide +kernel), by decide +kernel, by decide⟩
theorem mv_X2_goings : Cond.instanceMethod yX2_goings ∈ g_T ∧ Cond.selects RX2 yX2_goings yX2_goings ∈ g_T := ⟨g_T_mem (i := 768) (w := .instanceMethod yX2_goings) (by decide +kernel) (by decide +kernel), g_T_mem (i := 769) (w := .selects RX2 yX2_goings yX2_goings) (by decide +kernel) (by decide +kernel)⟩
abbrev Y_X2_bestSetting : g_Y := (cX2_bestSetting, 9, some .int, RX2, "bestSetting")
theorem mt_X2_bestSetting : g_MT yX2_bestSetting Y_X2_bestSetting 3 := ⟨g_T_mem (i := 778) (w := .code yX2_bestSetting cX2_bestSetting 9 (some .int)) (by decide +kernel) (by decide +kernel), g_T_mem (i := 104) (w := .initialized RX2) (by decide +kernel) (by decide +kernel), by decide +kernel, by decide⟩
theorem mv_X2_bestSetting : Cond.instanceMethod yX2_bestSetting ∈ g_T ∧ Cond.selects RX2 yX2_bestSetting yX2_bestSetting ∈ g_T := ⟨g_T_mem (i := 776) (w := .instanceMethod yX2_bestSetting) (by decide +kernel) (by decide +kernel), g_T_mem (i := 777) (w := .selects RX2 yX2_bestSetting yX2_bestSetting) (by decide +kernel) (by decide +kernel)⟩
abbrev Y_X2_nobodyGoes : g_Y := (cX2_nobodyGoes, 5, some .boolean, RX2, "nobodyGoes")
theorem mt_X2_nobodyGoes : g_MT yX2_nobodyGoes Y_X2_nobodyGoes 1 := ⟨g_T_mem (i := 843) (w := .code yX2_nobodyGoes cX2_nobodyGoes 5 (some .boolean)) (by decide +kernel) (by decide +kernel), g_T_mem (i := 104) (w := .initialized RX2) (by decide +kernel) (by decide +kernel), by decide +kernel, by decide⟩
theorem mv_X2_nobodyGoes : Cond.instanceMethod yX2_nobodyGoes ∈ g_T ∧ Cond.selects RX2 yX2_nobodyGoes yX2_nobodyGoes ∈ g_T := ⟨g_T_mem (i := 842) (w := .instanceMethod yX2_nobodyGoes) (by decide +kernel) (by decide +kernel), g_T_mem (i := 22) (w := .selects RX2 yX2_nobodyGoes yX2_nobodyGoes) (by decide +kernel) (by decide +kernel)⟩
abbrev Y_X2_fewestChains : g_Y := (cX2_fewestChains, 3, some .int, RX2, "fewestChains")
theorem mt_X2_fewestChains : g_MT yX2_fewestChains Y_X2_fewestChains 0 := ⟨g_T_mem (i := 833) (w := .code yX2_fewestChains cX2_fewestChains 3 (some .int)) (by decide +kernel) (by decide +kernel), g_T_mem (i := 104) (w := .initialized RX2) (by decide +kernel) (by decide +kernel), by decide +kernel, by decide⟩
theorem mv_X2_fewestChains : Cond.instanceMethod yX2_fewestChains ∈ g_T ∧ Cond.selects RX2 yX2_fewestChains yX2_fewestChains ∈ g_T := ⟨g_T_mem (i := 831) (w := .instanceMethod yX2_fewestChains) (by decide +kernel) (by decide +kernel), g_T_mem (i := 832) (w := .selects RX2 yX2_fewestChains yX2_fewestChains) (by decide +kernel) (by decide +kernel)⟩
abbrev Y_X2_weddingOf : g_Y := (cX2_weddingOf, 3, some .int, RX2, "weddingOf")
theorem mt_X2_weddingOf : g_MT yX2_weddingOf Y_X2_weddingOf 2 := ⟨g_T_mem (i := 810) (w := .code yX2_weddingOf cX2_weddingOf 3 (some .int)) (by decide +kernel) (by decide +kernel), g_T_mem (i := 104) (w := .initialized RX2) (by decide +kernel) (by decide +kernel), by decide +kernel, by decide⟩
theorem mv_X2_weddingOf : Cond.instanceMethod yX2_weddingOf ∈ g_T ∧ Cond.selects RX2 yX2_weddingOf yX2_weddingOf ∈ g_T := ⟨g_T_mem (i := 809) (w := .instanceMethod yX2_weddingOf) (by decide +kernel) (by decide +kernel), g_T_mem (i := 20) (w := .selects RX2 yX2_weddingOf yX2_weddingOf) (by decide +kernel) (by decide +kernel)⟩
abbrev Y_X2_mostWed : g_Y := (cX2_mostWed, 5, some .int, RX2, "mostWed")
theorem mt_X2_mostWed : g_MT yX2_mostWed Y_X2_mostWed 2 := ⟨g_T_mem (i := 804) (w := .code yX2_mostWed cX2_mostWed 5 (some .int)) (by decide +kernel) (by decide +kernel), g_T_mem (i := 104) (w := .initialized RX2) (by decide +kernel) (by decide +kernel), by decide +kernel, by decide⟩
theorem mv_X2_mostWed : Cond.instanceMethod yX2_mostWed ∈ g_T ∧ Cond.selects RX2 yX2_mostWed yX2_mostWed ∈ g_T := ⟨g_T_mem (i := 802) (w := .instanceMethod yX2_mostWed) (by decide +kernel) (by decide +kernel), g_T_mem (i := 803) (w := .selects RX2 yX2_mostWed yX2_mostWed) (by decide +kernel) (by decide +kernel)⟩
abbrev Y_X2_firstMate : g_Y := (cX2_firstMate, 5, some .int, RX2, "firstMate")
theorem mt_X2_firstMate : g_MT yX2_firstMate Y_X2_firstMate 2 := ⟨g_T_mem (i := 825) (w := .code yX2_firstMate cX2_firstMate 5 (some .int)) (by decide +kernel) (by decide +kernel), g_T_mem (i := 104) (w := .initialized RX2) (by decide +kernel) (by decide +kernel), by decide +kernel, by decide⟩
theorem mv_X2_firstMate : Cond.instanceMethod yX2_firstMate ∈ g_T ∧ Cond.selects RX2 yX2_firstMate yX2_firstMate ∈ g_T := ⟨g_T_mem (i := 824) (w := .instanceMethod yX2_firstMate) (by decide +kernel) (by decide +kernel), g_T_mem (i := 21) (w := .selects RX2 yX2_firstMate yX2_firstMate) (by decide +kernel) (by decide +kernel)⟩
abbrev Y_X2_mateOf : g_Y := (cX2_mateOf, 5, some .int, RX2, "mateOf")
theorem mt_X2_mateOf : g_MT yX2_mateOf Y_X2_mateOf 1 := ⟨g_T_mem (i := 820) (w := .code yX2_mateOf cX2_mateOf 5 (some .int)) (by decide +kernel) (by decide +kernel), g_T_mem (i := 104) (w := .initialized RX2) (by decide +kernel) (by decide +kernel), by decide +kernel, by decide⟩
theorem mv_X2_mateOf : Cond.instanceMethod yX2_mateOf ∈ g_T ∧ Cond.selects RX2 yX2_mateOf yX2_mateOf ∈ g_T := ⟨g_T_mem (i := 818) (w := .instanceMethod yX2_mateOf) (by decide +kernel) (by decide +kernel), g_T_mem (i := 819) (w := .selects RX2 yX2_mateOf yX2_mateOf) (by decide +kernel) (by decide +kernel)⟩
abbrev Y_X2_mostWorth : g_Y := (cX2_mostWorth, 7, some .int, RX2, "mostWorth")
theorem mt_X2_mostWorth : g_MT yX2_mostWorth Y_X2_mostWorth 3 := ⟨g_T_mem (i := 856) (w := .code yX2_mostWorth cX2_mostWorth 7 (some .int)) (by decide +kernel) (by decide +kernel), g_T_mem (i := 104) (w := .initialized RX2) (by decide +kernel) (by decide +kernel), by decide +kernel, by decide⟩
theorem mv_X2_mostWorth : Cond.instanceMethod yX2_mostWorth ∈ g_T ∧ Cond.selects RX2 yX2_mostWorth yX2_mostWorth ∈ g_T := ⟨g_T_mem (i := 854) (w := .instanceMethod yX2_mostWorth) (by decide +kernel) (by decide +kernel), g_T_mem (i := 855) (w := .selects RX2 yX2_mostWorth yX2_mostWorth) (by decide +kernel) (by decide +kernel)⟩
abbrev Y_X2_firstBestAct : g_Y := (cX2_firstBestAct, 9, some .int, RX2, "firstBestAct")
theorem mt_X2_firstBestAct : g_MT yX2_firstBestAct Y_X2_firstBestAct 3 := ⟨g_T_mem (i := 869) (w := .code yX2_firstBestAct cX2_firstBestAct 9 (some .int)) (by decide +kernel) (by decide +kernel), g_T_mem (i := 104) (w := .initialized RX2) (by decide +kernel) (by decide +kernel), by decide +kernel, by decide⟩
theorem mv_X2_firstBestAct : Cond.instanceMethod yX2_firstBestAct ∈ g_T ∧ Cond.selects RX2 yX2_firstBestAct yX2_firstBestAct ∈ g_T := ⟨g_T_mem (i := 867) (w := .instanceMethod yX2_firstBestAct) (by decide +kernel) (by decide +kernel), g_T_mem (i := 868) (w := .selects RX2 yX2_firstBestAct yX2_firstBestAct) (by decide +kernel) (by decide +kernel)⟩
abbrev Y_X2_plansWorth : g_Y := (cX2_plansWorth, 8, some .int, RX2, "plansWorth")
theorem mt_X2_plansWorth : g_MT yX2_plansWorth Y_X2_plansWorth 4 := ⟨g_T_mem (i := 879) (w := .code yX2_plansWorth cX2_plansWorth 8 (some .int)) (by decide +kernel) (by decide +kernel), g_T_mem (i := 104) (w := .initialized RX2) (by decide +kernel) (by decide +kernel), by decide +kernel, by decide⟩
theorem mv_X2_plansWorth : Cond.instanceMethod yX2_plansWorth ∈ g_T ∧ Cond.selects RX2 yX2_plansWorth yX2_plansWorth ∈ g_T := ⟨g_T_mem (i := 877) (w := .instanceMethod yX2_plansWorth) (by decide +kernel) (by decide +kernel), g_T_mem (i := 878) (w := .selects RX2 yX2_plansWorth yX2_plansWorth) (by decide +kernel) (by decide +kernel)⟩
abbrev Y_X2_fewestActs : g_Y := (cX2_fewestActs, 9, some .int, RX2, "fewestActs")
theorem mt_X2_fewestActs : g_MT yX2_fewestActs Y_X2_fewestActs 4 := ⟨g_T_mem (i := 892) (w := .code yX2_fewestActs cX2_fewestActs 9 (some .int)) (by decide +kernel) (by decide +kernel), g_T_mem (i := 104) (w := .initialized RX2) (by decide +kernel) (by decide +kernel), by decide +kernel, by decide⟩
theorem mv_X2_fewestActs : Cond.instanceMethod yX2_fewestActs ∈ g_T ∧ Cond.selects RX2 yX2_fewestActs yX2_fewestActs ∈ g_T := ⟨g_T_mem (i := 890) (w := .instanceMethod yX2_fewestActs) (by decide +kernel) (by decide +kernel), g_T_mem (i := 891) (w := .selects RX2 yX2_fewestActs yX2_fewestActs) (by decide +kernel) (by decide +kernel)⟩
abbrev Y_X2_homeBehindSome : g_Y := (cX2_homeBehindSome, 7, some .int, RX2, "homeBehindSome")
theorem mt_X2_homeBehindSome : g_MT yX2_homeBehindSome Y_X2_homeBehindSome 3 := ⟨g_T_mem (i := 903) (w := .code yX2_homeBehindSome cX2_homeBehindSome 7 (some .int)) (by decide +kernel) (by decide +kernel), g_T_mem (i := 104) (w := .initialized RX2) (by decide +kernel) (by decide +kernel), by decide +kernel, by decide⟩
theorem mv_X2_homeBehindSome : Cond.instanceMethod yX2_homeBehindSome ∈ g_T ∧ Cond.selects RX2 yX2_homeBehindSome yX2_homeBehindSome ∈ g_T := ⟨g_T_mem (i := 901) (w := .instanceMethod yX2_homeBehindSome) (by decide +kernel) (by decide +kernel), g_T_mem (i := 902) (w := .selects RX2 yX2_homeBehindSome yX2_homeBehindSome) (by decide +kernel) (by decide +kernel)⟩
abbrev Y_X2_gameValue : g_Y := (cX2_gameValue, 10, some .int, RX2, "gameValue")
theorem mt_X2_gameValue : g_MT yX2_gameValue Y_X2_gameValue 4 := ⟨g_T_mem (i := 919) (w := .code yX2_gameValue cX2_gameValue 10 (some .int)) (by decide +kernel) (by decide +kernel), g_T_mem (i := 104) (w := .initialized RX2) (by decide +kernel) (by decide +kernel), by decide +kernel, by decide⟩
theorem mv_X2_gameValue : Cond.instanceMethod yX2_gameValue ∈ g_T ∧ Cond.selects RX2 yX2_gameValue yX2_gameValue ∈ g_T := ⟨g_T_mem (i := 917) (w := .instanceMethod yX2_gameValue) (by decide +kernel) (by decide +kernel), g_T_mem (i := 918) (w := .selects RX2 yX2_gameValue yX2_gameValue) (by decide +kernel) (by decide +kernel)⟩
abbrev Y_X2_firstMove : g_Y := (cX2_firstMove, 7, some .int, RX2, "firstMove")
theorem mt_X2_firstMove : g_MT yX2_firstMove Y_X2_firstMove 1 := ⟨g_T_mem (i := 928) (w := .code yX2_firstMove cX2_firstMove 7 (some .int)) (by decide +kernel) (by decide +kernel), g_T_mem (i := 104) (w := .initialized RX2) (by decide +kernel) (by decide +kernel), by decide +kernel, by decide⟩
theorem mv_X2_firstMove : Cond.instanceMethod yX2_firstMove ∈ g_T ∧ Cond.selects RX2 yX2_firstMove yX2_firstMove ∈ g_T := ⟨g_T_mem (i := 926) (w := .instanceMethod yX2_firstMove) (by decide +kernel) (by decide +kernel), g_T_mem (i := 927) (w := .selects RX2 yX2_firstMove yX2_firstMove) (by decide +kernel) (by decide +kernel)⟩
abbrev Y_X3_init : g_Y := (cX3_init, 1, none, RX3, "<init>")
theorem mt_X3_init : g_MT yX3_init Y_X3_init 0 := ⟨g_T_mem (i := 133) (w := .code yX3_init cX3_init 1 (none)) (by decide +kernel) (by decide +kernel), g_T_mem (i := 96) (w := .initialized RX3) (by decide +kernel) (by decide +kernel), by decide +kernel, by decide⟩
abbrev Y_X3_yearns : g_Y := (cX3_yearns, 5, some .int, RX3, "yearns")
theorem mt_X3_yearns : g_MT yX3_yearns Y_X3_yearns 4 := ⟨g_T_mem (i := 449) (w := .code yX3_yearns cX3_yearns 5 (some .int)) (by decide +kernel) (by decide +kernel), g_T_mem (i := 96) (w := .initialized RX3) (by decide +kernel) (by decide +kernel), by decide +kernel, by decide⟩
theorem mv_X3_yearns : Cond.instanceMethod yX3_yearns ∈ g_T ∧ Cond.selects RX3 yX3_yearns yX3_yearns ∈ g_T := ⟨g_T_mem (i := 428) (w := .instanceMethod yX3_yearns) (by decide +kernel) (by decide +kernel), g_T_mem (i := 429) (w := .selects RX3 yX3_yearns yX3_yearns) (by decide +kernel) (by decide +kernel)⟩
abbrev Y_X3_bakes : g_Y := (cX3_bakes, 3, some .int, RX3, "bakes")
theorem mt_X3_bakes : g_MT yX3_bakes Y_X3_bakes 2 := ⟨g_T_mem (i := 513) (w := .code yX3_bakes cX3_bakes 3 (some .int)) (by decide +kernel) (by decide +kernel), g_T_mem (i := 96) (w := .initialized RX3) (by decide +kernel) (by decide +kernel), by decide +kernel, by decide⟩
theorem mv_X3_bakes : Cond.instanceMethod yX3_bakes ∈ g_T ∧ Cond.selects RX3 yX3_bakes yX3_bakes ∈ g_T := ⟨g_T_mem (i := 491) (w := .instanceMethod yX3_bakes) (by decide +kernel) (by decide +kernel), g_T_mem (i := 492) (w := .selects RX3 yX3_bakes yX3_bakes) (by decide +kernel) (by decide +kernel)⟩
abbrev Y_X3_glows : g_Y := (cX3_glows, 3, some .int, RX3, "glows")
theorem mt_X3_glows : g_MT yX3_glows Y_X3_glows 2 := ⟨g_T_mem (i := 1097) (w := .code yX3_glows cX3_glows 3 (some .int)) (by decide +kernel) (by decide +kernel), g_T_mem (i := 96) (w := .initialized RX3) (by decide +kernel) (by decide +kernel), by decide +kernel, by decide⟩
theorem mv_X3_glows : Cond.instanceMethod yX3_glows ∈ g_T ∧ Cond.selects RX3 yX3_glows yX3_glows ∈ g_T := ⟨g_T_mem (i := 1076) (w := .instanceMethod yX3_glows) (by decide +kernel) (by decide +kernel), g_T_mem (i := 1077) (w := .selects RX3 yX3_glows yX3_glows) (by decide +kernel) (by decide +kernel)⟩
abbrev Y_X3_longs : g_Y := (cX3_longs, 3, some .int, RX3, "longs")
theorem mt_X3_longs : g_MT yX3_longs Y_X3_longs 2 := ⟨g_T_mem (i := 1118) (w := .code yX3_longs cX3_longs 3 (some .int)) (by decide +kernel) (by decide +kernel), g_T_mem (i := 96) (w := .initialized RX3) (by decide +kernel) (by decide +kernel), by decide +kernel, by decide⟩
theorem mv_X3_longs : Cond.instanceMethod yX3_longs ∈ g_T ∧ Cond.selects RX3 yX3_longs yX3_longs ∈ g_T := ⟨g_T_mem (i := 1100) (w := .instanceMethod yX3_longs) (by decide +kernel) (by decide +kernel), g_T_mem (i := 1101) (w := .selects RX3 yX3_longs yX3_longs) (by decide +kernel) (by decide +kernel)⟩
abbrev Y_X3_parts : g_Y := (cX3_parts, 4, some .int, RX3, "parts")
theorem mt_X3_parts : g_MT yX3_parts Y_X3_parts 2 := ⟨g_T_mem (i := 1139) (w := .code yX3_parts cX3_parts 4 (some .int)) (by decide +kernel) (by decide +kernel), g_T_mem (i := 96) (w := .initialized RX3) (by decide +kernel) (by decide +kernel), by decide +kernel, by decide⟩
theorem mv_X3_parts : Cond.instanceMethod yX3_parts ∈ g_T ∧ Cond.selects RX3 yX3_parts yX3_parts ∈ g_T := ⟨g_T_mem (i := 1121) (w := .instanceMethod yX3_parts) (by decide +kernel) (by decide +kernel), g_T_mem (i := 1122) (w := .selects RX3 yX3_parts yX3_parts) (by decide +kernel) (by decide +kernel)⟩
abbrev Y_X3_weds : g_Y := (cX3_weds, 3, some .int, RX3, "weds")
theorem mt_X3_weds : g_MT yX3_weds Y_X3_weds 2 := ⟨g_T_mem (i := 1158) (w := .code yX3_weds cX3_weds 3 (some .int)) (by decide +kernel) (by decide +kernel), g_T_mem (i := 96) (w := .initialized RX3) (by decide +kernel) (by decide +kernel), by decide +kernel, by decide⟩
theorem mv_X3_weds : Cond.instanceMethod yX3_weds ∈ g_T ∧ Cond.selects RX3 yX3_weds yX3_weds ∈ g_T := ⟨g_T_mem (i := 1141) (w := .instanceMethod yX3_weds) (by decide +kernel) (by decide +kernel), g_T_mem (i := 1142) (w := .selects RX3 yX3_weds yX3_weds) (by decide +kernel) (by decide +kernel)⟩
abbrev Y_X4_init : g_Y := (cX4_init, 1, none, RX4, "<init>")
theorem mt_X4_init : g_MT yX4_init Y_X4_init 0 := ⟨g_T_mem (i := 161) (w := .code yX4_init cX4_init 1 (none)) (by decide +kernel) (by decide +kernel), g_T_mem (i := 100) (w := .initialized RX4) (by decide +kernel) (by decide +kernel), by decide +kernel, by decide⟩
abbrev Y_X4_yearns : g_Y := (cX4_yearns, 5, some .int, RX4, "yearns")
theorem mt_X4_yearns : g_MT yX4_yearns Y_X4_yearns 4 := ⟨g_T_mem (i := 436) (w := .code yX4_yearns cX4_yearns 5 (some .int)) (by decide +kernel) (by decide +kernel), g_T_mem (i := 100) (w := .initialized RX4) (by decide +kernel) (by decide +kernel), by decide +kernel, by decide⟩
abbrev Y_X4_parts : g_Y := (cX4_parts, 3, some .int, RX4, "parts")
theorem mt_X4_parts : g_MT yX4_parts Y_X4_parts 2 := ⟨g_T_mem (i := 1127) (w := .code yX4_parts cX4_parts 3 (some .int)) (by decide +kernel) (by decide +kernel), g_T_mem (i := 100) (w := .initialized RX4) (by decide +kernel) (by decide +kernel), by decide +kernel, by decide⟩
abbrev Y_X5_init : g_Y := (cX5_init, 1, none, RX5, "<init>")
theorem mt_X5_init : g_MT yX5_init Y_X5_init 0 := ⟨g_T_mem (i := 168) (w := .code yX5_init cX5_init 1 (none)) (by decide +kernel) (by decide +kernel), g_T_mem (i := 101) (w := .initialized RX5) (by decide +kernel) (by decide +kernel), by decide +kernel, by decide⟩
abbrev Y_X5_yearns : g_Y := (cX5_yearns, 5, some .int, RX5, "yearns")
theorem mt_X5_yearns : g_MT yX5_yearns Y_X5_yearns 4 := ⟨g_T_mem (i := 439) (w := .code yX5_yearns cX5_yearns 5 (some .int)) (by decide +kernel) (by decide +kernel), g_T_mem (i := 101) (w := .initialized RX5) (by decide +kernel) (by decide +kernel), by decide +kernel, by decide⟩
abbrev Y_X5_bakes : g_Y := (cX5_bakes, 3, some .int, RX5, "bakes")
theorem mt_X5_bakes : g_MT yX5_bakes Y_X5_bakes 2 := ⟨g_T_mem (i := 504) (w := .code yX5_bakes cX5_bakes 3 (some .int)) (by decide +kernel) (by decide +kernel), g_T_mem (i := 101) (w := .initialized RX5) (by decide +kernel) (by decide +kernel), by decide +kernel, by decide⟩
abbrev Y_X5_longs : g_Y := (cX5_longs, 3, some .int, RX5, "longs")
theorem mt_X5_longs : g_MT yX5_longs Y_X5_longs 2 := ⟨g_T_mem (i := 1111) (w := .code yX5_longs cX5_longs 3 (some .int)) (by decide +kernel) (by decide +kernel), g_T_mem (i := 101) (w := .initialized RX5) (by decide +kernel) (by decide +kernel), by decide +kernel, by decide⟩
abbrev Y_X5_parts : g_Y := (cX5_parts, 4, some .int, RX5, "parts")
theorem mt_X5_parts : g_MT yX5_parts Y_X5_parts 2 := ⟨g_T_mem (i := 1132) (w := .code yX5_parts cX5_parts 4 (some .int)) (by decide +kernel) (by decide +kernel), g_T_mem (i := 101) (w := .initialized RX5) (by decide +kernel) (by decide +kernel), by decide +kernel, by decide⟩
abbrev Y_X6_init : g_Y := (cX6_init, 1, none, RX6, "<init>")
theorem mt_X6_init : g_MT yX6_init Y_X6_init 0 := ⟨g_T_mem (i := 147) (w := .code yX6_init cX6_init 1 (none)) (by decide +kernel) (by decide +kernel), g_T_mem (i := 98) (w := .initialized RX6) (by decide +kernel) (by decide +kernel), by decide +kernel, by decide⟩
abbrev Y_X6_yearns : g_Y := (cX6_yearns, 5, some .int, RX6, "yearns")
theorem mt_X6_yearns : g_MT yX6_yearns Y_X6_yearns 4 := ⟨g_T_mem (i := 443) (w := .code yX6_yearns cX6_yearns 5 (some .int)) (by decide +kernel) (by decide +kernel), g_T_mem (i := 98) (w := .initialized RX6) (by decide +kernel) (by decide +kernel), by decide +kernel, by decide⟩
abbrev Y_X6_bakes : g_Y := (cX6_bakes, 3, some .int, RX6, "bakes")
theorem mt_X6_bakes : g_MT yX6_bakes Y_X6_bakes 2 := ⟨g_T_mem (i := 499) (w := .code yX6_bakes cX6_bakes 3 (some .int)) (by decide +kernel) (by decide +kernel), g_T_mem (i := 98) (w := .initialized RX6) (by decide +kernel) (by decide +kernel), by decide +kernel, by decide⟩
abbrev Y_X6_longs : g_Y := (cX6_longs, 3, some .int, RX6, "longs")
theorem mt_X6_longs : g_MT yX6_longs Y_X6_longs 2 := ⟨g_T_mem (i := 1105) (w := .code yX6_longs cX6_longs 3 (some .int)) (by decide +kernel) (by decide +kernel), g_T_mem (i := 98) (w := .initialized RX6) (by decide +kernel) (by decide +kernel), by decide +kernel, by decide⟩
abbrev Y_X7_init : g_Y := (cX7_init, 2, none, RX7, "<init>")
theorem mt_X7_init : g_MT yX7_init Y_X7_init 1 := ⟨g_T_mem (i := 175) (w := .code yX7_init cX7_init 2 (none)) (by decide +kernel) (by decide +kernel), g_T_mem (i := 102) (w := .initialized RX7) (by decide +kernel) (by decide +kernel), by decide +kernel, by decide⟩
abbrev Y_X7_addRule : g_Y := (cX7_addRule, 3, none, RX7, "addRule")
theorem mt_X7_addRule : g_MT yX7_addRule Y_X7_addRule 2 := ⟨g_T_mem (i := 703) (w := .code yX7_addRule cX7_addRule 3 (none)) (by decide +kernel) (by decide +kernel), g_T_mem (i := 102) (w := .initialized RX7) (by decide +kernel) (by decide +kernel), by decide +kernel, by decide⟩
theorem mv_X7_addRule : Cond.instanceMethod yX7_addRule ∈ g_T ∧ Cond.selects RX7 yX7_addRule yX7_addRule ∈ g_T := ⟨g_T_mem (i := 701) (w := .instanceMethod yX7_addRule) (by decide +kernel) (by decide +kernel), g_T_mem (i := 702) (w := .selects RX7 yX7_addRule yX7_addRule) (by decide +kernel) (by decide +kernel)⟩
abbrev Y_X7_addStep : g_Y := (cX7_addStep, 5, none, RX7, "addStep")
theorem mt_X7_addStep : g_MT yX7_addStep Y_X7_addStep 3 := ⟨g_T_mem (i := 699) (w := .code yX7_addStep cX7_addStep 5 (none)) (by decide +kernel) (by decide +kernel), g_T_mem (i := 102) (w := .initialized RX7) (by decide +kernel) (by decide +kernel), by decide +kernel, by decide⟩
theorem mv_X7_addStep : Cond.instanceMethod yX7_addStep ∈ g_T ∧ Cond.selects RX7 yX7_addStep yX7_addStep ∈ g_T := ⟨g_T_mem (i := 697) (w := .instanceMethod yX7_addStep) (by decide +kernel) (by decide +kernel), g_T_mem (i := 698) (w := .selects RX7 yX7_addStep yX7_addStep) (by decide +kernel) (by decide +kernel)⟩
abbrev Y_X7_tellsOf : g_Y := (cX7_tellsOf, 4, some .int, RX7, "tellsOf")
theorem mt_X7_tellsOf : g_MT yX7_tellsOf Y_X7_tellsOf 2 := ⟨g_T_mem (i := 457) (w := .code yX7_tellsOf cX7_tellsOf 4 (some .int)) (by decide +kernel) (by decide +kernel), g_T_mem (i := 102) (w := .initialized RX7) (by decide +kernel) (by decide +kernel), by decide +kernel, by decide⟩
theorem mv_X7_tellsOf : Cond.instanceMethod yX7_tellsOf ∈ g_T ∧ Cond.selects RX7 yX7_tellsOf yX7_tellsOf ∈ g_T := ⟨g_T_mem (i := 455) (w := .instanceMethod yX7_tellsOf) (by decide +kernel) (by decide +kernel), g_T_mem (i := 456) (w := .selects RX7 yX7_tellsOf yX7_tellsOf) (by decide +kernel) (by decide +kernel)⟩
abbrev Y_X7_holds : g_Y := (cX7_holds, 7, some .boolean, RX7, "holds")
theorem mt_X7_holds : g_MT yX7_holds Y_X7_holds 2 := ⟨g_T_mem (i := 466) (w := .code yX7_holds cX7_holds 7 (some .boolean)) (by decide +kernel) (by decide +kernel), g_T_mem (i := 102) (w := .initialized RX7) (by decide +kernel) (by decide +kernel), by decide +kernel, by decide⟩
theorem mv_X7_holds : Cond.instanceMethod yX7_holds ∈ g_T ∧ Cond.selects RX7 yX7_holds yX7_holds ∈ g_T := ⟨g_T_mem (i := 465) (w := .instanceMethod yX7_holds) (by decide +kernel) (by decide +kernel), g_T_mem (i := 2) (w := .selects RX7 yX7_holds yX7_holds) (by decide +kernel) (by decide +kernel)⟩
abbrev Y_X7_compares : g_Y := (cX7_compares, 5, some .boolean, RX7, "compares")
theorem mt_X7_compares : g_MT yX7_compares Y_X7_compares 2 := ⟨g_T_mem (i := 470) (w := .code yX7_compares cX7_compares 5 (some .boolean)) (by decide +kernel) (by decide +kernel), g_T_mem (i := 102) (w := .initialized RX7) (by decide +kernel) (by decide +kernel), by decide +kernel, by decide⟩
theorem mv_X7_compares : Cond.instanceMethod yX7_compares ∈ g_T ∧ Cond.selects RX7 yX7_compares yX7_compares ∈ g_T := ⟨g_T_mem (i := 469) (w := .instanceMethod yX7_compares) (by decide +kernel) (by decide +kernel), g_T_mem (i := 3) (w := .selects RX7 yX7_compares yX7_compares) (by decide +kernel) (by decide +kernel)⟩
abbrev Y_X7_valueOf : g_Y := (cX7_valueOf, 3, some .int, RX7, "valueOf")
theorem mt_X7_valueOf : g_MT yX7_valueOf Y_X7_valueOf 2 := ⟨g_T_mem (i := 473) (w := .code yX7_valueOf cX7_valueOf 3 (some .int)) (by decide +kernel) (by decide +kernel), g_T_mem (i := 102) (w := .initialized RX7) (by decide +kernel) (by decide +kernel), by decide +kernel, by decide⟩
theorem ms_X7_valueOf : Cond.static yX7_valueOf ∈ g_T := g_T_mem (i := 472) (w := .static yX7_valueOf) (by decide +kernel) (by decide +kernel)
abbrev Y_X8_init : g_Y := (cX8_init, 1, none, RX8, "<init>")
theorem mt_X8_init : g_MT yX8_init Y_X8_init 0 := ⟨g_T_mem (i := 287) (w := .code yX8_init cX8_init 1 (none)) (by decide +kernel) (by decide +kernel), g_T_mem (i := 105) (w := .initialized RX8) (by decide +kernel) (by decide +kernel), by decide +kernel, by decide⟩
abbrev Y_X8_takeByte : g_Y := (cX8_takeByte, 2, none, RX8, "takeByte")
theorem mt_X8_takeByte : g_MT yX8_takeByte Y_X8_takeByte 1 := ⟨g_T_mem (i := 581) (w := .code yX8_takeByte cX8_takeByte 2 (none)) (by decide +kernel) (by decide +kernel), g_T_mem (i := 105) (w := .initialized RX8) (by decide +kernel) (by decide +kernel), by decide +kernel, by decide⟩
theorem mv_X8_takeByte : Cond.instanceMethod yX8_takeByte ∈ g_T ∧ Cond.selects RX8 yX8_takeByte yX8_takeByte ∈ g_T := ⟨g_T_mem (i := 579) (w := .instanceMethod yX8_takeByte) (by decide +kernel) (by decide +kernel), g_T_mem (i := 580) (w := .selects RX8 yX8_takeByte yX8_takeByte) (by decide +kernel) (by decide +kernel)⟩
abbrev Y_X8_readTape : g_Y := (cX8_readTape, 4, some (.object "OvenPairs$Rules"), RX8, "readTape")
theorem mt_X8_readTape : g_MT yX8_readTape Y_X8_readTape 0 := ⟨g_T_mem (i := 589) (w := .code yX8_readTape cX8_readTape 4 (some (.object "OvenPairs$Rules"))) (by decide +kernel) (by decide +kernel), g_T_mem (i := 105) (w := .initialized RX8) (by decide +kernel) (by decide +kernel), by decide +kernel, by decide⟩
theorem mv_X8_readTape : Cond.instanceMethod yX8_readTape ∈ g_T ∧ Cond.selects RX8 yX8_readTape yX8_readTape ∈ g_T := ⟨g_T_mem (i := 587) (w := .instanceMethod yX8_readTape) (by decide +kernel) (by decide +kernel), g_T_mem (i := 588) (w := .selects RX8 yX8_readTape yX8_readTape) (by decide +kernel) (by decide +kernel)⟩
abbrev Y_X8_splitTape : g_Y := (cX8_splitTape, 3, none, RX8, "splitTape")
theorem mt_X8_splitTape : g_MT yX8_splitTape Y_X8_splitTape 0 := ⟨g_T_mem (i := 593) (w := .code yX8_splitTape cX8_splitTape 3 (none)) (by decide +kernel) (by decide +kernel), g_T_mem (i := 105) (w := .initialized RX8) (by decide +kernel) (by decide +kernel), by decide +kernel, by decide⟩
theorem mv_X8_splitTape : Cond.instanceMethod yX8_splitTape ∈ g_T ∧ Cond.selects RX8 yX8_splitTape yX8_splitTape ∈ g_T := ⟨g_T_mem (i := 592) (w := .instanceMethod yX8_splitTape) (by decide +kernel) (by decide +kernel), g_T_mem (i := 5) (w := .selects RX8 yX8_splitTape yX8_splitTape) (by decide +kernel) (by decide +kernel)⟩
abbrev Y_X8_isLetter : g_Y := (cX8_isLetter, 1, some .boolean, RX8, "isLetter")
theorem mt_X8_isLetter : g_MT yX8_isLetter Y_X8_isLetter 1 := ⟨g_T_mem (i := 600) (w := .code yX8_isLetter cX8_isLetter 1 (some .boolean)) (by decide +kernel) (by decide +kernel), g_T_mem (i := 105) (w := .initialized RX8) (by decide +kernel) (by decide +kernel), by decide +kernel, by decide⟩
theorem ms_X8_isLetter : Cond.static yX8_isLetter ∈ g_T := g_T_mem (i := 599) (w := .static yX8_isLetter) (by decide +kernel) (by decide +kernel)
abbrev Y_X8_isDigit : g_Y := (cX8_isDigit, 1, some .boolean, RX8, "isDigit")
theorem mt_X8_isDigit : g_MT yX8_isDigit Y_X8_isDigit 1 := ⟨g_T_mem (i := 603) (w := .code yX8_isDigit cX8_isDigit 1 (some .boolean)) (by decide +kernel) (by decide +kernel), g_T_mem (i := 105) (w := .initialized RX8) (by decide +kernel) (by decide +kernel), by decide +kernel, by decide⟩
theorem ms_X8_isDigit : Cond.static yX8_isDigit ∈ g_T := g_T_mem (i := 602) (w := .static yX8_isDigit) (by decide +kernel) (by decide +kernel)
abbrev Y_X8_wordEnd : g_Y := (cX8_wordEnd, 3, some .int, RX8, "wordEnd")
theorem mt_X8_wordEnd : g_MT yX8_wordEnd Y_X8_wordEnd 1 := ⟨g_T_mem (i := 597) (w := .code yX8_wordEnd cX8_wordEnd 3 (some .int)) (by decide +kernel) (by decide +kernel), g_T_mem (i := 105) (w := .initialized RX8) (by decide +kernel) (by decide +kernel), by decide +kernel, by decide⟩
theorem mv_X8_wordEnd : Cond.instanceMethod yX8_wordEnd ∈ g_T ∧ Cond.selects RX8 yX8_wordEnd yX8_wordEnd ∈ g_T := ⟨g_T_mem (i := 596) (w := .instanceMethod yX8_wordEnd) (by decide +kernel) (by decide +kernel), g_T_mem (i := 6) (w := .selects RX8 yX8_wordEnd yX8_wordEnd) (by decide +kernel) (by decide +kernel)⟩
abbrev Y_X8_codeOf : g_Y := (cX8_codeOf, 3, some .int, RX8, "codeOf")
theorem mt_X8_codeOf : g_MT yX8_codeOf Y_X8_codeOf 2 := ⟨g_T_mem (i := 607) (w := .code yX8_codeOf cX8_codeOf 3 (some .int)) (by decide +kernel) (by decide +kernel), g_T_mem (i := 105) (w := .initialized RX8) (by decide +kernel) (by decide +kernel), by decide +kernel, by decide⟩
theorem mv_X8_codeOf : Cond.instanceMethod yX8_codeOf ∈ g_T ∧ Cond.selects RX8 yX8_codeOf yX8_codeOf ∈ g_T := ⟨g_T_mem (i := 606) (w := .instanceMethod yX8_codeOf) (by decide +kernel) (by decide +kernel), g_T_mem (i := 7) (w := .selects RX8 yX8_codeOf yX8_codeOf) (by decide +kernel) (by decide +kernel)⟩
abbrev Y_X8_nameCode : g_Y := (cX8_nameCode, 4, some .int, RX8, "nameCode")
theorem mt_X8_nameCode : g_MT yX8_nameCode Y_X8_nameCode 2 := ⟨g_T_mem (i := 611) (w := .code yX8_nameCode cX8_nameCode 4 (some .int)) (by decide +kernel) (by decide +kernel), g_T_mem (i := 105) (w := .initialized RX8) (by decide +kernel) (by decide +kernel), by decide +kernel, by decide⟩
theorem mv_X8_nameCode : Cond.instanceMethod yX8_nameCode ∈ g_T ∧ Cond.selects RX8 yX8_nameCode yX8_nameCode ∈ g_T := ⟨g_T_mem (i := 610) (w := .instanceMethod yX8_nameCode) (by decide +kernel) (by decide +kernel), g_T_mem (i := 8) (w := .selects RX8 yX8_nameCode yX8_nameCode) (by decide +kernel) (by decide +kernel)⟩
abbrev Y_X8_isName : g_Y := (cX8_isName, 6, some .boolean, RX8, "isName")
theorem mt_X8_isName : g_MT yX8_isName Y_X8_isName 3 := ⟨g_T_mem (i := 615) (w := .code yX8_isName cX8_isName 6 (some .boolean)) (by decide +kernel) (by decide +kernel), g_T_mem (i := 105) (w := .initialized RX8) (by decide +kernel) (by decide +kernel), by decide +kernel, by decide⟩
theorem mv_X8_isName : Cond.instanceMethod yX8_isName ∈ g_T ∧ Cond.selects RX8 yX8_isName yX8_isName ∈ g_T := ⟨g_T_mem (i := 614) (w := .instanceMethod yX8_isName) (by decide +kernel) (by decide +kernel), g_T_mem (i := 9) (w := .selects RX8 yX8_isName yX8_isName) (by decide +kernel) (by decide +kernel)⟩
abbrev Y_X8_numberOf : g_Y := (cX8_numberOf, 5, some .int, RX8, "numberOf")
theorem mt_X8_numberOf : g_MT yX8_numberOf Y_X8_numberOf 2 := ⟨g_T_mem (i := 660) (w := .code yX8_numberOf cX8_numberOf 5 (some .int)) (by decide +kernel) (by decide +kernel), g_T_mem (i := 105) (w := .initialized RX8) (by decide +kernel) (by decide +kernel), by decide +kernel, by decide⟩
theorem mv_X8_numberOf : Cond.instanceMethod yX8_numberOf ∈ g_T ∧ Cond.selects RX8 yX8_numberOf yX8_numberOf ∈ g_T := ⟨g_T_mem (i := 659) (w := .instanceMethod yX8_numberOf) (by decide +kernel) (by decide +kernel), g_T_mem (i := 10) (w := .selects RX8 yX8_numberOf yX8_numberOf) (by decide +kernel) (by decide +kernel)⟩
abbrev Y_X8_pass : g_Y := (cX8_pass, 4, some .boolean, RX8, "pass")
theorem mt_X8_pass : g_MT yX8_pass Y_X8_pass 2 := ⟨g_T_mem (i := 671) (w := .code yX8_pass cX8_pass 4 (some .boolean)) (by decide +kernel) (by decide +kernel), g_T_mem (i := 105) (w := .initialized RX8) (by decide +kernel) (by decide +kernel), by decide +kernel, by decide⟩
theorem mv_X8_pass : Cond.instanceMethod yX8_pass ∈ g_T ∧ Cond.selects RX8 yX8_pass yX8_pass ∈ g_T := ⟨g_T_mem (i := 670) (w := .instanceMethod yX8_pass) (by decide +kernel) (by decide +kernel), g_T_mem (i := 12) (w := .selects RX8 yX8_pass yX8_pass) (by decide +kernel) (by decide +kernel)⟩
abbrev Y_X8_readRule : g_Y := (cX8_readRule, 4, some .boolean, RX8, "readRule")
theorem mt_X8_readRule : g_MT yX8_readRule Y_X8_readRule 1 := ⟨g_T_mem (i := 667) (w := .code yX8_readRule cX8_readRule 4 (some .boolean)) (by decide +kernel) (by decide +kernel), g_T_mem (i := 105) (w := .initialized RX8) (by decide +kernel) (by decide +kernel), by decide +kernel, by decide⟩
theorem mv_X8_readRule : Cond.instanceMethod yX8_readRule ∈ g_T ∧ Cond.selects RX8 yX8_readRule yX8_readRule ∈ g_T := ⟨g_T_mem (i := 666) (w := .instanceMethod yX8_readRule) (by decide +kernel) (by decide +kernel), g_T_mem (i := 11) (w := .selects RX8 yX8_readRule yX8_readRule) (by decide +kernel) (by decide +kernel)⟩
abbrev Y_X8_readCondition : g_Y := (cX8_readCondition, 4, some .boolean, RX8, "readCondition")
theorem mt_X8_readCondition : g_MT yX8_readCondition Y_X8_readCondition 2 := ⟨g_T_mem (i := 675) (w := .code yX8_readCondition cX8_readCondition 4 (some .boolean)) (by decide +kernel) (by decide +kernel), g_T_mem (i := 105) (w := .initialized RX8) (by decide +kernel) (by decide +kernel), by decide +kernel, by decide⟩
theorem mv_X8_readCondition : Cond.instanceMethod yX8_readCondition ∈ g_T ∧ Cond.selects RX8 yX8_readCondition yX8_readCondition ∈ g_T := ⟨g_T_mem (i := 674) (w := .instanceMethod yX8_readCondition) (by decide +kernel) (by decide +kernel), g_T_mem (i := 13) (w := .selects RX8 yX8_readCondition yX8_readCondition) (by decide +kernel) (by decide +kernel)⟩
abbrev Y_X8_readAll : g_Y := (cX8_readAll, 4, some .boolean, RX8, "readAll")
theorem mt_X8_readAll : g_MT yX8_readAll Y_X8_readAll 2 := ⟨g_T_mem (i := 679) (w := .code yX8_readAll cX8_readAll 4 (some .boolean)) (by decide +kernel) (by decide +kernel), g_T_mem (i := 105) (w := .initialized RX8) (by decide +kernel) (by decide +kernel), by decide +kernel, by decide⟩
theorem mv_X8_readAll : Cond.instanceMethod yX8_readAll ∈ g_T ∧ Cond.selects RX8 yX8_readAll yX8_readAll ∈ g_T := ⟨g_T_mem (i := 678) (w := .instanceMethod yX8_readAll) (by decide +kernel) (by decide +kernel), g_T_mem (i := 14) (w := .selects RX8 yX8_readAll yX8_readAll) (by decide +kernel) (by decide +kernel)⟩
abbrev Y_X8_readOne : g_Y := (cX8_readOne, 5, some .boolean, RX8, "readOne")
theorem mt_X8_readOne : g_MT yX8_readOne Y_X8_readOne 2 := ⟨g_T_mem (i := 683) (w := .code yX8_readOne cX8_readOne 5 (some .boolean)) (by decide +kernel) (by decide +kernel), g_T_mem (i := 105) (w := .initialized RX8) (by decide +kernel) (by decide +kernel), by decide +kernel, by decide⟩
theorem mv_X8_readOne : Cond.instanceMethod yX8_readOne ∈ g_T ∧ Cond.selects RX8 yX8_readOne yX8_readOne ∈ g_T := ⟨g_T_mem (i := 682) (w := .instanceMethod yX8_readOne) (by decide +kernel) (by decide +kernel), g_T_mem (i := 15) (w := .selects RX8 yX8_readOne yX8_readOne) (by decide +kernel) (by decide +kernel)⟩
abbrev Y_X8_readBracket : g_Y := (cX8_readBracket, 3, some .boolean, RX8, "readBracket")
theorem mt_X8_readBracket : g_MT yX8_readBracket Y_X8_readBracket 2 := ⟨g_T_mem (i := 687) (w := .code yX8_readBracket cX8_readBracket 3 (some .boolean)) (by decide +kernel) (by decide +kernel), g_T_mem (i := 105) (w := .initialized RX8) (by decide +kernel) (by decide +kernel), by decide +kernel, by decide⟩
theorem mv_X8_readBracket : Cond.instanceMethod yX8_readBracket ∈ g_T ∧ Cond.selects RX8 yX8_readBracket yX8_readBracket ∈ g_T := ⟨g_T_mem (i := 686) (w := .instanceMethod yX8_readBracket) (by decide +kernel) (by decide +kernel), g_T_mem (i := 16) (w := .selects RX8 yX8_readBracket yX8_readBracket) (by decide +kernel) (by decide +kernel)⟩
abbrev Y_X8_readSign : g_Y := (cX8_readSign, 5, some .boolean, RX8, "readSign")
theorem mt_X8_readSign : g_MT yX8_readSign Y_X8_readSign 1 := ⟨g_T_mem (i := 691) (w := .code yX8_readSign cX8_readSign 5 (some .boolean)) (by decide +kernel) (by decide +kernel), g_T_mem (i := 105) (w := .initialized RX8) (by decide +kernel) (by decide +kernel), by decide +kernel, by decide⟩
theorem mv_X8_readSign : Cond.instanceMethod yX8_readSign ∈ g_T ∧ Cond.selects RX8 yX8_readSign yX8_readSign ∈ g_T := ⟨g_T_mem (i := 690) (w := .instanceMethod yX8_readSign) (by decide +kernel) (by decide +kernel), g_T_mem (i := 17) (w := .selects RX8 yX8_readSign yX8_readSign) (by decide +kernel) (by decide +kernel)⟩
abbrev Y_X8_valueHere : g_Y := (cX8_valueHere, 2, some .int, RX8, "valueHere")
theorem mt_X8_valueHere : g_MT yX8_valueHere Y_X8_valueHere 0 := ⟨g_T_mem (i := 695) (w := .code yX8_valueHere cX8_valueHere 2 (some .int)) (by decide +kernel) (by decide +kernel), g_T_mem (i := 105) (w := .initialized RX8) (by decide +kernel) (by decide +kernel), by decide +kernel, by decide⟩
theorem mv_X8_valueHere : Cond.instanceMethod yX8_valueHere ∈ g_T ∧ Cond.selects RX8 yX8_valueHere yX8_valueHere ∈ g_T := ⟨g_T_mem (i := 694) (w := .instanceMethod yX8_valueHere) (by decide +kernel) (by decide +kernel), g_T_mem (i := 18) (w := .selects RX8 yX8_valueHere yX8_valueHere) (by decide +kernel) (by decide +kernel)⟩
abbrev Y_X9_init : g_Y := (cX9_init, 1, none, RX9, "<init>")
theorem mt_X9_init : g_MT yX9_init Y_X9_init 0 := ⟨g_T_mem (i := 126) (w := .code yX9_init cX9_init 1 (none)) (by decide +kernel) (by decide +kernel), g_T_mem (i := 95) (w := .initialized RX9) (by decide +kernel) (by decide +kernel), by decide +kernel, by decide⟩
abbrev Y_X9_copyFrom : g_Y := (cX9_copyFrom, 2, none, RX9, "copyFrom")
theorem mt_X9_copyFrom : g_MT yX9_copyFrom Y_X9_copyFrom 1 := ⟨g_T_mem (i := 1175) (w := .code yX9_copyFrom cX9_copyFrom 2 (none)) (by decide +kernel) (by decide +kernel), g_T_mem (i := 95) (w := .initialized RX9) (by decide +kernel) (by decide +kernel), by decide +kernel, by decide⟩
theorem mv_X9_copyFrom : Cond.instanceMethod yX9_copyFrom ∈ g_T ∧ Cond.selects RX9 yX9_copyFrom yX9_copyFrom ∈ g_T := ⟨g_T_mem (i := 1173) (w := .instanceMethod yX9_copyFrom) (by decide +kernel) (by decide +kernel), g_T_mem (i := 1174) (w := .selects RX9 yX9_copyFrom yX9_copyFrom) (by decide +kernel) (by decide +kernel)⟩
abbrev Y_X9_addOven : g_Y := (cX9_addOven, 6, some .int, RX9, "addOven")
theorem mt_X9_addOven : g_MT yX9_addOven Y_X9_addOven 4 := ⟨g_T_mem (i := 415) (w := .code yX9_addOven cX9_addOven 6 (some .int)) (by decide +kernel) (by decide +kernel), g_T_mem (i := 95) (w := .initialized RX9) (by decide +kernel) (by decide +kernel), by decide +kernel, by decide⟩
theorem mv_X9_addOven : Cond.instanceMethod yX9_addOven ∈ g_T ∧ Cond.selects RX9 yX9_addOven yX9_addOven ∈ g_T := ⟨g_T_mem (i := 413) (w := .instanceMethod yX9_addOven) (by decide +kernel) (by decide +kernel), g_T_mem (i := 414) (w := .selects RX9 yX9_addOven yX9_addOven) (by decide +kernel) (by decide +kernel)⟩
abbrev Y_X9_replace : g_Y := (cX9_replace, 5, some .int, RX9, "replace")
theorem mt_X9_replace : g_MT yX9_replace Y_X9_replace 3 := ⟨g_T_mem (i := 543) (w := .code yX9_replace cX9_replace 5 (some .int)) (by decide +kernel) (by decide +kernel), g_T_mem (i := 95) (w := .initialized RX9) (by decide +kernel) (by decide +kernel), by decide +kernel, by decide⟩
theorem mv_X9_replace : Cond.instanceMethod yX9_replace ∈ g_T ∧ Cond.selects RX9 yX9_replace yX9_replace ∈ g_T := ⟨g_T_mem (i := 541) (w := .instanceMethod yX9_replace) (by decide +kernel) (by decide +kernel), g_T_mem (i := 542) (w := .selects RX9 yX9_replace yX9_replace) (by decide +kernel) (by decide +kernel)⟩
abbrev Y_X9_replaceAway : g_Y := (cX9_replaceAway, 4, some .int, RX9, "replaceAway")
theorem mt_X9_replaceAway : g_MT yX9_replaceAway Y_X9_replaceAway 2 := ⟨g_T_mem (i := 547) (w := .code yX9_replaceAway cX9_replaceAway 4 (some .int)) (by decide +kernel) (by decide +kernel), g_T_mem (i := 95) (w := .initialized RX9) (by decide +kernel) (by decide +kernel), by decide +kernel, by decide⟩
theorem mv_X9_replaceAway : Cond.instanceMethod yX9_replaceAway ∈ g_T ∧ Cond.selects RX9 yX9_replaceAway yX9_replaceAway ∈ g_T := ⟨g_T_mem (i := 545) (w := .instanceMethod yX9_replaceAway) (by decide +kernel) (by decide +kernel), g_T_mem (i := 546) (w := .selects RX9 yX9_replaceAway yX9_replaceAway) (by decide +kernel) (by decide +kernel)⟩
abbrev Y_X9_obey : g_Y := (cX9_obey, 3, none, RX9, "obey")
theorem mt_X9_obey : g_MT yX9_obey Y_X9_obey 1 := ⟨g_T_mem (i := 707) (w := .code yX9_obey cX9_obey 3 (none)) (by decide +kernel) (by decide +kernel), g_T_mem (i := 95) (w := .initialized RX9) (by decide +kernel) (by decide +kernel), by decide +kernel, by decide⟩
theorem mv_X9_obey : Cond.instanceMethod yX9_obey ∈ g_T ∧ Cond.selects RX9 yX9_obey yX9_obey ∈ g_T := ⟨g_T_mem (i := 705) (w := .instanceMethod yX9_obey) (by decide +kernel) (by decide +kernel), g_T_mem (i := 706) (w := .selects RX9 yX9_obey yX9_obey) (by decide +kernel) (by decide +kernel)⟩
abbrev Y_X9_settle : g_Y := (cX9_settle, 3, none, RX9, "settle")
theorem mt_X9_settle : g_MT yX9_settle Y_X9_settle 1 := ⟨g_T_mem (i := 419) (w := .code yX9_settle cX9_settle 3 (none)) (by decide +kernel) (by decide +kernel), g_T_mem (i := 95) (w := .initialized RX9) (by decide +kernel) (by decide +kernel), by decide +kernel, by decide⟩
theorem mv_X9_settle : Cond.instanceMethod yX9_settle ∈ g_T ∧ Cond.selects RX9 yX9_settle yX9_settle ∈ g_T := ⟨g_T_mem (i := 417) (w := .instanceMethod yX9_settle) (by decide +kernel) (by decide +kernel), g_T_mem (i := 418) (w := .selects RX9 yX9_settle yX9_settle) (by decide +kernel) (by decide +kernel)⟩
abbrev Y_X9_settleWish : g_Y := (cX9_settleWish, 4, none, RX9, "settleWish")
theorem mt_X9_settleWish : g_MT yX9_settleWish Y_X9_settleWish 2 := ⟨g_T_mem (i := 423) (w := .code yX9_settleWish cX9_settleWish 4 (none)) (by decide +kernel) (by decide +kernel), g_T_mem (i := 95) (w := .initialized RX9) (by decide +kernel) (by decide +kernel), by decide +kernel, by decide⟩
theorem mv_X9_settleWish : Cond.instanceMethod yX9_settleWish ∈ g_T ∧ Cond.selects RX9 yX9_settleWish yX9_settleWish ∈ g_T := ⟨g_T_mem (i := 422) (w := .instanceMethod yX9_settleWish) (by decide +kernel) (by decide +kernel), g_T_mem (i := 0) (w := .selects RX9 yX9_settleWish yX9_settleWish) (by decide +kernel) (by decide +kernel)⟩
abbrev Y_X9_settleWills : g_Y := (cX9_settleWills, 3, none, RX9, "settleWills")
theorem mt_X9_settleWills : g_MT yX9_settleWills Y_X9_settleWills 1 := ⟨g_T_mem (i := 453) (w := .code yX9_settleWills cX9_settleWills 3 (none)) (by decide +kernel) (by decide +kernel), g_T_mem (i := 95) (w := .initialized RX9) (by decide +kernel) (by decide +kernel), by decide +kernel, by decide⟩
theorem mv_X9_settleWills : Cond.instanceMethod yX9_settleWills ∈ g_T ∧ Cond.selects RX9 yX9_settleWills yX9_settleWills ∈ g_T := ⟨g_T_mem (i := 452) (w := .instanceMethod yX9_settleWills) (by decide +kernel) (by decide +kernel), g_T_mem (i := 1) (w := .selects RX9 yX9_settleWills yX9_settleWills) (by decide +kernel) (by decide +kernel)⟩
abbrev Y_X9_isOver : g_Y := (cX9_isOver, 1, some .boolean, RX9, "isOver")
theorem mt_X9_isOver : g_MT yX9_isOver Y_X9_isOver 0 := ⟨g_T_mem (i := 572) (w := .code yX9_isOver cX9_isOver 1 (some .boolean)) (by decide +kernel) (by decide +kernel), g_T_mem (i := 95) (w := .initialized RX9) (by decide +kernel) (by decide +kernel), by decide +kernel, by decide⟩
theorem mv_X9_isOver : Cond.instanceMethod yX9_isOver ∈ g_T ∧ Cond.selects RX9 yX9_isOver yX9_isOver ∈ g_T := ⟨g_T_mem (i := 570) (w := .instanceMethod yX9_isOver) (by decide +kernel) (by decide +kernel), g_T_mem (i := 571) (w := .selects RX9 yX9_isOver yX9_isOver) (by decide +kernel) (by decide +kernel)⟩
abbrev Y_X9_nightsOf : g_Y := (cX9_nightsOf, 2, some .int, RX9, "nightsOf")
theorem mt_X9_nightsOf : g_MT yX9_nightsOf Y_X9_nightsOf 1 := ⟨g_T_mem (i := 743) (w := .code yX9_nightsOf cX9_nightsOf 2 (some .int)) (by decide +kernel) (by decide +kernel), g_T_mem (i := 95) (w := .initialized RX9) (by decide +kernel) (by decide +kernel), by decide +kernel, by decide⟩
theorem mv_X9_nightsOf : Cond.instanceMethod yX9_nightsOf ∈ g_T ∧ Cond.selects RX9 yX9_nightsOf yX9_nightsOf ∈ g_T := ⟨g_T_mem (i := 741) (w := .instanceMethod yX9_nightsOf) (by decide +kernel) (by decide +kernel), g_T_mem (i := 742) (w := .selects RX9 yX9_nightsOf yX9_nightsOf) (by decide +kernel) (by decide +kernel)⟩
abbrev Y_X9_everybody : g_Y := (cX9_everybody, 1, some .int, RX9, "everybody")
theorem mt_X9_everybody : g_MT yX9_everybody Y_X9_everybody 0 := ⟨g_T_mem (i := 800) (w := .code yX9_everybody cX9_everybody 1 (some .int)) (by decide +kernel) (by decide +kernel), g_T_mem (i := 95) (w := .initialized RX9) (by decide +kernel) (by decide +kernel), by decide +kernel, by decide⟩
theorem mv_X9_everybody : Cond.instanceMethod yX9_everybody ∈ g_T ∧ Cond.selects RX9 yX9_everybody yX9_everybody ∈ g_T := ⟨g_T_mem (i := 798) (w := .instanceMethod yX9_everybody) (by decide +kernel) (by decide +kernel), g_T_mem (i := 799) (w := .selects RX9 yX9_everybody yX9_everybody) (by decide +kernel) (by decide +kernel)⟩
abbrev Y_X9_wishOf : g_Y := (cX9_wishOf, 3, some .int, RX9, "wishOf")
theorem mt_X9_wishOf : g_MT yX9_wishOf Y_X9_wishOf 2 := ⟨g_T_mem (i := 535) (w := .code yX9_wishOf cX9_wishOf 3 (some .int)) (by decide +kernel) (by decide +kernel), g_T_mem (i := 95) (w := .initialized RX9) (by decide +kernel) (by decide +kernel), by decide +kernel, by decide⟩
theorem mv_X9_wishOf : Cond.instanceMethod yX9_wishOf ∈ g_T ∧ Cond.selects RX9 yX9_wishOf yX9_wishOf ∈ g_T := ⟨g_T_mem (i := 533) (w := .instanceMethod yX9_wishOf) (by decide +kernel) (by decide +kernel), g_T_mem (i := 534) (w := .selects RX9 yX9_wishOf yX9_wishOf) (by decide +kernel) (by decide +kernel)⟩
abbrev Y_X9_isPair : g_Y := (cX9_isPair, 3, some .boolean, RX9, "isPair")
theorem mt_X9_isPair : g_MT yX9_isPair Y_X9_isPair 2 := ⟨g_T_mem (i := 792) (w := .code yX9_isPair cX9_isPair 3 (some .boolean)) (by decide +kernel) (by decide +kernel), g_T_mem (i := 95) (w := .initialized RX9) (by decide +kernel) (by decide +kernel), by decide +kernel, by decide⟩
theorem mv_X9_isPair : Cond.instanceMethod yX9_isPair ∈ g_T ∧ Cond.selects RX9 yX9_isPair yX9_isPair ∈ g_T := ⟨g_T_mem (i := 790) (w := .instanceMethod yX9_isPair) (by decide +kernel) (by decide +kernel), g_T_mem (i := 791) (w := .selects RX9 yX9_isPair yX9_isPair) (by decide +kernel) (by decide +kernel)⟩
abbrev Y_X9_willOf : g_Y := (cX9_willOf, 3, some .int, RX9, "willOf")
theorem mt_X9_willOf : g_MT yX9_willOf Y_X9_willOf 2 := ⟨g_T_mem (i := 517) (w := .code yX9_willOf cX9_willOf 3 (some .int)) (by decide +kernel) (by decide +kernel), g_T_mem (i := 95) (w := .initialized RX9) (by decide +kernel) (by decide +kernel), by decide +kernel, by decide⟩
theorem mv_X9_willOf : Cond.instanceMethod yX9_willOf ∈ g_T ∧ Cond.selects RX9 yX9_willOf yX9_willOf ∈ g_T := ⟨g_T_mem (i := 515) (w := .instanceMethod yX9_willOf) (by decide +kernel) (by decide +kernel), g_T_mem (i := 516) (w := .selects RX9 yX9_willOf yX9_willOf) (by decide +kernel) (by decide +kernel)⟩
abbrev Y_X9_bakesOf : g_Y := (cX9_bakesOf, 3, some .int, RX9, "bakesOf")
theorem mt_X9_bakesOf : g_MT yX9_bakesOf Y_X9_bakesOf 2 := ⟨g_T_mem (i := 489) (w := .code yX9_bakesOf cX9_bakesOf 3 (some .int)) (by decide +kernel) (by decide +kernel), g_T_mem (i := 95) (w := .initialized RX9) (by decide +kernel) (by decide +kernel), by decide +kernel, by decide⟩
theorem mv_X9_bakesOf : Cond.instanceMethod yX9_bakesOf ∈ g_T ∧ Cond.selects RX9 yX9_bakesOf yX9_bakesOf ∈ g_T := ⟨g_T_mem (i := 487) (w := .instanceMethod yX9_bakesOf) (by decide +kernel) (by decide +kernel), g_T_mem (i := 488) (w := .selects RX9 yX9_bakesOf yX9_bakesOf) (by decide +kernel) (by decide +kernel)⟩
abbrev Y_X9_awayOf : g_Y := (cX9_awayOf, 3, some .int, RX9, "awayOf")
theorem mt_X9_awayOf : g_MT yX9_awayOf Y_X9_awayOf 2 := ⟨g_T_mem (i := 485) (w := .code yX9_awayOf cX9_awayOf 3 (some .int)) (by decide +kernel) (by decide +kernel), g_T_mem (i := 95) (w := .initialized RX9) (by decide +kernel) (by decide +kernel), by decide +kernel, by decide⟩
theorem mv_X9_awayOf : Cond.instanceMethod yX9_awayOf ∈ g_T ∧ Cond.selects RX9 yX9_awayOf yX9_awayOf ∈ g_T := ⟨g_T_mem (i := 483) (w := .instanceMethod yX9_awayOf) (by decide +kernel) (by decide +kernel), g_T_mem (i := 484) (w := .selects RX9 yX9_awayOf yX9_awayOf) (by decide +kernel) (by decide +kernel)⟩
abbrev Y_X9_homeSet : g_Y := (cX9_homeSet, 4, some .int, RX9, "homeSet")
theorem mt_X9_homeSet : g_MT yX9_homeSet Y_X9_homeSet 1 := ⟨g_T_mem (i := 525) (w := .code yX9_homeSet cX9_homeSet 4 (some .int)) (by decide +kernel) (by decide +kernel), g_T_mem (i := 95) (w := .initialized RX9) (by decide +kernel) (by decide +kernel), by decide +kernel, by decide⟩
theorem mv_X9_homeSet : Cond.instanceMethod yX9_homeSet ∈ g_T ∧ Cond.selects RX9 yX9_homeSet yX9_homeSet ∈ g_T := ⟨g_T_mem (i := 523) (w := .instanceMethod yX9_homeSet) (by decide +kernel) (by decide +kernel), g_T_mem (i := 524) (w := .selects RX9 yX9_homeSet yX9_homeSet) (by decide +kernel) (by decide +kernel)⟩
abbrev Y_X9_freeSet : g_Y := (cX9_freeSet, 6, some .int, RX9, "freeSet")
theorem mt_X9_freeSet : g_MT yX9_freeSet Y_X9_freeSet 3 := ⟨g_T_mem (i := 521) (w := .code yX9_freeSet cX9_freeSet 6 (some .int)) (by decide +kernel) (by decide +kernel), g_T_mem (i := 95) (w := .initialized RX9) (by decide +kernel) (by decide +kernel), by decide +kernel, by decide⟩
theorem mv_X9_freeSet : Cond.instanceMethod yX9_freeSet ∈ g_T ∧ Cond.selects RX9 yX9_freeSet yX9_freeSet ∈ g_T := ⟨g_T_mem (i := 519) (w := .instanceMethod yX9_freeSet) (by decide +kernel) (by decide +kernel), g_T_mem (i := 520) (w := .selects RX9 yX9_freeSet yX9_freeSet) (by decide +kernel) (by decide +kernel)⟩
abbrev Y_X9_choiceOf : g_Y := (cX9_choiceOf, 8, some .int, RX9, "choiceOf")
theorem mt_X9_choiceOf : g_MT yX9_choiceOf Y_X9_choiceOf 3 := ⟨g_T_mem (i := 531) (w := .code yX9_choiceOf cX9_choiceOf 8 (some .int)) (by decide +kernel) (by decide +kernel), g_T_mem (i := 95) (w := .initialized RX9) (by decide +kernel) (by decide +kernel), by decide +kernel, by decide⟩
theorem mv_X9_choiceOf : Cond.instanceMethod yX9_choiceOf ∈ g_T ∧ Cond.selects RX9 yX9_choiceOf yX9_choiceOf ∈ g_T := ⟨g_T_mem (i := 529) (w := .instanceMethod yX9_choiceOf) (by decide +kernel) (by decide +kernel), g_T_mem (i := 530) (w := .selects RX9 yX9_choiceOf yX9_choiceOf) (by decide +kernel) (by decide +kernel)⟩
abbrev Y_X9_oneLess : g_Y := (cX9_oneLess, 4, some .int, RX9, "oneLess")
theorem mt_X9_oneLess : g_MT yX9_oneLess Y_X9_oneLess 1 := ⟨g_T_mem (i := 724) (w := .code yX9_oneLess cX9_oneLess 4 (some .int)) (by decide +kernel) (by decide +kernel), g_T_mem (i := 95) (w := .initialized RX9) (by decide +kernel) (by decide +kernel), by decide +kernel, by decide⟩
theorem mv_X9_oneLess : Cond.instanceMethod yX9_oneLess ∈ g_T ∧ Cond.selects RX9 yX9_oneLess yX9_oneLess ∈ g_T := ⟨g_T_mem (i := 722) (w := .instanceMethod yX9_oneLess) (by decide +kernel) (by decide +kernel), g_T_mem (i := 723) (w := .selects RX9 yX9_oneLess yX9_oneLess) (by decide +kernel) (by decide +kernel)⟩
abbrev Y_X9_after : g_Y := (cX9_after, 9, some .int, RX9, "after")
theorem mt_X9_after : g_MT yX9_after Y_X9_after 3 := ⟨g_T_mem (i := 720) (w := .code yX9_after cX9_after 9 (some .int)) (by decide +kernel) (by decide +kernel), g_T_mem (i := 95) (w := .initialized RX9) (by decide +kernel) (by decide +kernel), by decide +kernel, by decide⟩
theorem mv_X9_after : Cond.instanceMethod yX9_after ∈ g_T ∧ Cond.selects RX9 yX9_after yX9_after ∈ g_T := ⟨g_T_mem (i := 718) (w := .instanceMethod yX9_after) (by decide +kernel) (by decide +kernel), g_T_mem (i := 719) (w := .selects RX9 yX9_after yX9_after) (by decide +kernel) (by decide +kernel)⟩
abbrev Y_X9_worthOf : g_Y := (cX9_worthOf, 5, some .int, RX9, "worthOf")
theorem mt_X9_worthOf : g_MT yX9_worthOf Y_X9_worthOf 2 := ⟨g_T_mem (i := 730) (w := .code yX9_worthOf cX9_worthOf 5 (some .int)) (by decide +kernel) (by decide +kernel), g_T_mem (i := 95) (w := .initialized RX9) (by decide +kernel) (by decide +kernel), by decide +kernel, by decide⟩
theorem mv_X9_worthOf : Cond.instanceMethod yX9_worthOf ∈ g_T ∧ Cond.selects RX9 yX9_worthOf yX9_worthOf ∈ g_T := ⟨g_T_mem (i := 728) (w := .instanceMethod yX9_worthOf) (by decide +kernel) (by decide +kernel), g_T_mem (i := 729) (w := .selects RX9 yX9_worthOf yX9_worthOf) (by decide +kernel) (by decide +kernel)⟩
abbrev Y_X9_passNight : g_Y := (cX9_passNight, 3, some .int, RX9, "passNight")
theorem mt_X9_passNight : g_MT yX9_passNight Y_X9_passNight 1 := ⟨g_T_mem (i := 716) (w := .code yX9_passNight cX9_passNight 3 (some .int)) (by decide +kernel) (by decide +kernel), g_T_mem (i := 95) (w := .initialized RX9) (by decide +kernel) (by decide +kernel), by decide +kernel, by decide⟩
theorem mv_X9_passNight : Cond.instanceMethod yX9_passNight ∈ g_T ∧ Cond.selects RX9 yX9_passNight yX9_passNight ∈ g_T := ⟨g_T_mem (i := 714) (w := .instanceMethod yX9_passNight) (by decide +kernel) (by decide +kernel), g_T_mem (i := 715) (w := .selects RX9 yX9_passNight yX9_passNight) (by decide +kernel) (by decide +kernel)⟩
abbrev Y_X9_actByLot : g_Y := (cX9_actByLot, 2, some .int, RX9, "actByLot")
theorem mt_X9_actByLot : g_MT yX9_actByLot Y_X9_actByLot 1 := ⟨g_T_mem (i := 983) (w := .code yX9_actByLot cX9_actByLot 2 (some .int)) (by decide +kernel) (by decide +kernel), g_T_mem (i := 95) (w := .initialized RX9) (by decide +kernel) (by decide +kernel), by decide +kernel, by decide⟩
theorem mv_X9_actByLot : Cond.instanceMethod yX9_actByLot ∈ g_T ∧ Cond.selects RX9 yX9_actByLot yX9_actByLot ∈ g_T := ⟨g_T_mem (i := 981) (w := .instanceMethod yX9_actByLot) (by decide +kernel) (by decide +kernel), g_T_mem (i := 982) (w := .selects RX9 yX9_actByLot yX9_actByLot) (by decide +kernel) (by decide +kernel)⟩
abbrev Y_X9_addReport : g_Y := (cX9_addReport, 6, some .int, RX9, "addReport")
theorem mt_X9_addReport : g_MT yX9_addReport Y_X9_addReport 4 := ⟨g_T_mem (i := 939) (w := .code yX9_addReport cX9_addReport 6 (some .int)) (by decide +kernel) (by decide +kernel), g_T_mem (i := 95) (w := .initialized RX9) (by decide +kernel) (by decide +kernel), by decide +kernel, by decide⟩
theorem mv_X9_addReport : Cond.instanceMethod yX9_addReport ∈ g_T ∧ Cond.selects RX9 yX9_addReport yX9_addReport ∈ g_T := ⟨g_T_mem (i := 937) (w := .instanceMethod yX9_addReport) (by decide +kernel) (by decide +kernel), g_T_mem (i := 938) (w := .selects RX9 yX9_addReport yX9_addReport) (by decide +kernel) (by decide +kernel)⟩
abbrev Y_X9_isSo : g_Y := (cX9_isSo, 7, some .boolean, RX9, "isSo")
theorem mt_X9_isSo : g_MT yX9_isSo Y_X9_isSo 3 := ⟨g_T_mem (i := 959) (w := .code yX9_isSo cX9_isSo 7 (some .boolean)) (by decide +kernel) (by decide +kernel), g_T_mem (i := 95) (w := .initialized RX9) (by decide +kernel) (by decide +kernel), by decide +kernel, by decide⟩
theorem mv_X9_isSo : Cond.instanceMethod yX9_isSo ∈ g_T ∧ Cond.selects RX9 yX9_isSo yX9_isSo ∈ g_T := ⟨g_T_mem (i := 958) (w := .instanceMethod yX9_isSo) (by decide +kernel) (by decide +kernel), g_T_mem (i := 25) (w := .selects RX9 yX9_isSo yX9_isSo) (by decide +kernel) (by decide +kernel)⟩
abbrev Y_X9_fits : g_Y := (cX9_fits, 5, some .boolean, RX9, "fits")
theorem mt_X9_fits : g_MT yX9_fits Y_X9_fits 3 := ⟨g_T_mem (i := 955) (w := .code yX9_fits cX9_fits 5 (some .boolean)) (by decide +kernel) (by decide +kernel), g_T_mem (i := 95) (w := .initialized RX9) (by decide +kernel) (by decide +kernel), by decide +kernel, by decide⟩
theorem mv_X9_fits : Cond.instanceMethod yX9_fits ∈ g_T ∧ Cond.selects RX9 yX9_fits yX9_fits ∈ g_T := ⟨g_T_mem (i := 954) (w := .instanceMethod yX9_fits) (by decide +kernel) (by decide +kernel), g_T_mem (i := 24) (w := .selects RX9 yX9_fits yX9_fits) (by decide +kernel) (by decide +kernel)⟩
abbrev Y_X9_fitting : g_Y := (cX9_fitting, 4, some .int, RX9, "fitting")
theorem mt_X9_fitting : g_MT yX9_fitting Y_X9_fitting 1 := ⟨g_T_mem (i := 951) (w := .code yX9_fitting cX9_fitting 4 (some .int)) (by decide +kernel) (by decide +kernel), g_T_mem (i := 95) (w := .initialized RX9) (by decide +kernel) (by decide +kernel), by decide +kernel, by decide⟩
theorem mv_X9_fitting : Cond.instanceMethod yX9_fitting ∈ g_T ∧ Cond.selects RX9 yX9_fitting yX9_fitting ∈ g_T := ⟨g_T_mem (i := 949) (w := .instanceMethod yX9_fitting) (by decide +kernel) (by decide +kernel), g_T_mem (i := 950) (w := .selects RX9 yX9_fitting yX9_fitting) (by decide +kernel) (by decide +kernel)⟩
abbrev Y_X9_firstFitting : g_Y := (cX9_firstFitting, 3, some .int, RX9, "firstFitting")
theorem mt_X9_firstFitting : g_MT yX9_firstFitting Y_X9_firstFitting 1 := ⟨g_T_mem (i := 963) (w := .code yX9_firstFitting cX9_firstFitting 3 (some .int)) (by decide +kernel) (by decide +kernel), g_T_mem (i := 95) (w := .initialized RX9) (by decide +kernel) (by decide +kernel), by decide +kernel, by decide⟩
theorem mv_X9_firstFitting : Cond.instanceMethod yX9_firstFitting ∈ g_T ∧ Cond.selects RX9 yX9_firstFitting yX9_firstFitting ∈ g_T := ⟨g_T_mem (i := 961) (w := .instanceMethod yX9_firstFitting) (by decide +kernel) (by decide +kernel), g_T_mem (i := 962) (w := .selects RX9 yX9_firstFitting yX9_firstFitting) (by decide +kernel) (by decide +kernel)⟩
abbrev Y_X10_init : g_Y := (cX10_init, 1, none, RX10, "<init>")
theorem mt_X10_init : g_MT yX10_init Y_X10_init 0 := ⟨g_T_mem (i := 140) (w := .code yX10_init cX10_init 1 (none)) (by decide +kernel) (by decide +kernel), g_T_mem (i := 97) (w := .initialized RX10) (by decide +kernel) (by decide +kernel), by decide +kernel, by decide⟩
abbrev Y_X10_yearns : g_Y := (cX10_yearns, 5, some .int, RX10, "yearns")
theorem mt_X10_yearns : g_MT yX10_yearns Y_X10_yearns 4 := ⟨g_T_mem (i := 447) (w := .code yX10_yearns cX10_yearns 5 (some .int)) (by decide +kernel) (by decide +kernel), g_T_mem (i := 97) (w := .initialized RX10) (by decide +kernel) (by decide +kernel), by decide +kernel, by decide⟩
abbrev Y_X10_bakes : g_Y := (cX10_bakes, 3, some .int, RX10, "bakes")
theorem mt_X10_bakes : g_MT yX10_bakes Y_X10_bakes 2 := ⟨g_T_mem (i := 511) (w := .code yX10_bakes cX10_bakes 3 (some .int)) (by decide +kernel) (by decide +kernel), g_T_mem (i := 97) (w := .initialized RX10) (by decide +kernel) (by decide +kernel), by decide +kernel, by decide⟩
abbrev Y_X10_glows : g_Y := (cX10_glows, 3, some .int, RX10, "glows")
theorem mt_X10_glows : g_MT yX10_glows Y_X10_glows 2 := ⟨g_T_mem (i := 1094) (w := .code yX10_glows cX10_glows 3 (some .int)) (by decide +kernel) (by decide +kernel), g_T_mem (i := 97) (w := .initialized RX10) (by decide +kernel) (by decide +kernel), by decide +kernel, by decide⟩
abbrev Y_X11_init : g_Y := (cX11_init, 1, none, RX11, "<init>")
theorem mt_X11_init : g_MT yX11_init Y_X11_init 0 := ⟨g_T_mem (i := 118) (w := .code yX11_init cX11_init 1 (none)) (by decide +kernel) (by decide +kernel), g_T_mem (i := 94) (w := .initialized RX11) (by decide +kernel) (by decide +kernel), by decide +kernel, by decide⟩
abbrev Y_X11_oven : g_Y := (cX11_oven, 5, some .int, RX11, "oven")
theorem mt_X11_oven : g_MT yX11_oven Y_X11_oven 4 := ⟨g_T_mem (i := 396) (w := .code yX11_oven cX11_oven 5 (some .int)) (by decide +kernel) (by decide +kernel), g_T_mem (i := 94) (w := .initialized RX11) (by decide +kernel) (by decide +kernel), by decide +kernel, by decide⟩
theorem mv_X11_oven : Cond.instanceMethod yX11_oven ∈ g_T ∧ Cond.selects RX11 yX11_oven yX11_oven ∈ g_T := ⟨g_T_mem (i := 394) (w := .instanceMethod yX11_oven) (by decide +kernel) (by decide +kernel), g_T_mem (i := 395) (w := .selects RX11 yX11_oven yX11_oven) (by decide +kernel) (by decide +kernel)⟩
abbrev Y_X11_ovenOf : g_Y := (cX11_ovenOf, 3, some .int, RX11, "ovenOf")
theorem mt_X11_ovenOf : g_MT yX11_ovenOf Y_X11_ovenOf 2 := ⟨g_T_mem (i := 477) (w := .code yX11_ovenOf cX11_ovenOf 3 (some .int)) (by decide +kernel) (by decide +kernel), g_T_mem (i := 94) (w := .initialized RX11) (by decide +kernel) (by decide +kernel), by decide +kernel, by decide⟩
theorem mv_X11_ovenOf : Cond.instanceMethod yX11_ovenOf ∈ g_T ∧ Cond.selects RX11 yX11_ovenOf yX11_ovenOf ∈ g_T := ⟨g_T_mem (i := 475) (w := .instanceMethod yX11_ovenOf) (by decide +kernel) (by decide +kernel), g_T_mem (i := 476) (w := .selects RX11 yX11_ovenOf yX11_ovenOf) (by decide +kernel) (by decide +kernel)⟩
abbrev Y_X11_change : g_Y := (cX11_change, 4, some .int, RX11, "change")
theorem mt_X11_change : g_MT yX11_change Y_X11_change 3 := ⟨g_T_mem (i := 539) (w := .code yX11_change cX11_change 4 (some .int)) (by decide +kernel) (by decide +kernel), g_T_mem (i := 94) (w := .initialized RX11) (by decide +kernel) (by decide +kernel), by decide +kernel, by decide⟩
theorem mv_X11_change : Cond.instanceMethod yX11_change ∈ g_T ∧ Cond.selects RX11 yX11_change yX11_change ∈ g_T := ⟨g_T_mem (i := 537) (w := .instanceMethod yX11_change) (by decide +kernel) (by decide +kernel), g_T_mem (i := 538) (w := .selects RX11 yX11_change yX11_change) (by decide +kernel) (by decide +kernel)⟩
abbrev Y_X11_remake : g_Y := (cX11_remake, 3, some .int, RX11, "remake")
theorem mt_X11_remake : g_MT yX11_remake Y_X11_remake 2 := ⟨g_T_mem (i := 551) (w := .code yX11_remake cX11_remake 3 (some .int)) (by decide +kernel) (by decide +kernel), g_T_mem (i := 94) (w := .initialized RX11) (by decide +kernel) (by decide +kernel), by decide +kernel, by decide⟩
theorem mv_X11_remake : Cond.instanceMethod yX11_remake ∈ g_T ∧ Cond.selects RX11 yX11_remake yX11_remake ∈ g_T := ⟨g_T_mem (i := 549) (w := .instanceMethod yX11_remake) (by decide +kernel) (by decide +kernel), g_T_mem (i := 550) (w := .selects RX11 yX11_remake yX11_remake) (by decide +kernel) (by decide +kernel)⟩
abbrev Y_X11_longing : g_Y := (cX11_longing, 3, some .int, RX11, "longing")
theorem mt_X11_longing : g_MT yX11_longing Y_X11_longing 2 := ⟨g_T_mem (i := 555) (w := .code yX11_longing cX11_longing 3 (some .int)) (by decide +kernel) (by decide +kernel), g_T_mem (i := 94) (w := .initialized RX11) (by decide +kernel) (by decide +kernel), by decide +kernel, by decide⟩
theorem mv_X11_longing : Cond.instanceMethod yX11_longing ∈ g_T ∧ Cond.selects RX11 yX11_longing yX11_longing ∈ g_T := ⟨g_T_mem (i := 553) (w := .instanceMethod yX11_longing) (by decide +kernel) (by decide +kernel), g_T_mem (i := 554) (w := .selects RX11 yX11_longing yX11_longing) (by decide +kernel) (by decide +kernel)⟩
abbrev Y_X11_ends : g_Y := (cX11_ends, 3, some .int, RX11, "ends")
theorem mt_X11_ends : g_MT yX11_ends Y_X11_ends 1 := ⟨g_T_mem (i := 560) (w := .code yX11_ends cX11_ends 3 (some .int)) (by decide +kernel) (by decide +kernel), g_T_mem (i := 94) (w := .initialized RX11) (by decide +kernel) (by decide +kernel), by decide +kernel, by decide⟩
theorem mv_X11_ends : Cond.instanceMethod yX11_ends ∈ g_T ∧ Cond.selects RX11 yX11_ends yX11_ends ∈ g_T := ⟨g_T_mem (i := 558) (w := .instanceMethod yX11_ends) (by decide +kernel) (by decide +kernel), g_T_mem (i := 559) (w := .selects RX11 yX11_ends yX11_ends) (by decide +kernel) (by decide +kernel)⟩
abbrev Y_X11_anew : g_Y := (cX11_anew, 2, some .int, RX11, "anew")
theorem mt_X11_anew : g_MT yX11_anew Y_X11_anew 0 := ⟨g_T_mem (i := 564) (w := .code yX11_anew cX11_anew 2 (some .int)) (by decide +kernel) (by decide +kernel), g_T_mem (i := 94) (w := .initialized RX11) (by decide +kernel) (by decide +kernel), by decide +kernel, by decide⟩
theorem mv_X11_anew : Cond.instanceMethod yX11_anew ∈ g_T ∧ Cond.selects RX11 yX11_anew yX11_anew ∈ g_T := ⟨g_T_mem (i := 562) (w := .instanceMethod yX11_anew) (by decide +kernel) (by decide +kernel), g_T_mem (i := 563) (w := .selects RX11 yX11_anew yX11_anew) (by decide +kernel) (by decide +kernel)⟩
abbrev Y_X11_state : g_Y := (cX11_state, 2, some .int, RX11, "state")
theorem mt_X11_state : g_MT yX11_state Y_X11_state 1 := ⟨g_T_mem (i := 568) (w := .code yX11_state cX11_state 2 (some .int)) (by decide +kernel) (by decide +kernel), g_T_mem (i := 94) (w := .initialized RX11) (by decide +kernel) (by decide +kernel), by decide +kernel, by decide⟩
theorem mv_X11_state : Cond.instanceMethod yX11_state ∈ g_T ∧ Cond.selects RX11 yX11_state yX11_state ∈ g_T := ⟨g_T_mem (i := 566) (w := .instanceMethod yX11_state) (by decide +kernel) (by decide +kernel), g_T_mem (i := 567) (w := .selects RX11 yX11_state yX11_state) (by decide +kernel) (by decide +kernel)⟩
abbrev Y_X11_feed : g_Y := (cX11_feed, 5, some .int, RX11, "feed")
theorem mt_X11_feed : g_MT yX11_feed Y_X11_feed 2 := ⟨g_T_mem (i := 577) (w := .code yX11_feed cX11_feed 5 (some .int)) (by decide +kernel) (by decide +kernel), g_T_mem (i := 94) (w := .initialized RX11) (by decide +kernel) (by decide +kernel), by decide +kernel, by decide⟩
theorem mv_X11_feed : Cond.instanceMethod yX11_feed ∈ g_T ∧ Cond.selects RX11 yX11_feed yX11_feed ∈ g_T := ⟨g_T_mem (i := 575) (w := .instanceMethod yX11_feed) (by decide +kernel) (by decide +kernel), g_T_mem (i := 576) (w := .selects RX11 yX11_feed yX11_feed) (by decide +kernel) (by decide +kernel)⟩
abbrev Y_X11_rules : g_Y := (cX11_rules, 2, some .int, RX11, "rules")
theorem mt_X11_rules : g_MT yX11_rules Y_X11_rules 0 := ⟨g_T_mem (i := 585) (w := .code yX11_rules cX11_rules 2 (some .int)) (by decide +kernel) (by decide +kernel), g_T_mem (i := 94) (w := .initialized RX11) (by decide +kernel) (by decide +kernel), by decide +kernel, by decide⟩
theorem mv_X11_rules : Cond.instanceMethod yX11_rules ∈ g_T ∧ Cond.selects RX11 yX11_rules yX11_rules ∈ g_T := ⟨g_T_mem (i := 583) (w := .instanceMethod yX11_rules) (by decide +kernel) (by decide +kernel), g_T_mem (i := 584) (w := .selects RX11 yX11_rules yX11_rules) (by decide +kernel) (by decide +kernel)⟩
abbrev Y_X11_night : g_Y := (cX11_night, 1, some .int, RX11, "night")
theorem mt_X11_night : g_MT yX11_night Y_X11_night 0 := ⟨g_T_mem (i := 712) (w := .code yX11_night cX11_night 1 (some .int)) (by decide +kernel) (by decide +kernel), g_T_mem (i := 94) (w := .initialized RX11) (by decide +kernel) (by decide +kernel), by decide +kernel, by decide⟩
theorem mv_X11_night : Cond.instanceMethod yX11_night ∈ g_T ∧ Cond.selects RX11 yX11_night yX11_night ∈ g_T := ⟨g_T_mem (i := 710) (w := .instanceMethod yX11_night) (by decide +kernel) (by decide +kernel), g_T_mem (i := 711) (w := .selects RX11 yX11_night yX11_night) (by decide +kernel) (by decide +kernel)⟩
abbrev Y_X11_on : g_Y := (cX11_on, 2, some .int, RX11, "on")
theorem mt_X11_on : g_MT yX11_on Y_X11_on 1 := ⟨g_T_mem (i := 735) (w := .code yX11_on cX11_on 2 (some .int)) (by decide +kernel) (by decide +kernel), g_T_mem (i := 94) (w := .initialized RX11) (by decide +kernel) (by decide +kernel), by decide +kernel, by decide⟩
theorem mv_X11_on : Cond.instanceMethod yX11_on ∈ g_T ∧ Cond.selects RX11 yX11_on yX11_on ∈ g_T := ⟨g_T_mem (i := 733) (w := .instanceMethod yX11_on) (by decide +kernel) (by decide +kernel), g_T_mem (i := 734) (w := .selects RX11 yX11_on yX11_on) (by decide +kernel) (by decide +kernel)⟩
abbrev Y_X11_goes : g_Y := (cX11_goes, 2, some .int, RX11, "goes")
theorem mt_X11_goes : g_MT yX11_goes Y_X11_goes 1 := ⟨g_T_mem (i := 753) (w := .code yX11_goes cX11_goes 2 (some .int)) (by decide +kernel) (by decide +kernel), g_T_mem (i := 94) (w := .initialized RX11) (by decide +kernel) (by decide +kernel), by decide +kernel, by decide⟩
theorem mv_X11_goes : Cond.instanceMethod yX11_goes ∈ g_T ∧ Cond.selects RX11 yX11_goes yX11_goes ∈ g_T := ⟨g_T_mem (i := 751) (w := .instanceMethod yX11_goes) (by decide +kernel) (by decide +kernel), g_T_mem (i := 752) (w := .selects RX11 yX11_goes yX11_goes) (by decide +kernel) (by decide +kernel)⟩
abbrev Y_X11_often : g_Y := (cX11_often, 2, some .int, RX11, "often")
theorem mt_X11_often : g_MT yX11_often Y_X11_often 1 := ⟨g_T_mem (i := 766) (w := .code yX11_often cX11_often 2 (some .int)) (by decide +kernel) (by decide +kernel), g_T_mem (i := 94) (w := .initialized RX11) (by decide +kernel) (by decide +kernel), by decide +kernel, by decide⟩
theorem mv_X11_often : Cond.instanceMethod yX11_often ∈ g_T ∧ Cond.selects RX11 yX11_often yX11_often ∈ g_T := ⟨g_T_mem (i := 764) (w := .instanceMethod yX11_often) (by decide +kernel) (by decide +kernel), g_T_mem (i := 765) (w := .selects RX11 yX11_often yX11_often) (by decide +kernel) (by decide +kernel)⟩
abbrev Y_X11_placeFor : g_Y := (cX11_placeFor, 2, some .int, RX11, "placeFor")
theorem mt_X11_placeFor : g_MT yX11_placeFor Y_X11_placeFor 1 := ⟨g_T_mem (i := 774) (w := .code yX11_placeFor cX11_placeFor 2 (some .int)) (by decide +kernel) (by decide +kernel), g_T_mem (i := 94) (w := .initialized RX11) (by decide +kernel) (by decide +kernel), by decide +kernel, by decide⟩
theorem mv_X11_placeFor : Cond.instanceMethod yX11_placeFor ∈ g_T ∧ Cond.selects RX11 yX11_placeFor yX11_placeFor ∈ g_T := ⟨g_T_mem (i := 772) (w := .instanceMethod yX11_placeFor) (by decide +kernel) (by decide +kernel), g_T_mem (i := 773) (w := .selects RX11 yX11_placeFor yX11_placeFor) (by decide +kernel) (by decide +kernel)⟩
abbrev Y_X11_warmFor : g_Y := (cX11_warmFor, 2, some .int, RX11, "warmFor")
theorem mt_X11_warmFor : g_MT yX11_warmFor Y_X11_warmFor 1 := ⟨g_T_mem (i := 784) (w := .code yX11_warmFor cX11_warmFor 2 (some .int)) (by decide +kernel) (by decide +kernel), g_T_mem (i := 94) (w := .initialized RX11) (by decide +kernel) (by decide +kernel), by decide +kernel, by decide⟩
theorem mv_X11_warmFor : Cond.instanceMethod yX11_warmFor ∈ g_T ∧ Cond.selects RX11 yX11_warmFor yX11_warmFor ∈ g_T := ⟨g_T_mem (i := 782) (w := .instanceMethod yX11_warmFor) (by decide +kernel) (by decide +kernel), g_T_mem (i := 783) (w := .selects RX11 yX11_warmFor yX11_warmFor) (by decide +kernel) (by decide +kernel)⟩
abbrev Y_X11_pairs : g_Y := (cX11_pairs, 4, some .int, RX11, "pairs")
theorem mt_X11_pairs : g_MT yX11_pairs Y_X11_pairs 0 := ⟨g_T_mem (i := 788) (w := .code yX11_pairs cX11_pairs 4 (some .int)) (by decide +kernel) (by decide +kernel), g_T_mem (i := 94) (w := .initialized RX11) (by decide +kernel) (by decide +kernel), by decide +kernel, by decide⟩
theorem mv_X11_pairs : Cond.instanceMethod yX11_pairs ∈ g_T ∧ Cond.selects RX11 yX11_pairs yX11_pairs ∈ g_T := ⟨g_T_mem (i := 786) (w := .instanceMethod yX11_pairs) (by decide +kernel) (by decide +kernel), g_T_mem (i := 787) (w := .selects RX11 yX11_pairs yX11_pairs) (by decide +kernel) (by decide +kernel)⟩
abbrev Y_X11_weddings : g_Y := (cX11_weddings, 3, some .int, RX11, "weddings")
theorem mt_X11_weddings : g_MT yX11_weddings Y_X11_weddings 1 := ⟨g_T_mem (i := 796) (w := .code yX11_weddings cX11_weddings 3 (some .int)) (by decide +kernel) (by decide +kernel), g_T_mem (i := 94) (w := .initialized RX11) (by decide +kernel) (by decide +kernel), by decide +kernel, by decide⟩
theorem mv_X11_weddings : Cond.instanceMethod yX11_weddings ∈ g_T ∧ Cond.selects RX11 yX11_weddings yX11_weddings ∈ g_T := ⟨g_T_mem (i := 794) (w := .instanceMethod yX11_weddings) (by decide +kernel) (by decide +kernel), g_T_mem (i := 795) (w := .selects RX11 yX11_weddings yX11_weddings) (by decide +kernel) (by decide +kernel)⟩
abbrev Y_X11_mate : g_Y := (cX11_mate, 2, some .int, RX11, "mate")
theorem mt_X11_mate : g_MT yX11_mate Y_X11_mate 1 := ⟨g_T_mem (i := 816) (w := .code yX11_mate cX11_mate 2 (some .int)) (by decide +kernel) (by decide +kernel), g_T_mem (i := 94) (w := .initialized RX11) (by decide +kernel) (by decide +kernel), by decide +kernel, by decide⟩
theorem mv_X11_mate : Cond.instanceMethod yX11_mate ∈ g_T ∧ Cond.selects RX11 yX11_mate yX11_mate ∈ g_T := ⟨g_T_mem (i := 814) (w := .instanceMethod yX11_mate) (by decide +kernel) (by decide +kernel), g_T_mem (i := 815) (w := .selects RX11 yX11_mate yX11_mate) (by decide +kernel) (by decide +kernel)⟩
abbrev Y_X11_chains : g_Y := (cX11_chains, 3, some .int, RX11, "chains")
theorem mt_X11_chains : g_MT yX11_chains Y_X11_chains 1 := ⟨g_T_mem (i := 829) (w := .code yX11_chains cX11_chains 3 (some .int)) (by decide +kernel) (by decide +kernel), g_T_mem (i := 94) (w := .initialized RX11) (by decide +kernel) (by decide +kernel), by decide +kernel, by decide⟩
theorem mv_X11_chains : Cond.instanceMethod yX11_chains ∈ g_T ∧ Cond.selects RX11 yX11_chains yX11_chains ∈ g_T := ⟨g_T_mem (i := 827) (w := .instanceMethod yX11_chains) (by decide +kernel) (by decide +kernel), g_T_mem (i := 828) (w := .selects RX11 yX11_chains yX11_chains) (by decide +kernel) (by decide +kernel)⟩
abbrev Y_X11_best : g_Y := (cX11_best, 2, some .int, RX11, "best")
theorem mt_X11_best : g_MT yX11_best Y_X11_best 1 := ⟨g_T_mem (i := 849) (w := .code yX11_best cX11_best 2 (some .int)) (by decide +kernel) (by decide +kernel), g_T_mem (i := 94) (w := .initialized RX11) (by decide +kernel) (by decide +kernel), by decide +kernel, by decide⟩
theorem mv_X11_best : Cond.instanceMethod yX11_best ∈ g_T ∧ Cond.selects RX11 yX11_best yX11_best ∈ g_T := ⟨g_T_mem (i := 847) (w := .instanceMethod yX11_best) (by decide +kernel) (by decide +kernel), g_T_mem (i := 848) (w := .selects RX11 yX11_best yX11_best) (by decide +kernel) (by decide +kernel)⟩
abbrev Y_X11_ith : g_Y := (cX11_ith, 6, some .int, RX11, "ith")
theorem mt_X11_ith : g_MT yX11_ith Y_X11_ith 2 := ⟨g_T_mem (i := 864) (w := .code yX11_ith cX11_ith 6 (some .int)) (by decide +kernel) (by decide +kernel), g_T_mem (i := 94) (w := .initialized RX11) (by decide +kernel) (by decide +kernel), by decide +kernel, by decide⟩
theorem mv_X11_ith : Cond.instanceMethod yX11_ith ∈ g_T ∧ Cond.selects RX11 yX11_ith yX11_ith ∈ g_T := ⟨g_T_mem (i := 862) (w := .instanceMethod yX11_ith) (by decide +kernel) (by decide +kernel), g_T_mem (i := 863) (w := .selects RX11 yX11_ith yX11_ith) (by decide +kernel) (by decide +kernel)⟩
abbrev Y_X11_ways : g_Y := (cX11_ways, 3, some .int, RX11, "ways")
theorem mt_X11_ways : g_MT yX11_ways Y_X11_ways 1 := ⟨g_T_mem (i := 875) (w := .code yX11_ways cX11_ways 3 (some .int)) (by decide +kernel) (by decide +kernel), g_T_mem (i := 94) (w := .initialized RX11) (by decide +kernel) (by decide +kernel), by decide +kernel, by decide⟩
theorem mv_X11_ways : Cond.instanceMethod yX11_ways ∈ g_T ∧ Cond.selects RX11 yX11_ways yX11_ways ∈ g_T := ⟨g_T_mem (i := 873) (w := .instanceMethod yX11_ways) (by decide +kernel) (by decide +kernel), g_T_mem (i := 874) (w := .selects RX11 yX11_ways yX11_ways) (by decide +kernel) (by decide +kernel)⟩
abbrev Y_X11_kept : g_Y := (cX11_kept, 4, some .int, RX11, "kept")
theorem mt_X11_kept : g_MT yX11_kept Y_X11_kept 2 := ⟨g_T_mem (i := 884) (w := .code yX11_kept cX11_kept 4 (some .int)) (by decide +kernel) (by decide +kernel), g_T_mem (i := 94) (w := .initialized RX11) (by decide +kernel) (by decide +kernel), by decide +kernel, by decide⟩
theorem mv_X11_kept : Cond.instanceMethod yX11_kept ∈ g_T ∧ Cond.selects RX11 yX11_kept yX11_kept ∈ g_T := ⟨g_T_mem (i := 882) (w := .instanceMethod yX11_kept) (by decide +kernel) (by decide +kernel), g_T_mem (i := 883) (w := .selects RX11 yX11_kept yX11_kept) (by decide +kernel) (by decide +kernel)⟩
abbrev Y_X11_bars : g_Y := (cX11_bars, 4, some .int, RX11, "bars")
theorem mt_X11_bars : g_MT yX11_bars Y_X11_bars 2 := ⟨g_T_mem (i := 899) (w := .code yX11_bars cX11_bars 4 (some .int)) (by decide +kernel) (by decide +kernel), g_T_mem (i := 94) (w := .initialized RX11) (by decide +kernel) (by decide +kernel), by decide +kernel, by decide⟩
theorem mv_X11_bars : Cond.instanceMethod yX11_bars ∈ g_T ∧ Cond.selects RX11 yX11_bars yX11_bars ∈ g_T := ⟨g_T_mem (i := 897) (w := .instanceMethod yX11_bars) (by decide +kernel) (by decide +kernel), g_T_mem (i := 898) (w := .selects RX11 yX11_bars yX11_bars) (by decide +kernel) (by decide +kernel)⟩
abbrev Y_X11_game : g_Y := (cX11_game, 2, some .int, RX11, "game")
theorem mt_X11_game : g_MT yX11_game Y_X11_game 1 := ⟨g_T_mem (i := 912) (w := .code yX11_game cX11_game 2 (some .int)) (by decide +kernel) (by decide +kernel), g_T_mem (i := 94) (w := .initialized RX11) (by decide +kernel) (by decide +kernel), by decide +kernel, by decide⟩
theorem mv_X11_game : Cond.instanceMethod yX11_game ∈ g_T ∧ Cond.selects RX11 yX11_game yX11_game ∈ g_T := ⟨g_T_mem (i := 910) (w := .instanceMethod yX11_game) (by decide +kernel) (by decide +kernel), g_T_mem (i := 911) (w := .selects RX11 yX11_game yX11_game) (by decide +kernel) (by decide +kernel)⟩
abbrev Y_X11_play : g_Y := (cX11_play, 2, some .int, RX11, "play")
theorem mt_X11_play : g_MT yX11_play Y_X11_play 1 := ⟨g_T_mem (i := 924) (w := .code yX11_play cX11_play 2 (some .int)) (by decide +kernel) (by decide +kernel), g_T_mem (i := 94) (w := .initialized RX11) (by decide +kernel) (by decide +kernel), by decide +kernel, by decide⟩
theorem mv_X11_play : Cond.instanceMethod yX11_play ∈ g_T ∧ Cond.selects RX11 yX11_play yX11_play ∈ g_T := ⟨g_T_mem (i := 922) (w := .instanceMethod yX11_play) (by decide +kernel) (by decide +kernel), g_T_mem (i := 923) (w := .selects RX11 yX11_play yX11_play) (by decide +kernel) (by decide +kernel)⟩
abbrev Y_X11_report : g_Y := (cX11_report, 5, some .int, RX11, "report")
theorem mt_X11_report : g_MT yX11_report Y_X11_report 4 := ⟨g_T_mem (i := 932) (w := .code yX11_report cX11_report 5 (some .int)) (by decide +kernel) (by decide +kernel), g_T_mem (i := 94) (w := .initialized RX11) (by decide +kernel) (by decide +kernel), by decide +kernel, by decide⟩
theorem mv_X11_report : Cond.instanceMethod yX11_report ∈ g_T ∧ Cond.selects RX11 yX11_report yX11_report ∈ g_T := ⟨g_T_mem (i := 930) (w := .instanceMethod yX11_report) (by decide +kernel) (by decide +kernel), g_T_mem (i := 931) (w := .selects RX11 yX11_report yX11_report) (by decide +kernel) (by decide +kernel)⟩
abbrev Y_X11_forget : g_Y := (cX11_forget, 2, some .int, RX11, "forget")
theorem mt_X11_forget : g_MT yX11_forget Y_X11_forget 0 := ⟨g_T_mem (i := 943) (w := .code yX11_forget cX11_forget 2 (some .int)) (by decide +kernel) (by decide +kernel), g_T_mem (i := 94) (w := .initialized RX11) (by decide +kernel) (by decide +kernel), by decide +kernel, by decide⟩
theorem mv_X11_forget : Cond.instanceMethod yX11_forget ∈ g_T ∧ Cond.selects RX11 yX11_forget yX11_forget ∈ g_T := ⟨g_T_mem (i := 941) (w := .instanceMethod yX11_forget) (by decide +kernel) (by decide +kernel), g_T_mem (i := 942) (w := .selects RX11 yX11_forget yX11_forget) (by decide +kernel) (by decide +kernel)⟩
abbrev Y_X11_span : g_Y := (cX11_span, 3, some .int, RX11, "span")
theorem mt_X11_span : g_MT yX11_span Y_X11_span 1 := ⟨g_T_mem (i := 947) (w := .code yX11_span cX11_span 3 (some .int)) (by decide +kernel) (by decide +kernel), g_T_mem (i := 94) (w := .initialized RX11) (by decide +kernel) (by decide +kernel), by decide +kernel, by decide⟩
theorem mv_X11_span : Cond.instanceMethod yX11_span ∈ g_T ∧ Cond.selects RX11 yX11_span yX11_span ∈ g_T := ⟨g_T_mem (i := 945) (w := .instanceMethod yX11_span) (by decide +kernel) (by decide +kernel), g_T_mem (i := 946) (w := .selects RX11 yX11_span yX11_span) (by decide +kernel) (by decide +kernel)⟩
abbrev Y_X11_liar : g_Y := (cX11_liar, 2, some .int, RX11, "liar")
theorem mt_X11_liar : g_MT yX11_liar Y_X11_liar 0 := ⟨g_T_mem (i := 967) (w := .code yX11_liar cX11_liar 2 (some .int)) (by decide +kernel) (by decide +kernel), g_T_mem (i := 94) (w := .initialized RX11) (by decide +kernel) (by decide +kernel), by decide +kernel, by decide⟩
theorem mv_X11_liar : Cond.instanceMethod yX11_liar ∈ g_T ∧ Cond.selects RX11 yX11_liar yX11_liar ∈ g_T := ⟨g_T_mem (i := 965) (w := .instanceMethod yX11_liar) (by decide +kernel) (by decide +kernel), g_T_mem (i := 966) (w := .selects RX11 yX11_liar yX11_liar) (by decide +kernel) (by decide +kernel)⟩
abbrev Y_X11_seed : g_Y := (cX11_seed, 3, some .int, RX11, "seed")
theorem mt_X11_seed : g_MT yX11_seed Y_X11_seed 1 := ⟨g_T_mem (i := 971) (w := .code yX11_seed cX11_seed 3 (some .int)) (by decide +kernel) (by decide +kernel), g_T_mem (i := 94) (w := .initialized RX11) (by decide +kernel) (by decide +kernel), by decide +kernel, by decide⟩
theorem mv_X11_seed : Cond.instanceMethod yX11_seed ∈ g_T ∧ Cond.selects RX11 yX11_seed yX11_seed ∈ g_T := ⟨g_T_mem (i := 969) (w := .instanceMethod yX11_seed) (by decide +kernel) (by decide +kernel), g_T_mem (i := 970) (w := .selects RX11 yX11_seed yX11_seed) (by decide +kernel) (by decide +kernel)⟩
abbrev Y_X11_lot : g_Y := (cX11_lot, 1, some .int, RX11, "lot")
theorem mt_X11_lot : g_MT yX11_lot Y_X11_lot 0 := ⟨g_T_mem (i := 975) (w := .code yX11_lot cX11_lot 1 (some .int)) (by decide +kernel) (by decide +kernel), g_T_mem (i := 94) (w := .initialized RX11) (by decide +kernel) (by decide +kernel), by decide +kernel, by decide⟩
theorem mv_X11_lot : Cond.instanceMethod yX11_lot ∈ g_T ∧ Cond.selects RX11 yX11_lot yX11_lot ∈ g_T := ⟨g_T_mem (i := 973) (w := .instanceMethod yX11_lot) (by decide +kernel) (by decide +kernel), g_T_mem (i := 974) (w := .selects RX11 yX11_lot yX11_lot) (by decide +kernel) (by decide +kernel)⟩
abbrev Y_X11_times : g_Y := (cX11_times, 9, some .int, RX11, "times")
theorem mt_X11_times : g_MT yX11_times Y_X11_times 2 := ⟨g_T_mem (i := 987) (w := .code yX11_times cX11_times 9 (some .int)) (by decide +kernel) (by decide +kernel), g_T_mem (i := 94) (w := .initialized RX11) (by decide +kernel) (by decide +kernel), by decide +kernel, by decide⟩
theorem mv_X11_times : Cond.instanceMethod yX11_times ∈ g_T ∧ Cond.selects RX11 yX11_times yX11_times ∈ g_T := ⟨g_T_mem (i := 985) (w := .instanceMethod yX11_times) (by decide +kernel) (by decide +kernel), g_T_mem (i := 986) (w := .selects RX11 yX11_times yX11_times) (by decide +kernel) (by decide +kernel)⟩
abbrev Y_X11_prove : g_Y := (cX11_prove, 6, some .int, RX11, "prove")
theorem mt_X11_prove : g_MT yX11_prove Y_X11_prove 1 := ⟨g_T_mem (i := 992) (w := .code yX11_prove cX11_prove 6 (some .int)) (by decide +kernel) (by decide +kernel), g_T_mem (i := 94) (w := .initialized RX11) (by decide +kernel) (by decide +kernel), by decide +kernel, by decide⟩
theorem mv_X11_prove : Cond.instanceMethod yX11_prove ∈ g_T ∧ Cond.selects RX11 yX11_prove yX11_prove ∈ g_T := ⟨g_T_mem (i := 990) (w := .instanceMethod yX11_prove) (by decide +kernel) (by decide +kernel), g_T_mem (i := 991) (w := .selects RX11 yX11_prove yX11_prove) (by decide +kernel) (by decide +kernel)⟩
abbrev Y_X11_row : g_Y := (cX11_row, 3, some .int, RX11, "row")
theorem mt_X11_row : g_MT yX11_row Y_X11_row 2 := ⟨g_T_mem (i := 996) (w := .code yX11_row cX11_row 3 (some .int)) (by decide +kernel) (by decide +kernel), g_T_mem (i := 94) (w := .initialized RX11) (by decide +kernel) (by decide +kernel), by decide +kernel, by decide⟩
theorem mv_X11_row : Cond.instanceMethod yX11_row ∈ g_T ∧ Cond.selects RX11 yX11_row yX11_row ∈ g_T := ⟨g_T_mem (i := 994) (w := .instanceMethod yX11_row) (by decide +kernel) (by decide +kernel), g_T_mem (i := 995) (w := .selects RX11 yX11_row yX11_row) (by decide +kernel) (by decide +kernel)⟩
abbrev Y_X11_alterRow : g_Y := (cX11_alterRow, 5, some .int, RX11, "alterRow")
theorem mt_X11_alterRow : g_MT yX11_alterRow Y_X11_alterRow 3 := ⟨g_T_mem (i := 1004) (w := .code yX11_alterRow cX11_alterRow 5 (some .int)) (by decide +kernel) (by decide +kernel), g_T_mem (i := 94) (w := .initialized RX11) (by decide +kernel) (by decide +kernel), by decide +kernel, by decide⟩
theorem mv_X11_alterRow : Cond.instanceMethod yX11_alterRow ∈ g_T ∧ Cond.selects RX11 yX11_alterRow yX11_alterRow ∈ g_T := ⟨g_T_mem (i := 1002) (w := .instanceMethod yX11_alterRow) (by decide +kernel) (by decide +kernel), g_T_mem (i := 1003) (w := .selects RX11 yX11_alterRow yX11_alterRow) (by decide +kernel) (by decide +kernel)⟩
abbrev Y_X11_judge : g_Y := (cX11_judge, 7, some .int, RX11, "judge")
theorem mt_X11_judge : g_MT yX11_judge Y_X11_judge 0 := ⟨g_T_mem (i := 1008) (w := .code yX11_judge cX11_judge 7 (some .int)) (by decide +kernel) (by decide +kernel), g_T_mem (i := 94) (w := .initialized RX11) (by decide +kernel) (by decide +kernel), by decide +kernel, by decide⟩
theorem mv_X11_judge : Cond.instanceMethod yX11_judge ∈ g_T ∧ Cond.selects RX11 yX11_judge yX11_judge ∈ g_T := ⟨g_T_mem (i := 1006) (w := .instanceMethod yX11_judge) (by decide +kernel) (by decide +kernel), g_T_mem (i := 1007) (w := .selects RX11 yX11_judge yX11_judge) (by decide +kernel) (by decide +kernel)⟩
abbrev Y_X11_sheet : g_Y := (cX11_sheet, 5, some .int, RX11, "sheet")
theorem mt_X11_sheet : g_MT yX11_sheet Y_X11_sheet 3 := ⟨g_T_mem (i := 1016) (w := .code yX11_sheet cX11_sheet 5 (some .int)) (by decide +kernel) (by decide +kernel), g_T_mem (i := 94) (w := .initialized RX11) (by decide +kernel) (by decide +kernel), by decide +kernel, by decide⟩
theorem mv_X11_sheet : Cond.instanceMethod yX11_sheet ∈ g_T ∧ Cond.selects RX11 yX11_sheet yX11_sheet ∈ g_T := ⟨g_T_mem (i := 1014) (w := .instanceMethod yX11_sheet) (by decide +kernel) (by decide +kernel), g_T_mem (i := 1015) (w := .selects RX11 yX11_sheet yX11_sheet) (by decide +kernel) (by decide +kernel)⟩
abbrev Y_X11_write : g_Y := (cX11_write, 4, some .int, RX11, "write")
theorem mt_X11_write : g_MT yX11_write Y_X11_write 3 := ⟨g_T_mem (i := 1023) (w := .code yX11_write cX11_write 4 (some .int)) (by decide +kernel) (by decide +kernel), g_T_mem (i := 94) (w := .initialized RX11) (by decide +kernel) (by decide +kernel), by decide +kernel, by decide⟩
theorem mv_X11_write : Cond.instanceMethod yX11_write ∈ g_T ∧ Cond.selects RX11 yX11_write yX11_write ∈ g_T := ⟨g_T_mem (i := 1021) (w := .instanceMethod yX11_write) (by decide +kernel) (by decide +kernel), g_T_mem (i := 1022) (w := .selects RX11 yX11_write yX11_write) (by decide +kernel) (by decide +kernel)⟩
abbrev Y_X11_item : g_Y := (cX11_item, 5, some .int, RX11, "item")
theorem mt_X11_item : g_MT yX11_item Y_X11_item 3 := ⟨g_T_mem (i := 1034) (w := .code yX11_item cX11_item 5 (some .int)) (by decide +kernel) (by decide +kernel), g_T_mem (i := 94) (w := .initialized RX11) (by decide +kernel) (by decide +kernel), by decide +kernel, by decide⟩
theorem mv_X11_item : Cond.instanceMethod yX11_item ∈ g_T ∧ Cond.selects RX11 yX11_item yX11_item ∈ g_T := ⟨g_T_mem (i := 1032) (w := .instanceMethod yX11_item) (by decide +kernel) (by decide +kernel), g_T_mem (i := 1033) (w := .selects RX11 yX11_item yX11_item) (by decide +kernel) (by decide +kernel)⟩
abbrev Y_X11_goAll : g_Y := (cX11_goAll, 8, some .int, RX11, "goAll")
theorem mt_X11_goAll : g_MT yX11_goAll Y_X11_goAll 3 := ⟨g_T_mem (i := 1042) (w := .code yX11_goAll cX11_goAll 8 (some .int)) (by decide +kernel) (by decide +kernel), g_T_mem (i := 94) (w := .initialized RX11) (by decide +kernel) (by decide +kernel), by decide +kernel, by decide⟩
theorem mv_X11_goAll : Cond.instanceMethod yX11_goAll ∈ g_T ∧ Cond.selects RX11 yX11_goAll yX11_goAll ∈ g_T := ⟨g_T_mem (i := 1040) (w := .instanceMethod yX11_goAll) (by decide +kernel) (by decide +kernel), g_T_mem (i := 1041) (w := .selects RX11 yX11_goAll yX11_goAll) (by decide +kernel) (by decide +kernel)⟩
abbrev Y_X11_wouldBe : g_Y := (cX11_wouldBe, 10, some .int, RX11, "wouldBe")
theorem mt_X11_wouldBe : g_MT yX11_wouldBe Y_X11_wouldBe 3 := ⟨g_T_mem (i := 1046) (w := .code yX11_wouldBe cX11_wouldBe 10 (some .int)) (by decide +kernel) (by decide +kernel), g_T_mem (i := 94) (w := .initialized RX11) (by decide +kernel) (by decide +kernel), by decide +kernel, by decide⟩
theorem mv_X11_wouldBe : Cond.instanceMethod yX11_wouldBe ∈ g_T ∧ Cond.selects RX11 yX11_wouldBe yX11_wouldBe ∈ g_T := ⟨g_T_mem (i := 1044) (w := .instanceMethod yX11_wouldBe) (by decide +kernel) (by decide +kernel), g_T_mem (i := 1045) (w := .selects RX11 yX11_wouldBe yX11_wouldBe) (by decide +kernel) (by decide +kernel)⟩
abbrev Y_X11_shelf : g_Y := (cX11_shelf, 5, some .int, RX11, "shelf")
theorem mt_X11_shelf : g_MT yX11_shelf Y_X11_shelf 3 := ⟨g_T_mem (i := 1050) (w := .code yX11_shelf cX11_shelf 5 (some .int)) (by decide +kernel) (by decide +kernel), g_T_mem (i := 94) (w := .initialized RX11) (by decide +kernel) (by decide +kernel), by decide +kernel, by decide⟩
theorem mv_X11_shelf : Cond.instanceMethod yX11_shelf ∈ g_T ∧ Cond.selects RX11 yX11_shelf yX11_shelf ∈ g_T := ⟨g_T_mem (i := 1048) (w := .instanceMethod yX11_shelf) (by decide +kernel) (by decide +kernel), g_T_mem (i := 1049) (w := .selects RX11 yX11_shelf yX11_shelf) (by decide +kernel) (by decide +kernel)⟩
abbrev Y_X11_taken : g_Y := (cX11_taken, 6, some .int, RX11, "taken")
theorem mt_X11_taken : g_MT yX11_taken Y_X11_taken 2 := ⟨g_T_mem (i := 1061) (w := .code yX11_taken cX11_taken 6 (some .int)) (by decide +kernel) (by decide +kernel), g_T_mem (i := 94) (w := .initialized RX11) (by decide +kernel) (by decide +kernel), by decide +kernel, by decide⟩
theorem mv_X11_taken : Cond.instanceMethod yX11_taken ∈ g_T ∧ Cond.selects RX11 yX11_taken yX11_taken ∈ g_T := ⟨g_T_mem (i := 1059) (w := .instanceMethod yX11_taken) (by decide +kernel) (by decide +kernel), g_T_mem (i := 1060) (w := .selects RX11 yX11_taken yX11_taken) (by decide +kernel) (by decide +kernel)⟩
abbrev Y_X11_act : g_Y := (cX11_act, 7, some .int, RX11, "act")
theorem mt_X11_act : g_MT yX11_act Y_X11_act 3 := ⟨g_T_mem (i := 1070) (w := .code yX11_act cX11_act 7 (some .int)) (by decide +kernel) (by decide +kernel), g_T_mem (i := 94) (w := .initialized RX11) (by decide +kernel) (by decide +kernel), by decide +kernel, by decide⟩
theorem mv_X11_act : Cond.instanceMethod yX11_act ∈ g_T ∧ Cond.selects RX11 yX11_act yX11_act ∈ g_T := ⟨g_T_mem (i := 1068) (w := .instanceMethod yX11_act) (by decide +kernel) (by decide +kernel), g_T_mem (i := 1069) (w := .selects RX11 yX11_act yX11_act) (by decide +kernel) (by decide +kernel)⟩
abbrev Y_X11_trace : g_Y := (cX11_trace, 2, some .int, RX11, "trace")
theorem mt_X11_trace : g_MT yX11_trace Y_X11_trace 1 := ⟨g_T_mem (i := 1163) (w := .code yX11_trace cX11_trace 2 (some .int)) (by decide +kernel) (by decide +kernel), g_T_mem (i := 94) (w := .initialized RX11) (by decide +kernel) (by decide +kernel), by decide +kernel, by decide⟩
theorem mv_X11_trace : Cond.instanceMethod yX11_trace ∈ g_T ∧ Cond.selects RX11 yX11_trace yX11_trace ∈ g_T := ⟨g_T_mem (i := 1161) (w := .instanceMethod yX11_trace) (by decide +kernel) (by decide +kernel), g_T_mem (i := 1162) (w := .selects RX11 yX11_trace yX11_trace) (by decide +kernel) (by decide +kernel)⟩
abbrev Y_X11_many : g_Y := (cX11_many, 2, some .int, RX11, "many")
theorem mt_X11_many : g_MT yX11_many Y_X11_many 1 := ⟨g_T_mem (i := 1167) (w := .code yX11_many cX11_many 2 (some .int)) (by decide +kernel) (by decide +kernel), g_T_mem (i := 94) (w := .initialized RX11) (by decide +kernel) (by decide +kernel), by decide +kernel, by decide⟩
theorem mv_X11_many : Cond.instanceMethod yX11_many ∈ g_T ∧ Cond.selects RX11 yX11_many yX11_many ∈ g_T := ⟨g_T_mem (i := 1165) (w := .instanceMethod yX11_many) (by decide +kernel) (by decide +kernel), g_T_mem (i := 1166) (w := .selects RX11 yX11_many yX11_many) (by decide +kernel) (by decide +kernel)⟩
abbrev Y_X11_keep : g_Y := (cX11_keep, 1, some .int, RX11, "keep")
theorem mt_X11_keep : g_MT yX11_keep Y_X11_keep 0 := ⟨g_T_mem (i := 1171) (w := .code yX11_keep cX11_keep 1 (some .int)) (by decide +kernel) (by decide +kernel), g_T_mem (i := 94) (w := .initialized RX11) (by decide +kernel) (by decide +kernel), by decide +kernel, by decide⟩
theorem mv_X11_keep : Cond.instanceMethod yX11_keep ∈ g_T ∧ Cond.selects RX11 yX11_keep yX11_keep ∈ g_T := ⟨g_T_mem (i := 1169) (w := .instanceMethod yX11_keep) (by decide +kernel) (by decide +kernel), g_T_mem (i := 1170) (w := .selects RX11 yX11_keep yX11_keep) (by decide +kernel) (by decide +kernel)⟩
abbrev Y_X11_again : g_Y := (cX11_again, 1, some .int, RX11, "again")
theorem mt_X11_again : g_MT yX11_again Y_X11_again 0 := ⟨g_T_mem (i := 1182) (w := .code yX11_again cX11_again 1 (some .int)) (by decide +kernel) (by decide +kernel), g_T_mem (i := 94) (w := .initialized RX11) (by decide +kernel) (by decide +kernel), by decide +kernel, by decide⟩
theorem mv_X11_again : Cond.instanceMethod yX11_again ∈ g_T ∧ Cond.selects RX11 yX11_again yX11_again ∈ g_T := ⟨g_T_mem (i := 1180) (w := .instanceMethod yX11_again) (by decide +kernel) (by decide +kernel), g_T_mem (i := 1181) (w := .selects RX11 yX11_again yX11_again) (by decide +kernel) (by decide +kernel)⟩
abbrev Y_X11_isBetween : g_Y := (cX11_isBetween, 3, some .boolean, RX11, "isBetween")
theorem mt_X11_isBetween : g_MT yX11_isBetween Y_X11_isBetween 3 := ⟨g_T_mem (i := 402) (w := .code yX11_isBetween cX11_isBetween 3 (some .boolean)) (by decide +kernel) (by decide +kernel), g_T_mem (i := 94) (w := .initialized RX11) (by decide +kernel) (by decide +kernel), by decide +kernel, by decide⟩
theorem ms_X11_isBetween : Cond.static yX11_isBetween ∈ g_T := g_T_mem (i := 401) (w := .static yX11_isBetween) (by decide +kernel) (by decide +kernel)
abbrev Y_X11_isKind : g_Y := (cX11_isKind, 1, some .boolean, RX11, "isKind")
theorem mt_X11_isKind : g_MT yX11_isKind Y_X11_isKind 1 := ⟨g_T_mem (i := 399) (w := .code yX11_isKind cX11_isKind 1 (some .boolean)) (by decide +kernel) (by decide +kernel), g_T_mem (i := 94) (w := .initialized RX11) (by decide +kernel) (by decide +kernel), by decide +kernel, by decide⟩
theorem ms_X11_isKind : Cond.static yX11_isKind ∈ g_T := g_T_mem (i := 398) (w := .static yX11_isKind) (by decide +kernel) (by decide +kernel)
abbrev Y_X11_isWarm : g_Y := (cX11_isWarm, 1, some .boolean, RX11, "isWarm")
theorem mt_X11_isWarm : g_MT yX11_isWarm Y_X11_isWarm 1 := ⟨g_T_mem (i := 405) (w := .code yX11_isWarm cX11_isWarm 1 (some .boolean)) (by decide +kernel) (by decide +kernel), g_T_mem (i := 94) (w := .initialized RX11) (by decide +kernel) (by decide +kernel), by decide +kernel, by decide⟩
theorem ms_X11_isWarm : Cond.static yX11_isWarm ∈ g_T := g_T_mem (i := 404) (w := .static yX11_isWarm) (by decide +kernel) (by decide +kernel)
abbrev Y_X11_isPlace : g_Y := (cX11_isPlace, 1, some .boolean, RX11, "isPlace")
theorem mt_X11_isPlace : g_MT yX11_isPlace Y_X11_isPlace 1 := ⟨g_T_mem (i := 408) (w := .code yX11_isPlace cX11_isPlace 1 (some .boolean)) (by decide +kernel) (by decide +kernel), g_T_mem (i := 94) (w := .initialized RX11) (by decide +kernel) (by decide +kernel), by decide +kernel, by decide⟩
theorem ms_X11_isPlace : Cond.static yX11_isPlace ∈ g_T := g_T_mem (i := 407) (w := .static yX11_isPlace) (by decide +kernel) (by decide +kernel)
abbrev Y_X11_isFire : g_Y := (cX11_isFire, 1, some .boolean, RX11, "isFire")
theorem mt_X11_isFire : g_MT yX11_isFire Y_X11_isFire 1 := ⟨g_T_mem (i := 411) (w := .code yX11_isFire cX11_isFire 1 (some .boolean)) (by decide +kernel) (by decide +kernel), g_T_mem (i := 94) (w := .initialized RX11) (by decide +kernel) (by decide +kernel), by decide +kernel, by decide⟩
theorem ms_X11_isFire : Cond.static yX11_isFire ∈ g_T := g_T_mem (i := 410) (w := .static yX11_isFire) (by decide +kernel) (by decide +kernel)
abbrev Y_X11_isPlan : g_Y := (cX11_isPlan, 1, some .boolean, RX11, "isPlan")
theorem mt_X11_isPlan : g_MT yX11_isPlan Y_X11_isPlan 1 := ⟨g_T_mem (i := 852) (w := .code yX11_isPlan cX11_isPlan 1 (some .boolean)) (by decide +kernel) (by decide +kernel), g_T_mem (i := 94) (w := .initialized RX11) (by decide +kernel) (by decide +kernel), by decide +kernel, by decide⟩
theorem ms_X11_isPlan : Cond.static yX11_isPlan ∈ g_T := g_T_mem (i := 851) (w := .static yX11_isPlan) (by decide +kernel) (by decide +kernel)
abbrev Y_X11_isGame : g_Y := (cX11_isGame, 1, some .boolean, RX11, "isGame")
theorem mt_X11_isGame : g_MT yX11_isGame Y_X11_isGame 1 := ⟨g_T_mem (i := 915) (w := .code yX11_isGame cX11_isGame 1 (some .boolean)) (by decide +kernel) (by decide +kernel), g_T_mem (i := 94) (w := .initialized RX11) (by decide +kernel) (by decide +kernel), by decide +kernel, by decide⟩
theorem ms_X11_isGame : Cond.static yX11_isGame ∈ g_T := g_T_mem (i := 914) (w := .static yX11_isGame) (by decide +kernel) (by decide +kernel)
abbrev Y_X11_isFelt : g_Y := (cX11_isFelt, 1, some .boolean, RX11, "isFelt")
theorem mt_X11_isFelt : g_MT yX11_isFelt Y_X11_isFelt 1 := ⟨g_T_mem (i := 935) (w := .code yX11_isFelt cX11_isFelt 1 (some .boolean)) (by decide +kernel) (by decide +kernel), g_T_mem (i := 94) (w := .initialized RX11) (by decide +kernel) (by decide +kernel), by decide +kernel, by decide⟩
theorem ms_X11_isFelt : Cond.static yX11_isFelt ∈ g_T := g_T_mem (i := 934) (w := .static yX11_isFelt) (by decide +kernel) (by decide +kernel)
abbrev Y_X11_isSheet : g_Y := (cX11_isSheet, 1, some .boolean, RX11, "isSheet")
theorem mt_X11_isSheet : g_MT yX11_isSheet Y_X11_isSheet 1 := ⟨g_T_mem (i := 1019) (w := .code yX11_isSheet cX11_isSheet 1 (some .boolean)) (by decide +kernel) (by decide +kernel), g_T_mem (i := 94) (w := .initialized RX11) (by decide +kernel) (by decide +kernel), by decide +kernel, by decide⟩
theorem ms_X11_isSheet : Cond.static yX11_isSheet ∈ g_T := g_T_mem (i := 1018) (w := .static yX11_isSheet) (by decide +kernel) (by decide +kernel)
abbrev Y_X11_isShelf : g_Y := (cX11_isShelf, 1, some .boolean, RX11, "isShelf")
theorem mt_X11_isShelf : g_MT yX11_isShelf Y_X11_isShelf 1 := ⟨g_T_mem (i := 1053) (w := .code yX11_isShelf cX11_isShelf 1 (some .boolean)) (by decide +kernel) (by decide +kernel), g_T_mem (i := 94) (w := .initialized RX11) (by decide +kernel) (by decide +kernel), by decide +kernel, by decide⟩
theorem ms_X11_isShelf : Cond.static yX11_isShelf ∈ g_T := g_T_mem (i := 1052) (w := .static yX11_isShelf) (by decide +kernel) (by decide +kernel)
abbrev Y_X11_isOven : g_Y := (cX11_isOven, 2, some .boolean, RX11, "isOven")
theorem mt_X11_isOven : g_MT yX11_isOven Y_X11_isOven 1 := ⟨g_T_mem (i := 481) (w := .code yX11_isOven cX11_isOven 2 (some .boolean)) (by decide +kernel) (by decide +kernel), g_T_mem (i := 94) (w := .initialized RX11) (by decide +kernel) (by decide +kernel), by decide +kernel, by decide⟩
theorem mv_X11_isOven : Cond.instanceMethod yX11_isOven ∈ g_T ∧ Cond.selects RX11 yX11_isOven yX11_isOven ∈ g_T := ⟨g_T_mem (i := 480) (w := .instanceMethod yX11_isOven) (by decide +kernel) (by decide +kernel), g_T_mem (i := 4) (w := .selects RX11 yX11_isOven yX11_isOven) (by decide +kernel) (by decide +kernel)⟩
abbrev Y_X11_isAct : g_Y := (cX11_isAct, 2, some .boolean, RX11, "isAct")
theorem mt_X11_isAct : g_MT yX11_isAct Y_X11_isAct 1 := ⟨g_T_mem (i := 1012) (w := .code yX11_isAct cX11_isAct 2 (some .boolean)) (by decide +kernel) (by decide +kernel), g_T_mem (i := 94) (w := .initialized RX11) (by decide +kernel) (by decide +kernel), by decide +kernel, by decide⟩
theorem mv_X11_isAct : Cond.instanceMethod yX11_isAct ∈ g_T ∧ Cond.selects RX11 yX11_isAct yX11_isAct ∈ g_T := ⟨g_T_mem (i := 1011) (w := .instanceMethod yX11_isAct) (by decide +kernel) (by decide +kernel), g_T_mem (i := 27) (w := .selects RX11 yX11_isAct yX11_isAct) (by decide +kernel) (by decide +kernel)⟩
abbrev Y_X11_isOvenSet : g_Y := (cX11_isOvenSet, 2, some .boolean, RX11, "isOvenSet")
theorem mt_X11_isOvenSet : g_MT yX11_isOvenSet Y_X11_isOvenSet 1 := ⟨g_T_mem (i := 888) (w := .code yX11_isOvenSet cX11_isOvenSet 2 (some .boolean)) (by decide +kernel) (by decide +kernel), g_T_mem (i := 94) (w := .initialized RX11) (by decide +kernel) (by decide +kernel), by decide +kernel, by decide⟩
theorem mv_X11_isOvenSet : Cond.instanceMethod yX11_isOvenSet ∈ g_T ∧ Cond.selects RX11 yX11_isOvenSet yX11_isOvenSet ∈ g_T := ⟨g_T_mem (i := 887) (w := .instanceMethod yX11_isOvenSet) (by decide +kernel) (by decide +kernel), g_T_mem (i := 23) (w := .selects RX11 yX11_isOvenSet yX11_isOvenSet) (by decide +kernel) (by decide +kernel)⟩
abbrev Y_X11_isRow : g_Y := (cX11_isRow, 3, some .boolean, RX11, "isRow")
theorem mt_X11_isRow : g_MT yX11_isRow Y_X11_isRow 2 := ⟨g_T_mem (i := 1000) (w := .code yX11_isRow cX11_isRow 3 (some .boolean)) (by decide +kernel) (by decide +kernel), g_T_mem (i := 94) (w := .initialized RX11) (by decide +kernel) (by decide +kernel), by decide +kernel, by decide⟩
theorem mv_X11_isRow : Cond.instanceMethod yX11_isRow ∈ g_T ∧ Cond.selects RX11 yX11_isRow yX11_isRow ∈ g_T := ⟨g_T_mem (i := 999) (w := .instanceMethod yX11_isRow) (by decide +kernel) (by decide +kernel), g_T_mem (i := 26) (w := .selects RX11 yX11_isRow yX11_isRow) (by decide +kernel) (by decide +kernel)⟩
abbrev Y_X11_isItem : g_Y := (cX11_isItem, 3, some .boolean, RX11, "isItem")
theorem mt_X11_isItem : g_MT yX11_isItem Y_X11_isItem 2 := ⟨g_T_mem (i := 1027) (w := .code yX11_isItem cX11_isItem 3 (some .boolean)) (by decide +kernel) (by decide +kernel), g_T_mem (i := 94) (w := .initialized RX11) (by decide +kernel) (by decide +kernel), by decide +kernel, by decide⟩
theorem mv_X11_isItem : Cond.instanceMethod yX11_isItem ∈ g_T ∧ Cond.selects RX11 yX11_isItem yX11_isItem ∈ g_T := ⟨g_T_mem (i := 1026) (w := .instanceMethod yX11_isItem) (by decide +kernel) (by decide +kernel), g_T_mem (i := 28) (w := .selects RX11 yX11_isItem yX11_isItem) (by decide +kernel) (by decide +kernel)⟩
abbrev Y_X11_isUnder : g_Y := (cX11_isUnder, 2, some .boolean, RX11, "isUnder")
theorem mt_X11_isUnder : g_MT yX11_isUnder Y_X11_isUnder 2 := ⟨g_T_mem (i := 460) (w := .code yX11_isUnder cX11_isUnder 2 (some .boolean)) (by decide +kernel) (by decide +kernel), g_T_mem (i := 94) (w := .initialized RX11) (by decide +kernel) (by decide +kernel), by decide +kernel, by decide⟩
theorem ms_X11_isUnder : Cond.static yX11_isUnder ∈ g_T := g_T_mem (i := 459) (w := .static yX11_isUnder) (by decide +kernel) (by decide +kernel)
abbrev Y_X11_chainOf : g_Y := (cX11_chainOf, 1, some .int, RX11, "chainOf")
theorem mt_X11_chainOf : g_MT yX11_chainOf Y_X11_chainOf 1 := ⟨g_T_mem (i := 859) (w := .code yX11_chainOf cX11_chainOf 1 (some .int)) (by decide +kernel) (by decide +kernel), g_T_mem (i := 94) (w := .initialized RX11) (by decide +kernel) (by decide +kernel), by decide +kernel, by decide⟩
theorem ms_X11_chainOf : Cond.static yX11_chainOf ∈ g_T := g_T_mem (i := 858) (w := .static yX11_chainOf) (by decide +kernel) (by decide +kernel)
abbrev Y_X11_nextLot : g_Y := (cX11_nextLot, 1, some .int, RX11, "nextLot")
theorem mt_X11_nextLot : g_MT yX11_nextLot Y_X11_nextLot 1 := ⟨g_T_mem (i := 978) (w := .code yX11_nextLot cX11_nextLot 1 (some .int)) (by decide +kernel) (by decide +kernel), g_T_mem (i := 94) (w := .initialized RX11) (by decide +kernel) (by decide +kernel), by decide +kernel, by decide⟩
theorem ms_X11_nextLot : Cond.static yX11_nextLot ∈ g_T := g_T_mem (i := 977) (w := .static yX11_nextLot) (by decide +kernel) (by decide +kernel)
abbrev Y_X11_narrowed : g_Y := (cX11_narrowed, 2, some .int, RX11, "narrowed")
theorem mt_X11_narrowed : g_MT yX11_narrowed Y_X11_narrowed 2 := ⟨g_T_mem (i := 1030) (w := .code yX11_narrowed cX11_narrowed 2 (some .int)) (by decide +kernel) (by decide +kernel), g_T_mem (i := 94) (w := .initialized RX11) (by decide +kernel) (by decide +kernel), by decide +kernel, by decide⟩
theorem ms_X11_narrowed : Cond.static yX11_narrowed ∈ g_T := g_T_mem (i := 1029) (w := .static yX11_narrowed) (by decide +kernel) (by decide +kernel)
abbrev Y_X11_refusalAs : g_Y := (cX11_refusalAs, 3, some .int, RX11, "refusalAs")
theorem mt_X11_refusalAs : g_MT yX11_refusalAs Y_X11_refusalAs 2 := ⟨g_T_mem (i := 1038) (w := .code yX11_refusalAs cX11_refusalAs 3 (some .int)) (by decide +kernel) (by decide +kernel), g_T_mem (i := 94) (w := .initialized RX11) (by decide +kernel) (by decide +kernel), by decide +kernel, by decide⟩
theorem mv_X11_refusalAs : Cond.instanceMethod yX11_refusalAs ∈ g_T ∧ Cond.selects RX11 yX11_refusalAs yX11_refusalAs ∈ g_T := ⟨g_T_mem (i := 1037) (w := .instanceMethod yX11_refusalAs) (by decide +kernel) (by decide +kernel), g_T_mem (i := 29) (w := .selects RX11 yX11_refusalAs yX11_refusalAs) (by decide +kernel) (by decide +kernel)⟩
abbrev Y_X11_putOn : g_Y := (cX11_putOn, 5, some .int, RX11, "putOn")
theorem mt_X11_putOn : g_MT yX11_putOn Y_X11_putOn 4 := ⟨g_T_mem (i := 1057) (w := .code yX11_putOn cX11_putOn 5 (some .int)) (by decide +kernel) (by decide +kernel), g_T_mem (i := 94) (w := .initialized RX11) (by decide +kernel) (by decide +kernel), by decide +kernel, by decide⟩
theorem mv_X11_putOn : Cond.instanceMethod yX11_putOn ∈ g_T ∧ Cond.selects RX11 yX11_putOn yX11_putOn ∈ g_T := ⟨g_T_mem (i := 1056) (w := .instanceMethod yX11_putOn) (by decide +kernel) (by decide +kernel), g_T_mem (i := 30) (w := .selects RX11 yX11_putOn yX11_putOn) (by decide +kernel) (by decide +kernel)⟩
abbrev Y_X11_heldOn : g_Y := (cX11_heldOn, 3, some .int, RX11, "heldOn")
theorem mt_X11_heldOn : g_MT yX11_heldOn Y_X11_heldOn 1 := ⟨g_T_mem (i := 1065) (w := .code yX11_heldOn cX11_heldOn 3 (some .int)) (by decide +kernel) (by decide +kernel), g_T_mem (i := 94) (w := .initialized RX11) (by decide +kernel) (by decide +kernel), by decide +kernel, by decide⟩
theorem mv_X11_heldOn : Cond.instanceMethod yX11_heldOn ∈ g_T ∧ Cond.selects RX11 yX11_heldOn yX11_heldOn ∈ g_T := ⟨g_T_mem (i := 1064) (w := .instanceMethod yX11_heldOn) (by decide +kernel) (by decide +kernel), g_T_mem (i := 31) (w := .selects RX11 yX11_heldOn yX11_heldOn) (by decide +kernel) (by decide +kernel)⟩
abbrev Y_X12_init : g_Y := (cX12_init, 1, none, RX12, "<init>")
theorem mt_X12_init : g_MT yX12_init Y_X12_init 0 := ⟨g_T_mem (i := 1187) (w := .code yX12_init cX12_init 1 (none)) (by decide +kernel) (by decide +kernel), g_T_mem (i := 107) (w := .initialized RX12) (by decide +kernel) (by decide +kernel), by decide +kernel, by decide⟩
abbrev Y_X12_isIn : g_Y := (cX12_isIn, 6, some .boolean, RX12, "isIn")
theorem mt_X12_isIn : g_MT yX12_isIn Y_X12_isIn 3 := ⟨g_T_mem (i := 1332) (w := .code yX12_isIn cX12_isIn 6 (some .boolean)) (by decide +kernel) (by decide +kernel), g_T_mem (i := 107) (w := .initialized RX12) (by decide +kernel) (by decide +kernel), by decide +kernel, by decide⟩
theorem ms_X12_isIn : Cond.static yX12_isIn ∈ g_T := g_T_mem (i := 1331) (w := .static yX12_isIn) (by decide +kernel) (by decide +kernel)
abbrev Y_X12_isOven : g_Y := (cX12_isOven, 2, some .boolean, RX12, "isOven")
theorem mt_X12_isOven : g_MT yX12_isOven Y_X12_isOven 1 := ⟨g_T_mem (i := 1342) (w := .code yX12_isOven cX12_isOven 2 (some .boolean)) (by decide +kernel) (by decide +kernel), g_T_mem (i := 107) (w := .initialized RX12) (by decide +kernel) (by decide +kernel), by decide +kernel, by decide⟩
theorem mv_X12_isOven : Cond.instanceMethod yX12_isOven ∈ g_T ∧ Cond.selects RX12 yX12_isOven yX12_isOven ∈ g_T := ⟨g_T_mem (i := 1341) (w := .instanceMethod yX12_isOven) (by decide +kernel) (by decide +kernel), g_T_mem (i := 32) (w := .selects RX12 yX12_isOven yX12_isOven) (by decide +kernel) (by decide +kernel)⟩
abbrev Y_X12_its : g_Y := (cX12_its, 3, some .int, RX12, "its")
theorem mt_X12_its : g_MT yX12_its Y_X12_its 2 := ⟨g_T_mem (i := 1355) (w := .code yX12_its cX12_its 3 (some .int)) (by decide +kernel) (by decide +kernel), g_T_mem (i := 107) (w := .initialized RX12) (by decide +kernel) (by decide +kernel), by decide +kernel, by decide⟩
theorem mv_X12_its : Cond.instanceMethod yX12_its ∈ g_T ∧ Cond.selects RX12 yX12_its yX12_its ∈ g_T := ⟨g_T_mem (i := 1354) (w := .instanceMethod yX12_its) (by decide +kernel) (by decide +kernel), g_T_mem (i := 35) (w := .selects RX12 yX12_its yX12_its) (by decide +kernel) (by decide +kernel)⟩
abbrev Y_X12_becomes : g_Y := (cX12_becomes, 4, some .int, RX12, "becomes")
theorem mt_X12_becomes : g_MT yX12_becomes Y_X12_becomes 2 := ⟨g_T_mem (i := 1395) (w := .code yX12_becomes cX12_becomes 4 (some .int)) (by decide +kernel) (by decide +kernel), g_T_mem (i := 107) (w := .initialized RX12) (by decide +kernel) (by decide +kernel), by decide +kernel, by decide⟩
theorem mv_X12_becomes : Cond.instanceMethod yX12_becomes ∈ g_T ∧ Cond.selects RX12 yX12_becomes yX12_becomes ∈ g_T := ⟨g_T_mem (i := 1394) (w := .instanceMethod yX12_becomes) (by decide +kernel) (by decide +kernel), g_T_mem (i := 41) (w := .selects RX12 yX12_becomes yX12_becomes) (by decide +kernel) (by decide +kernel)⟩
abbrev Y_X12_laysAside : g_Y := (cX12_laysAside, 3, none, RX12, "laysAside")
theorem mt_X12_laysAside : g_MT yX12_laysAside Y_X12_laysAside 1 := ⟨g_T_mem (i := 1528) (w := .code yX12_laysAside cX12_laysAside 3 (none)) (by decide +kernel) (by decide +kernel), g_T_mem (i := 107) (w := .initialized RX12) (by decide +kernel) (by decide +kernel), by decide +kernel, by decide⟩
theorem mv_X12_laysAside : Cond.instanceMethod yX12_laysAside ∈ g_T ∧ Cond.selects RX12 yX12_laysAside yX12_laysAside ∈ g_T := ⟨g_T_mem (i := 1527) (w := .instanceMethod yX12_laysAside) (by decide +kernel) (by decide +kernel), g_T_mem (i := 63) (w := .selects RX12 yX12_laysAside yX12_laysAside) (by decide +kernel) (by decide +kernel)⟩
abbrev Y_X12_laysBack : g_Y := (cX12_laysBack, 3, none, RX12, "laysBack")
theorem mt_X12_laysBack : g_MT yX12_laysBack Y_X12_laysBack 1 := ⟨g_T_mem (i := 1532) (w := .code yX12_laysBack cX12_laysBack 3 (none)) (by decide +kernel) (by decide +kernel), g_T_mem (i := 107) (w := .initialized RX12) (by decide +kernel) (by decide +kernel), by decide +kernel, by decide⟩
theorem mv_X12_laysBack : Cond.instanceMethod yX12_laysBack ∈ g_T ∧ Cond.selects RX12 yX12_laysBack yX12_laysBack ∈ g_T := ⟨g_T_mem (i := 1531) (w := .instanceMethod yX12_laysBack) (by decide +kernel) (by decide +kernel), g_T_mem (i := 64) (w := .selects RX12 yX12_laysBack yX12_laysBack) (by decide +kernel) (by decide +kernel)⟩
abbrev Y_X12_isOver : g_Y := (cX12_isOver, 1, some .boolean, RX12, "isOver")
theorem mt_X12_isOver : g_MT yX12_isOver Y_X12_isOver 0 := ⟨g_T_mem (i := 1420) (w := .code yX12_isOver cX12_isOver 1 (some .boolean)) (by decide +kernel) (by decide +kernel), g_T_mem (i := 107) (w := .initialized RX12) (by decide +kernel) (by decide +kernel), by decide +kernel, by decide⟩
theorem mv_X12_isOver : Cond.instanceMethod yX12_isOver ∈ g_T ∧ Cond.selects RX12 yX12_isOver yX12_isOver ∈ g_T := ⟨g_T_mem (i := 1419) (w := .instanceMethod yX12_isOver) (by decide +kernel) (by decide +kernel), g_T_mem (i := 42) (w := .selects RX12 yX12_isOver yX12_isOver) (by decide +kernel) (by decide +kernel)⟩
abbrev Y_X12_oven : g_Y := (cX12_oven, 6, some .int, RX12, "oven")
theorem mt_X12_oven : g_MT yX12_oven Y_X12_oven 4 := ⟨g_T_mem (i := 1328) (w := .code yX12_oven cX12_oven 6 (some .int)) (by decide +kernel) (by decide +kernel), g_T_mem (i := 107) (w := .initialized RX12) (by decide +kernel) (by decide +kernel), by decide +kernel, by decide⟩
theorem mv_X12_oven : Cond.instanceMethod yX12_oven ∈ g_T ∧ Cond.selects RX12 yX12_oven yX12_oven ∈ g_T := ⟨g_T_mem (i := 1326) (w := .instanceMethod yX12_oven) (by decide +kernel) (by decide +kernel), g_T_mem (i := 1327) (w := .selects RX12 yX12_oven yX12_oven) (by decide +kernel) (by decide +kernel)⟩
abbrev Y_X12_apart : g_Y := (cX12_apart, 2, some .int, RX12, "apart")
theorem mt_X12_apart : g_MT yX12_apart Y_X12_apart 2 := ⟨g_T_mem (i := 1386) (w := .code yX12_apart cX12_apart 2 (some .int)) (by decide +kernel) (by decide +kernel), g_T_mem (i := 107) (w := .initialized RX12) (by decide +kernel) (by decide +kernel), by decide +kernel, by decide⟩
theorem ms_X12_apart : Cond.static yX12_apart ∈ g_T := g_T_mem (i := 1385) (w := .static yX12_apart) (by decide +kernel) (by decide +kernel)
abbrev Y_X12_longsBy : g_Y := (cX12_longsBy, 7, some .int, RX12, "longsBy")
theorem mt_X12_longsBy : g_MT yX12_longsBy Y_X12_longsBy 6 := ⟨g_T_mem (i := 1383) (w := .code yX12_longsBy cX12_longsBy 7 (some .int)) (by decide +kernel) (by decide +kernel), g_T_mem (i := 107) (w := .initialized RX12) (by decide +kernel) (by decide +kernel), by decide +kernel, by decide⟩
theorem ms_X12_longsBy : Cond.static yX12_longsBy ∈ g_T := g_T_mem (i := 1382) (w := .static yX12_longsBy) (by decide +kernel) (by decide +kernel)
abbrev Y_X12_longs : g_Y := (cX12_longs, 3, some .int, RX12, "longs")
theorem mt_X12_longs : g_MT yX12_longs Y_X12_longs 2 := ⟨g_T_mem (i := 1380) (w := .code yX12_longs cX12_longs 3 (some .int)) (by decide +kernel) (by decide +kernel), g_T_mem (i := 107) (w := .initialized RX12) (by decide +kernel) (by decide +kernel), by decide +kernel, by decide⟩
theorem mv_X12_longs : Cond.instanceMethod yX12_longs ∈ g_T ∧ Cond.selects RX12 yX12_longs yX12_longs ∈ g_T := ⟨g_T_mem (i := 1379) (w := .instanceMethod yX12_longs) (by decide +kernel) (by decide +kernel), g_T_mem (i := 40) (w := .selects RX12 yX12_longs yX12_longs) (by decide +kernel) (by decide +kernel)⟩
abbrev Y_X12_bakes : g_Y := (cX12_bakes, 3, some .int, RX12, "bakes")
theorem mt_X12_bakes : g_MT yX12_bakes Y_X12_bakes 1 := ⟨g_T_mem (i := 1372) (w := .code yX12_bakes cX12_bakes 3 (some .int)) (by decide +kernel) (by decide +kernel), g_T_mem (i := 107) (w := .initialized RX12) (by decide +kernel) (by decide +kernel), by decide +kernel, by decide⟩
theorem mv_X12_bakes : Cond.instanceMethod yX12_bakes ∈ g_T ∧ Cond.selects RX12 yX12_bakes yX12_bakes ∈ g_T := ⟨g_T_mem (i := 1371) (w := .instanceMethod yX12_bakes) (by decide +kernel) (by decide +kernel), g_T_mem (i := 38) (w := .selects RX12 yX12_bakes yX12_bakes) (by decide +kernel) (by decide +kernel)⟩
abbrev Y_X12_isUnder : g_Y := (cX12_isUnder, 2, some .boolean, RX12, "isUnder")
theorem mt_X12_isUnder : g_MT yX12_isUnder Y_X12_isUnder 2 := ⟨g_T_mem (i := 1358) (w := .code yX12_isUnder cX12_isUnder 2 (some .boolean)) (by decide +kernel) (by decide +kernel), g_T_mem (i := 107) (w := .initialized RX12) (by decide +kernel) (by decide +kernel), by decide +kernel, by decide⟩
theorem ms_X12_isUnder : Cond.static yX12_isUnder ∈ g_T := g_T_mem (i := 1357) (w := .static yX12_isUnder) (by decide +kernel) (by decide +kernel)
abbrev Y_X12_valueOf : g_Y := (cX12_valueOf, 3, some .int, RX12, "valueOf")
theorem mt_X12_valueOf : g_MT yX12_valueOf Y_X12_valueOf 2 := ⟨g_T_mem (i := 1366) (w := .code yX12_valueOf cX12_valueOf 3 (some .int)) (by decide +kernel) (by decide +kernel), g_T_mem (i := 107) (w := .initialized RX12) (by decide +kernel) (by decide +kernel), by decide +kernel, by decide⟩
theorem mv_X12_valueOf : Cond.instanceMethod yX12_valueOf ∈ g_T ∧ Cond.selects RX12 yX12_valueOf yX12_valueOf ∈ g_T := ⟨g_T_mem (i := 1365) (w := .instanceMethod yX12_valueOf) (by decide +kernel) (by decide +kernel), g_T_mem (i := 37) (w := .selects RX12 yX12_valueOf yX12_valueOf) (by decide +kernel) (by decide +kernel)⟩
abbrev Y_X12_holds : g_Y := (cX12_holds, 10, some .boolean, RX12, "holds")
theorem mt_X12_holds : g_MT yX12_holds Y_X12_holds 2 := ⟨g_T_mem (i := 1362) (w := .code yX12_holds cX12_holds 10 (some .boolean)) (by decide +kernel) (by decide +kernel), g_T_mem (i := 107) (w := .initialized RX12) (by decide +kernel) (by decide +kernel), by decide +kernel, by decide⟩
theorem mv_X12_holds : Cond.instanceMethod yX12_holds ∈ g_T ∧ Cond.selects RX12 yX12_holds yX12_holds ∈ g_T := ⟨g_T_mem (i := 1361) (w := .instanceMethod yX12_holds) (by decide +kernel) (by decide +kernel), g_T_mem (i := 36) (w := .selects RX12 yX12_holds yX12_holds) (by decide +kernel) (by decide +kernel)⟩
abbrev Y_X12_will : g_Y := (cX12_will, 3, some .int, RX12, "will")
theorem mt_X12_will : g_MT yX12_will Y_X12_will 1 := ⟨g_T_mem (i := 1351) (w := .code yX12_will cX12_will 3 (some .int)) (by decide +kernel) (by decide +kernel), g_T_mem (i := 107) (w := .initialized RX12) (by decide +kernel) (by decide +kernel), by decide +kernel, by decide⟩
theorem mv_X12_will : Cond.instanceMethod yX12_will ∈ g_T ∧ Cond.selects RX12 yX12_will yX12_will ∈ g_T := ⟨g_T_mem (i := 1350) (w := .instanceMethod yX12_will) (by decide +kernel) (by decide +kernel), g_T_mem (i := 34) (w := .selects RX12 yX12_will yX12_will) (by decide +kernel) (by decide +kernel)⟩
abbrev Y_X12_looks : g_Y := (cX12_looks, 3, none, RX12, "looks")
theorem mt_X12_looks : g_MT yX12_looks Y_X12_looks 1 := ⟨g_T_mem (i := 1347) (w := .code yX12_looks cX12_looks 3 (none)) (by decide +kernel) (by decide +kernel), g_T_mem (i := 107) (w := .initialized RX12) (by decide +kernel) (by decide +kernel), by decide +kernel, by decide⟩
theorem mv_X12_looks : Cond.instanceMethod yX12_looks ∈ g_T ∧ Cond.selects RX12 yX12_looks yX12_looks ∈ g_T := ⟨g_T_mem (i := 1346) (w := .instanceMethod yX12_looks) (by decide +kernel) (by decide +kernel), g_T_mem (i := 33) (w := .selects RX12 yX12_looks yX12_looks) (by decide +kernel) (by decide +kernel)⟩
abbrev Y_X12_choice : g_Y := (cX12_choice, 5, some .int, RX12, "choice")
theorem mt_X12_choice : g_MT yX12_choice Y_X12_choice 1 := ⟨g_T_mem (i := 1376) (w := .code yX12_choice cX12_choice 5 (some .int)) (by decide +kernel) (by decide +kernel), g_T_mem (i := 107) (w := .initialized RX12) (by decide +kernel) (by decide +kernel), by decide +kernel, by decide⟩
theorem mv_X12_choice : Cond.instanceMethod yX12_choice ∈ g_T ∧ Cond.selects RX12 yX12_choice yX12_choice ∈ g_T := ⟨g_T_mem (i := 1375) (w := .instanceMethod yX12_choice) (by decide +kernel) (by decide +kernel), g_T_mem (i := 39) (w := .selects RX12 yX12_choice yX12_choice) (by decide +kernel) (by decide +kernel)⟩
abbrev Y_X12_ovenOf : g_Y := (cX12_ovenOf, 3, some .int, RX12, "ovenOf")
theorem mt_X12_ovenOf : g_MT yX12_ovenOf Y_X12_ovenOf 2 := ⟨g_T_mem (i := 1338) (w := .code yX12_ovenOf cX12_ovenOf 3 (some .int)) (by decide +kernel) (by decide +kernel), g_T_mem (i := 107) (w := .initialized RX12) (by decide +kernel) (by decide +kernel), by decide +kernel, by decide⟩
theorem mv_X12_ovenOf : Cond.instanceMethod yX12_ovenOf ∈ g_T ∧ Cond.selects RX12 yX12_ovenOf yX12_ovenOf ∈ g_T := ⟨g_T_mem (i := 1336) (w := .instanceMethod yX12_ovenOf) (by decide +kernel) (by decide +kernel), g_T_mem (i := 1337) (w := .selects RX12 yX12_ovenOf yX12_ovenOf) (by decide +kernel) (by decide +kernel)⟩
abbrev Y_X12_change : g_Y := (cX12_change, 5, some .int, RX12, "change")
theorem mt_X12_change : g_MT yX12_change Y_X12_change 3 := ⟨g_T_mem (i := 1390) (w := .code yX12_change cX12_change 5 (some .int)) (by decide +kernel) (by decide +kernel), g_T_mem (i := 107) (w := .initialized RX12) (by decide +kernel) (by decide +kernel), by decide +kernel, by decide⟩
theorem mv_X12_change : Cond.instanceMethod yX12_change ∈ g_T ∧ Cond.selects RX12 yX12_change yX12_change ∈ g_T := ⟨g_T_mem (i := 1388) (w := .instanceMethod yX12_change) (by decide +kernel) (by decide +kernel), g_T_mem (i := 1389) (w := .selects RX12 yX12_change yX12_change) (by decide +kernel) (by decide +kernel)⟩
abbrev Y_X12_remake : g_Y := (cX12_remake, 3, some .int, RX12, "remake")
theorem mt_X12_remake : g_MT yX12_remake Y_X12_remake 2 := ⟨g_T_mem (i := 1399) (w := .code yX12_remake cX12_remake 3 (some .int)) (by decide +kernel) (by decide +kernel), g_T_mem (i := 107) (w := .initialized RX12) (by decide +kernel) (by decide +kernel), by decide +kernel, by decide⟩
theorem mv_X12_remake : Cond.instanceMethod yX12_remake ∈ g_T ∧ Cond.selects RX12 yX12_remake yX12_remake ∈ g_T := ⟨g_T_mem (i := 1397) (w := .instanceMethod yX12_remake) (by decide +kernel) (by decide +kernel), g_T_mem (i := 1398) (w := .selects RX12 yX12_remake yX12_remake) (by decide +kernel) (by decide +kernel)⟩
abbrev Y_X12_longing : g_Y := (cX12_longing, 3, some .int, RX12, "longing")
theorem mt_X12_longing : g_MT yX12_longing Y_X12_longing 2 := ⟨g_T_mem (i := 1403) (w := .code yX12_longing cX12_longing 3 (some .int)) (by decide +kernel) (by decide +kernel), g_T_mem (i := 107) (w := .initialized RX12) (by decide +kernel) (by decide +kernel), by decide +kernel, by decide⟩
theorem mv_X12_longing : Cond.instanceMethod yX12_longing ∈ g_T ∧ Cond.selects RX12 yX12_longing yX12_longing ∈ g_T := ⟨g_T_mem (i := 1401) (w := .instanceMethod yX12_longing) (by decide +kernel) (by decide +kernel), g_T_mem (i := 1402) (w := .selects RX12 yX12_longing yX12_longing) (by decide +kernel) (by decide +kernel)⟩
abbrev Y_X12_ends : g_Y := (cX12_ends, 2, some .int, RX12, "ends")
theorem mt_X12_ends : g_MT yX12_ends Y_X12_ends 1 := ⟨g_T_mem (i := 1407) (w := .code yX12_ends cX12_ends 2 (some .int)) (by decide +kernel) (by decide +kernel), g_T_mem (i := 107) (w := .initialized RX12) (by decide +kernel) (by decide +kernel), by decide +kernel, by decide⟩
theorem mv_X12_ends : Cond.instanceMethod yX12_ends ∈ g_T ∧ Cond.selects RX12 yX12_ends yX12_ends ∈ g_T := ⟨g_T_mem (i := 1405) (w := .instanceMethod yX12_ends) (by decide +kernel) (by decide +kernel), g_T_mem (i := 1406) (w := .selects RX12 yX12_ends yX12_ends) (by decide +kernel) (by decide +kernel)⟩
abbrev Y_X12_anew : g_Y := (cX12_anew, 2, some .int, RX12, "anew")
theorem mt_X12_anew : g_MT yX12_anew Y_X12_anew 0 := ⟨g_T_mem (i := 1412) (w := .code yX12_anew cX12_anew 2 (some .int)) (by decide +kernel) (by decide +kernel), g_T_mem (i := 107) (w := .initialized RX12) (by decide +kernel) (by decide +kernel), by decide +kernel, by decide⟩
theorem mv_X12_anew : Cond.instanceMethod yX12_anew ∈ g_T ∧ Cond.selects RX12 yX12_anew yX12_anew ∈ g_T := ⟨g_T_mem (i := 1410) (w := .instanceMethod yX12_anew) (by decide +kernel) (by decide +kernel), g_T_mem (i := 1411) (w := .selects RX12 yX12_anew yX12_anew) (by decide +kernel) (by decide +kernel)⟩
abbrev Y_X12_home : g_Y := (cX12_home, 3, some .int, RX12, "home")
theorem mt_X12_home : g_MT yX12_home Y_X12_home 0 := ⟨g_T_mem (i := 1424) (w := .code yX12_home cX12_home 3 (some .int)) (by decide +kernel) (by decide +kernel), g_T_mem (i := 107) (w := .initialized RX12) (by decide +kernel) (by decide +kernel), by decide +kernel, by decide⟩
theorem mv_X12_home : Cond.instanceMethod yX12_home ∈ g_T ∧ Cond.selects RX12 yX12_home yX12_home ∈ g_T := ⟨g_T_mem (i := 1423) (w := .instanceMethod yX12_home) (by decide +kernel) (by decide +kernel), g_T_mem (i := 43) (w := .selects RX12 yX12_home yX12_home) (by decide +kernel) (by decide +kernel)⟩
abbrev Y_X12_state : g_Y := (cX12_state, 2, some .int, RX12, "state")
theorem mt_X12_state : g_MT yX12_state Y_X12_state 1 := ⟨g_T_mem (i := 1416) (w := .code yX12_state cX12_state 2 (some .int)) (by decide +kernel) (by decide +kernel), g_T_mem (i := 107) (w := .initialized RX12) (by decide +kernel) (by decide +kernel), by decide +kernel, by decide⟩
theorem mv_X12_state : Cond.instanceMethod yX12_state ∈ g_T ∧ Cond.selects RX12 yX12_state yX12_state ∈ g_T := ⟨g_T_mem (i := 1414) (w := .instanceMethod yX12_state) (by decide +kernel) (by decide +kernel), g_T_mem (i := 1415) (w := .selects RX12 yX12_state yX12_state) (by decide +kernel) (by decide +kernel)⟩
abbrev Y_X12_feed : g_Y := (cX12_feed, 5, some .int, RX12, "feed")
theorem mt_X12_feed : g_MT yX12_feed Y_X12_feed 2 := ⟨g_T_mem (i := 1428) (w := .code yX12_feed cX12_feed 5 (some .int)) (by decide +kernel) (by decide +kernel), g_T_mem (i := 107) (w := .initialized RX12) (by decide +kernel) (by decide +kernel), by decide +kernel, by decide⟩
theorem mv_X12_feed : Cond.instanceMethod yX12_feed ∈ g_T ∧ Cond.selects RX12 yX12_feed yX12_feed ∈ g_T := ⟨g_T_mem (i := 1426) (w := .instanceMethod yX12_feed) (by decide +kernel) (by decide +kernel), g_T_mem (i := 1427) (w := .selects RX12 yX12_feed yX12_feed) (by decide +kernel) (by decide +kernel)⟩
abbrev Y_X12_isAlpha : g_Y := (cX12_isAlpha, 1, some .boolean, RX12, "isAlpha")
theorem mt_X12_isAlpha : g_MT yX12_isAlpha Y_X12_isAlpha 1 := ⟨g_T_mem (i := 1445) (w := .code yX12_isAlpha cX12_isAlpha 1 (some .boolean)) (by decide +kernel) (by decide +kernel), g_T_mem (i := 107) (w := .initialized RX12) (by decide +kernel) (by decide +kernel), by decide +kernel, by decide⟩
theorem ms_X12_isAlpha : Cond.static yX12_isAlpha ∈ g_T := g_T_mem (i := 1444) (w := .static yX12_isAlpha) (by decide +kernel) (by decide +kernel)
abbrev Y_X12_isDigit : g_Y := (cX12_isDigit, 1, some .boolean, RX12, "isDigit")
theorem mt_X12_isDigit : g_MT yX12_isDigit Y_X12_isDigit 1 := ⟨g_T_mem (i := 1448) (w := .code yX12_isDigit cX12_isDigit 1 (some .boolean)) (by decide +kernel) (by decide +kernel), g_T_mem (i := 107) (w := .initialized RX12) (by decide +kernel) (by decide +kernel), by decide +kernel, by decide⟩
theorem ms_X12_isDigit : Cond.static yX12_isDigit ∈ g_T := g_T_mem (i := 1447) (w := .static yX12_isDigit) (by decide +kernel) (by decide +kernel)
abbrev Y_X12_byteAt : g_Y := (cX12_byteAt, 2, some .int, RX12, "byteAt")
theorem mt_X12_byteAt : g_MT yX12_byteAt Y_X12_byteAt 1 := ⟨g_T_mem (i := 1442) (w := .code yX12_byteAt cX12_byteAt 2 (some .int)) (by decide +kernel) (by decide +kernel), g_T_mem (i := 107) (w := .initialized RX12) (by decide +kernel) (by decide +kernel), by decide +kernel, by decide⟩
theorem mv_X12_byteAt : Cond.instanceMethod yX12_byteAt ∈ g_T ∧ Cond.selects RX12 yX12_byteAt yX12_byteAt ∈ g_T := ⟨g_T_mem (i := 1441) (w := .instanceMethod yX12_byteAt) (by decide +kernel) (by decide +kernel), g_T_mem (i := 45) (w := .selects RX12 yX12_byteAt yX12_byteAt) (by decide +kernel) (by decide +kernel)⟩
abbrev Y_X12_nextToken : g_Y := (cX12_nextToken, 2, none, RX12, "nextToken")
theorem mt_X12_nextToken : g_MT yX12_nextToken Y_X12_nextToken 0 := ⟨g_T_mem (i := 1438) (w := .code yX12_nextToken cX12_nextToken 2 (none)) (by decide +kernel) (by decide +kernel), g_T_mem (i := 107) (w := .initialized RX12) (by decide +kernel) (by decide +kernel), by decide +kernel, by decide⟩
theorem mv_X12_nextToken : Cond.instanceMethod yX12_nextToken ∈ g_T ∧ Cond.selects RX12 yX12_nextToken yX12_nextToken ∈ g_T := ⟨g_T_mem (i := 1437) (w := .instanceMethod yX12_nextToken) (by decide +kernel) (by decide +kernel), g_T_mem (i := 44) (w := .selects RX12 yX12_nextToken yX12_nextToken) (by decide +kernel) (by decide +kernel)⟩
abbrev Y_X12_needs : g_Y := (cX12_needs, 2, none, RX12, "needs")
theorem mt_X12_needs : g_MT yX12_needs Y_X12_needs 1 := ⟨g_T_mem (i := 1468) (w := .code yX12_needs cX12_needs 2 (none)) (by decide +kernel) (by decide +kernel), g_T_mem (i := 107) (w := .initialized RX12) (by decide +kernel) (by decide +kernel), by decide +kernel, by decide⟩
theorem mv_X12_needs : Cond.instanceMethod yX12_needs ∈ g_T ∧ Cond.selects RX12 yX12_needs yX12_needs ∈ g_T := ⟨g_T_mem (i := 1467) (w := .instanceMethod yX12_needs) (by decide +kernel) (by decide +kernel), g_T_mem (i := 50) (w := .selects RX12 yX12_needs yX12_needs) (by decide +kernel) (by decide +kernel)⟩
abbrev Y_X12_isByte : g_Y := (cX12_isByte, 2, some .boolean, RX12, "isByte")
theorem mt_X12_isByte : g_MT yX12_isByte Y_X12_isByte 1 := ⟨g_T_mem (i := 1488) (w := .code yX12_isByte cX12_isByte 2 (some .boolean)) (by decide +kernel) (by decide +kernel), g_T_mem (i := 107) (w := .initialized RX12) (by decide +kernel) (by decide +kernel), by decide +kernel, by decide⟩
theorem mv_X12_isByte : Cond.instanceMethod yX12_isByte ∈ g_T ∧ Cond.selects RX12 yX12_isByte yX12_isByte ∈ g_T := ⟨g_T_mem (i := 1487) (w := .instanceMethod yX12_isByte) (by decide +kernel) (by decide +kernel), g_T_mem (i := 55) (w := .selects RX12 yX12_isByte yX12_isByte) (by decide +kernel) (by decide +kernel)⟩
abbrev Y_X12_isName : g_Y := (cX12_isName, 6, some .boolean, RX12, "isName")
theorem mt_X12_isName : g_MT yX12_isName Y_X12_isName 5 := ⟨g_T_mem (i := 1460) (w := .code yX12_isName cX12_isName 6 (some .boolean)) (by decide +kernel) (by decide +kernel), g_T_mem (i := 107) (w := .initialized RX12) (by decide +kernel) (by decide +kernel), by decide +kernel, by decide⟩
theorem mv_X12_isName : Cond.instanceMethod yX12_isName ∈ g_T ∧ Cond.selects RX12 yX12_isName yX12_isName ∈ g_T := ⟨g_T_mem (i := 1459) (w := .instanceMethod yX12_isName) (by decide +kernel) (by decide +kernel), g_T_mem (i := 48) (w := .selects RX12 yX12_isName yX12_isName) (by decide +kernel) (by decide +kernel)⟩
abbrev Y_X12_isSame : g_Y := (cX12_isSame, 5, some .boolean, RX12, "isSame")
theorem mt_X12_isSame : g_MT yX12_isSame Y_X12_isSame 4 := ⟨g_T_mem (i := 1464) (w := .code yX12_isSame cX12_isSame 5 (some .boolean)) (by decide +kernel) (by decide +kernel), g_T_mem (i := 107) (w := .initialized RX12) (by decide +kernel) (by decide +kernel), by decide +kernel, by decide⟩
theorem mv_X12_isSame : Cond.instanceMethod yX12_isSame ∈ g_T ∧ Cond.selects RX12 yX12_isSame yX12_isSame ∈ g_T := ⟨g_T_mem (i := 1463) (w := .instanceMethod yX12_isSame) (by decide +kernel) (by decide +kernel), g_T_mem (i := 49) (w := .selects RX12 yX12_isSame yX12_isSame) (by decide +kernel) (by decide +kernel)⟩
abbrev Y_X12_kindHere : g_Y := (cX12_kindHere, 1, some .int, RX12, "kindHere")
theorem mt_X12_kindHere : g_MT yX12_kindHere Y_X12_kindHere 0 := ⟨g_T_mem (i := 1456) (w := .code yX12_kindHere cX12_kindHere 1 (some .int)) (by decide +kernel) (by decide +kernel), g_T_mem (i := 107) (w := .initialized RX12) (by decide +kernel) (by decide +kernel), by decide +kernel, by decide⟩
theorem mv_X12_kindHere : Cond.instanceMethod yX12_kindHere ∈ g_T ∧ Cond.selects RX12 yX12_kindHere yX12_kindHere ∈ g_T := ⟨g_T_mem (i := 1455) (w := .instanceMethod yX12_kindHere) (by decide +kernel) (by decide +kernel), g_T_mem (i := 47) (w := .selects RX12 yX12_kindHere yX12_kindHere) (by decide +kernel) (by decide +kernel)⟩
abbrev Y_X12_doHere : g_Y := (cX12_doHere, 1, some .int, RX12, "doHere")
theorem mt_X12_doHere : g_MT yX12_doHere Y_X12_doHere 0 := ⟨g_T_mem (i := 1508) (w := .code yX12_doHere cX12_doHere 1 (some .int)) (by decide +kernel) (by decide +kernel), g_T_mem (i := 107) (w := .initialized RX12) (by decide +kernel) (by decide +kernel), by decide +kernel, by decide⟩
theorem mv_X12_doHere : Cond.instanceMethod yX12_doHere ∈ g_T ∧ Cond.selects RX12 yX12_doHere yX12_doHere ∈ g_T := ⟨g_T_mem (i := 1507) (w := .instanceMethod yX12_doHere) (by decide +kernel) (by decide +kernel), g_T_mem (i := 60) (w := .selects RX12 yX12_doHere yX12_doHere) (by decide +kernel) (by decide +kernel)⟩
abbrev Y_X12_factHere : g_Y := (cX12_factHere, 1, some .int, RX12, "factHere")
theorem mt_X12_factHere : g_MT yX12_factHere Y_X12_factHere 0 := ⟨g_T_mem (i := 1500) (w := .code yX12_factHere cX12_factHere 1 (some .int)) (by decide +kernel) (by decide +kernel), g_T_mem (i := 107) (w := .initialized RX12) (by decide +kernel) (by decide +kernel), by decide +kernel, by decide⟩
theorem mv_X12_factHere : Cond.instanceMethod yX12_factHere ∈ g_T ∧ Cond.selects RX12 yX12_factHere yX12_factHere ∈ g_T := ⟨g_T_mem (i := 1499) (w := .instanceMethod yX12_factHere) (by decide +kernel) (by decide +kernel), g_T_mem (i := 58) (w := .selects RX12 yX12_factHere yX12_factHere) (by decide +kernel) (by decide +kernel)⟩
abbrev Y_X12_isTwo : g_Y := (cX12_isTwo, 3, some .boolean, RX12, "isTwo")
theorem mt_X12_isTwo : g_MT yX12_isTwo Y_X12_isTwo 2 := ⟨g_T_mem (i := 1472) (w := .code yX12_isTwo cX12_isTwo 3 (some .boolean)) (by decide +kernel) (by decide +kernel), g_T_mem (i := 107) (w := .initialized RX12) (by decide +kernel) (by decide +kernel), by decide +kernel, by decide⟩
theorem mv_X12_isTwo : Cond.instanceMethod yX12_isTwo ∈ g_T ∧ Cond.selects RX12 yX12_isTwo yX12_isTwo ∈ g_T := ⟨g_T_mem (i := 1471) (w := .instanceMethod yX12_isTwo) (by decide +kernel) (by decide +kernel), g_T_mem (i := 51) (w := .selects RX12 yX12_isTwo yX12_isTwo) (by decide +kernel) (by decide +kernel)⟩
abbrev Y_X12_steps : g_Y := (cX12_steps, 4, none, RX12, "steps")
theorem mt_X12_steps : g_MT yX12_steps Y_X12_steps 3 := ⟨g_T_mem (i := 1504) (w := .code yX12_steps cX12_steps 4 (none)) (by decide +kernel) (by decide +kernel), g_T_mem (i := 107) (w := .initialized RX12) (by decide +kernel) (by decide +kernel), by decide +kernel, by decide⟩
theorem mv_X12_steps : Cond.instanceMethod yX12_steps ∈ g_T ∧ Cond.selects RX12 yX12_steps yX12_steps ∈ g_T := ⟨g_T_mem (i := 1503) (w := .instanceMethod yX12_steps) (by decide +kernel) (by decide +kernel), g_T_mem (i := 59) (w := .selects RX12 yX12_steps yX12_steps) (by decide +kernel) (by decide +kernel)⟩
abbrev Y_X12_valueHere : g_Y := (cX12_valueHere, 3, some .int, RX12, "valueHere")
theorem mt_X12_valueHere : g_MT yX12_valueHere Y_X12_valueHere 0 := ⟨g_T_mem (i := 1496) (w := .code yX12_valueHere cX12_valueHere 3 (some .int)) (by decide +kernel) (by decide +kernel), g_T_mem (i := 107) (w := .initialized RX12) (by decide +kernel) (by decide +kernel), by decide +kernel, by decide⟩
theorem mv_X12_valueHere : Cond.instanceMethod yX12_valueHere ∈ g_T ∧ Cond.selects RX12 yX12_valueHere yX12_valueHere ∈ g_T := ⟨g_T_mem (i := 1495) (w := .instanceMethod yX12_valueHere) (by decide +kernel) (by decide +kernel), g_T_mem (i := 57) (w := .selects RX12 yX12_valueHere yX12_valueHere) (by decide +kernel) (by decide +kernel)⟩
abbrev Y_X12_comparesHere : g_Y := (cX12_comparesHere, 4, none, RX12, "comparesHere")
theorem mt_X12_comparesHere : g_MT yX12_comparesHere Y_X12_comparesHere 0 := ⟨g_T_mem (i := 1492) (w := .code yX12_comparesHere cX12_comparesHere 4 (none)) (by decide +kernel) (by decide +kernel), g_T_mem (i := 107) (w := .initialized RX12) (by decide +kernel) (by decide +kernel), by decide +kernel, by decide⟩
theorem mv_X12_comparesHere : Cond.instanceMethod yX12_comparesHere ∈ g_T ∧ Cond.selects RX12 yX12_comparesHere yX12_comparesHere ∈ g_T := ⟨g_T_mem (i := 1491) (w := .instanceMethod yX12_comparesHere) (by decide +kernel) (by decide +kernel), g_T_mem (i := 56) (w := .selects RX12 yX12_comparesHere yX12_comparesHere) (by decide +kernel) (by decide +kernel)⟩
abbrev Y_X12_oneHere : g_Y := (cX12_oneHere, 2, none, RX12, "oneHere")
theorem mt_X12_oneHere : g_MT yX12_oneHere Y_X12_oneHere 0 := ⟨g_T_mem (i := 1484) (w := .code yX12_oneHere cX12_oneHere 2 (none)) (by decide +kernel) (by decide +kernel), g_T_mem (i := 107) (w := .initialized RX12) (by decide +kernel) (by decide +kernel), by decide +kernel, by decide⟩
theorem mv_X12_oneHere : Cond.instanceMethod yX12_oneHere ∈ g_T ∧ Cond.selects RX12 yX12_oneHere yX12_oneHere ∈ g_T := ⟨g_T_mem (i := 1483) (w := .instanceMethod yX12_oneHere) (by decide +kernel) (by decide +kernel), g_T_mem (i := 54) (w := .selects RX12 yX12_oneHere yX12_oneHere) (by decide +kernel) (by decide +kernel)⟩
abbrev Y_X12_allHere : g_Y := (cX12_allHere, 1, none, RX12, "allHere")
theorem mt_X12_allHere : g_MT yX12_allHere Y_X12_allHere 0 := ⟨g_T_mem (i := 1480) (w := .code yX12_allHere cX12_allHere 1 (none)) (by decide +kernel) (by decide +kernel), g_T_mem (i := 107) (w := .initialized RX12) (by decide +kernel) (by decide +kernel), by decide +kernel, by decide⟩
theorem mv_X12_allHere : Cond.instanceMethod yX12_allHere ∈ g_T ∧ Cond.selects RX12 yX12_allHere yX12_allHere ∈ g_T := ⟨g_T_mem (i := 1479) (w := .instanceMethod yX12_allHere) (by decide +kernel) (by decide +kernel), g_T_mem (i := 53) (w := .selects RX12 yX12_allHere yX12_allHere) (by decide +kernel) (by decide +kernel)⟩
abbrev Y_X12_condHere : g_Y := (cX12_condHere, 1, none, RX12, "condHere")
theorem mt_X12_condHere : g_MT yX12_condHere Y_X12_condHere 0 := ⟨g_T_mem (i := 1476) (w := .code yX12_condHere cX12_condHere 1 (none)) (by decide +kernel) (by decide +kernel), g_T_mem (i := 107) (w := .initialized RX12) (by decide +kernel) (by decide +kernel), by decide +kernel, by decide⟩
theorem mv_X12_condHere : Cond.instanceMethod yX12_condHere ∈ g_T ∧ Cond.selects RX12 yX12_condHere yX12_condHere ∈ g_T := ⟨g_T_mem (i := 1475) (w := .instanceMethod yX12_condHere) (by decide +kernel) (by decide +kernel), g_T_mem (i := 52) (w := .selects RX12 yX12_condHere yX12_condHere) (by decide +kernel) (by decide +kernel)⟩
abbrev Y_X12_ruleHere : g_Y := (cX12_ruleHere, 5, none, RX12, "ruleHere")
theorem mt_X12_ruleHere : g_MT yX12_ruleHere Y_X12_ruleHere 0 := ⟨g_T_mem (i := 1452) (w := .code yX12_ruleHere cX12_ruleHere 5 (none)) (by decide +kernel) (by decide +kernel), g_T_mem (i := 107) (w := .initialized RX12) (by decide +kernel) (by decide +kernel), by decide +kernel, by decide⟩
theorem mv_X12_ruleHere : Cond.instanceMethod yX12_ruleHere ∈ g_T ∧ Cond.selects RX12 yX12_ruleHere yX12_ruleHere ∈ g_T := ⟨g_T_mem (i := 1451) (w := .instanceMethod yX12_ruleHere) (by decide +kernel) (by decide +kernel), g_T_mem (i := 46) (w := .selects RX12 yX12_ruleHere yX12_ruleHere) (by decide +kernel) (by decide +kernel)⟩
abbrev Y_X12_rules : g_Y := (cX12_rules, 2, some .int, RX12, "rules")
theorem mt_X12_rules : g_MT yX12_rules Y_X12_rules 0 := ⟨g_T_mem (i := 1434) (w := .code yX12_rules cX12_rules 2 (some .int)) (by decide +kernel) (by decide +kernel), g_T_mem (i := 107) (w := .initialized RX12) (by decide +kernel) (by decide +kernel), by decide +kernel, by decide⟩
theorem mv_X12_rules : Cond.instanceMethod yX12_rules ∈ g_T ∧ Cond.selects RX12 yX12_rules yX12_rules ∈ g_T := ⟨g_T_mem (i := 1432) (w := .instanceMethod yX12_rules) (by decide +kernel) (by decide +kernel), g_T_mem (i := 1433) (w := .selects RX12 yX12_rules yX12_rules) (by decide +kernel) (by decide +kernel)⟩
abbrev Y_X12_goesBy : g_Y := (cX12_goesBy, 4, some .int, RX12, "goesBy")
theorem mt_X12_goesBy : g_MT yX12_goesBy Y_X12_goesBy 1 := ⟨g_T_mem (i := 1516) (w := .code yX12_goesBy cX12_goesBy 4 (some .int)) (by decide +kernel) (by decide +kernel), g_T_mem (i := 107) (w := .initialized RX12) (by decide +kernel) (by decide +kernel), by decide +kernel, by decide⟩
theorem mv_X12_goesBy : Cond.instanceMethod yX12_goesBy ∈ g_T ∧ Cond.selects RX12 yX12_goesBy yX12_goesBy ∈ g_T := ⟨g_T_mem (i := 1515) (w := .instanceMethod yX12_goesBy) (by decide +kernel) (by decide +kernel), g_T_mem (i := 61) (w := .selects RX12 yX12_goesBy yX12_goesBy) (by decide +kernel) (by decide +kernel)⟩
abbrev Y_X12_goesWith : g_Y := (cX12_goesWith, 2, some .int, RX12, "goesWith")
theorem mt_X12_goesWith : g_MT yX12_goesWith Y_X12_goesWith 1 := ⟨g_T_mem (i := 1606) (w := .code yX12_goesWith cX12_goesWith 2 (some .int)) (by decide +kernel) (by decide +kernel), g_T_mem (i := 107) (w := .initialized RX12) (by decide +kernel) (by decide +kernel), by decide +kernel, by decide⟩
theorem mv_X12_goesWith : Cond.instanceMethod yX12_goesWith ∈ g_T ∧ Cond.selects RX12 yX12_goesWith yX12_goesWith ∈ g_T := ⟨g_T_mem (i := 1605) (w := .instanceMethod yX12_goesWith) (by decide +kernel) (by decide +kernel), g_T_mem (i := 72) (w := .selects RX12 yX12_goesWith yX12_goesWith) (by decide +kernel) (by decide +kernel)⟩
abbrev Y_X12_night : g_Y := (cX12_night, 1, some .int, RX12, "night")
theorem mt_X12_night : g_MT yX12_night Y_X12_night 0 := ⟨g_T_mem (i := 1512) (w := .code yX12_night cX12_night 1 (some .int)) (by decide +kernel) (by decide +kernel), g_T_mem (i := 107) (w := .initialized RX12) (by decide +kernel) (by decide +kernel), by decide +kernel, by decide⟩
theorem mv_X12_night : Cond.instanceMethod yX12_night ∈ g_T ∧ Cond.selects RX12 yX12_night yX12_night ∈ g_T := ⟨g_T_mem (i := 1510) (w := .instanceMethod yX12_night) (by decide +kernel) (by decide +kernel), g_T_mem (i := 1511) (w := .selects RX12 yX12_night yX12_night) (by decide +kernel) (by decide +kernel)⟩
abbrev Y_X12_onBy : g_Y := (cX12_onBy, 5, some .int, RX12, "onBy")
theorem mt_X12_onBy : g_MT yX12_onBy Y_X12_onBy 2 := ⟨g_T_mem (i := 1524) (w := .code yX12_onBy cX12_onBy 5 (some .int)) (by decide +kernel) (by decide +kernel), g_T_mem (i := 107) (w := .initialized RX12) (by decide +kernel) (by decide +kernel), by decide +kernel, by decide⟩
theorem mv_X12_onBy : Cond.instanceMethod yX12_onBy ∈ g_T ∧ Cond.selects RX12 yX12_onBy yX12_onBy ∈ g_T := ⟨g_T_mem (i := 1523) (w := .instanceMethod yX12_onBy) (by decide +kernel) (by decide +kernel), g_T_mem (i := 62) (w := .selects RX12 yX12_onBy yX12_onBy) (by decide +kernel) (by decide +kernel)⟩
abbrev Y_X12_on : g_Y := (cX12_on, 2, some .int, RX12, "on")
theorem mt_X12_on : g_MT yX12_on Y_X12_on 1 := ⟨g_T_mem (i := 1520) (w := .code yX12_on cX12_on 2 (some .int)) (by decide +kernel) (by decide +kernel), g_T_mem (i := 107) (w := .initialized RX12) (by decide +kernel) (by decide +kernel), by decide +kernel, by decide⟩
theorem mv_X12_on : Cond.instanceMethod yX12_on ∈ g_T ∧ Cond.selects RX12 yX12_on yX12_on ∈ g_T := ⟨g_T_mem (i := 1518) (w := .instanceMethod yX12_on) (by decide +kernel) (by decide +kernel), g_T_mem (i := 1519) (w := .selects RX12 yX12_on yX12_on) (by decide +kernel) (by decide +kernel)⟩
abbrev Y_X12_goes : g_Y := (cX12_goes, 5, some .int, RX12, "goes")
theorem mt_X12_goes : g_MT yX12_goes Y_X12_goes 1 := ⟨g_T_mem (i := 1536) (w := .code yX12_goes cX12_goes 5 (some .int)) (by decide +kernel) (by decide +kernel), g_T_mem (i := 107) (w := .initialized RX12) (by decide +kernel) (by decide +kernel), by decide +kernel, by decide⟩
theorem mv_X12_goes : Cond.instanceMethod yX12_goes ∈ g_T ∧ Cond.selects RX12 yX12_goes yX12_goes ∈ g_T := ⟨g_T_mem (i := 1534) (w := .instanceMethod yX12_goes) (by decide +kernel) (by decide +kernel), g_T_mem (i := 1535) (w := .selects RX12 yX12_goes yX12_goes) (by decide +kernel) (by decide +kernel)⟩
abbrev Y_X12_often : g_Y := (cX12_often, 4, some .int, RX12, "often")
theorem mt_X12_often : g_MT yX12_often Y_X12_often 1 := ⟨g_T_mem (i := 1540) (w := .code yX12_often cX12_often 4 (some .int)) (by decide +kernel) (by decide +kernel), g_T_mem (i := 107) (w := .initialized RX12) (by decide +kernel) (by decide +kernel), by decide +kernel, by decide⟩
theorem mv_X12_often : Cond.instanceMethod yX12_often ∈ g_T ∧ Cond.selects RX12 yX12_often yX12_often ∈ g_T := ⟨g_T_mem (i := 1538) (w := .instanceMethod yX12_often) (by decide +kernel) (by decide +kernel), g_T_mem (i := 1539) (w := .selects RX12 yX12_often yX12_often) (by decide +kernel) (by decide +kernel)⟩
abbrev Y_X12_valueFor : g_Y := (cX12_valueFor, 10, some .int, RX12, "valueFor")
theorem mt_X12_valueFor : g_MT yX12_valueFor Y_X12_valueFor 3 := ⟨g_T_mem (i := 1548) (w := .code yX12_valueFor cX12_valueFor 10 (some .int)) (by decide +kernel) (by decide +kernel), g_T_mem (i := 107) (w := .initialized RX12) (by decide +kernel) (by decide +kernel), by decide +kernel, by decide⟩
theorem mv_X12_valueFor : Cond.instanceMethod yX12_valueFor ∈ g_T ∧ Cond.selects RX12 yX12_valueFor yX12_valueFor ∈ g_T := ⟨g_T_mem (i := 1547) (w := .instanceMethod yX12_valueFor) (by decide +kernel) (by decide +kernel), g_T_mem (i := 65) (w := .selects RX12 yX12_valueFor yX12_valueFor) (by decide +kernel) (by decide +kernel)⟩
abbrev Y_X12_placeFor : g_Y := (cX12_placeFor, 2, some .int, RX12, "placeFor")
theorem mt_X12_placeFor : g_MT yX12_placeFor Y_X12_placeFor 1 := ⟨g_T_mem (i := 1544) (w := .code yX12_placeFor cX12_placeFor 2 (some .int)) (by decide +kernel) (by decide +kernel), g_T_mem (i := 107) (w := .initialized RX12) (by decide +kernel) (by decide +kernel), by decide +kernel, by decide⟩
theorem mv_X12_placeFor : Cond.instanceMethod yX12_placeFor ∈ g_T ∧ Cond.selects RX12 yX12_placeFor yX12_placeFor ∈ g_T := ⟨g_T_mem (i := 1542) (w := .instanceMethod yX12_placeFor) (by decide +kernel) (by decide +kernel), g_T_mem (i := 1543) (w := .selects RX12 yX12_placeFor yX12_placeFor) (by decide +kernel) (by decide +kernel)⟩
abbrev Y_X12_warmFor : g_Y := (cX12_warmFor, 2, some .int, RX12, "warmFor")
theorem mt_X12_warmFor : g_MT yX12_warmFor Y_X12_warmFor 1 := ⟨g_T_mem (i := 1552) (w := .code yX12_warmFor cX12_warmFor 2 (some .int)) (by decide +kernel) (by decide +kernel), g_T_mem (i := 107) (w := .initialized RX12) (by decide +kernel) (by decide +kernel), by decide +kernel, by decide⟩
theorem mv_X12_warmFor : Cond.instanceMethod yX12_warmFor ∈ g_T ∧ Cond.selects RX12 yX12_warmFor yX12_warmFor ∈ g_T := ⟨g_T_mem (i := 1550) (w := .instanceMethod yX12_warmFor) (by decide +kernel) (by decide +kernel), g_T_mem (i := 1551) (w := .selects RX12 yX12_warmFor yX12_warmFor) (by decide +kernel) (by decide +kernel)⟩
abbrev Y_X12_isPair : g_Y := (cX12_isPair, 3, some .boolean, RX12, "isPair")
theorem mt_X12_isPair : g_MT yX12_isPair Y_X12_isPair 2 := ⟨g_T_mem (i := 1560) (w := .code yX12_isPair cX12_isPair 3 (some .boolean)) (by decide +kernel) (by decide +kernel), g_T_mem (i := 107) (w := .initialized RX12) (by decide +kernel) (by decide +kernel), by decide +kernel, by decide⟩
theorem mv_X12_isPair : Cond.instanceMethod yX12_isPair ∈ g_T ∧ Cond.selects RX12 yX12_isPair yX12_isPair ∈ g_T := ⟨g_T_mem (i := 1559) (w := .instanceMethod yX12_isPair) (by decide +kernel) (by decide +kernel), g_T_mem (i := 66) (w := .selects RX12 yX12_isPair yX12_isPair) (by decide +kernel) (by decide +kernel)⟩
abbrev Y_X12_pairs : g_Y := (cX12_pairs, 4, some .int, RX12, "pairs")
theorem mt_X12_pairs : g_MT yX12_pairs Y_X12_pairs 0 := ⟨g_T_mem (i := 1556) (w := .code yX12_pairs cX12_pairs 4 (some .int)) (by decide +kernel) (by decide +kernel), g_T_mem (i := 107) (w := .initialized RX12) (by decide +kernel) (by decide +kernel), by decide +kernel, by decide⟩
theorem mv_X12_pairs : Cond.instanceMethod yX12_pairs ∈ g_T ∧ Cond.selects RX12 yX12_pairs yX12_pairs ∈ g_T := ⟨g_T_mem (i := 1554) (w := .instanceMethod yX12_pairs) (by decide +kernel) (by decide +kernel), g_T_mem (i := 1555) (w := .selects RX12 yX12_pairs yX12_pairs) (by decide +kernel) (by decide +kernel)⟩
abbrev Y_X12_weds : g_Y := (cX12_weds, 6, none, RX12, "weds")
theorem mt_X12_weds : g_MT yX12_weds Y_X12_weds 4 := ⟨g_T_mem (i := 1572) (w := .code yX12_weds cX12_weds 6 (none)) (by decide +kernel) (by decide +kernel), g_T_mem (i := 107) (w := .initialized RX12) (by decide +kernel) (by decide +kernel), by decide +kernel, by decide⟩
theorem mv_X12_weds : Cond.instanceMethod yX12_weds ∈ g_T ∧ Cond.selects RX12 yX12_weds yX12_weds ∈ g_T := ⟨g_T_mem (i := 1571) (w := .instanceMethod yX12_weds) (by decide +kernel) (by decide +kernel), g_T_mem (i := 68) (w := .selects RX12 yX12_weds yX12_weds) (by decide +kernel) (by decide +kernel)⟩
abbrev Y_X12_findsWeddings : g_Y := (cX12_findsWeddings, 1, none, RX12, "findsWeddings")
theorem mt_X12_findsWeddings : g_MT yX12_findsWeddings Y_X12_findsWeddings 0 := ⟨g_T_mem (i := 1568) (w := .code yX12_findsWeddings cX12_findsWeddings 1 (none)) (by decide +kernel) (by decide +kernel), g_T_mem (i := 107) (w := .initialized RX12) (by decide +kernel) (by decide +kernel), by decide +kernel, by decide⟩
theorem mv_X12_findsWeddings : Cond.instanceMethod yX12_findsWeddings ∈ g_T ∧ Cond.selects RX12 yX12_findsWeddings yX12_findsWeddings ∈ g_T := ⟨g_T_mem (i := 1567) (w := .instanceMethod yX12_findsWeddings) (by decide +kernel) (by decide +kernel), g_T_mem (i := 67) (w := .selects RX12 yX12_findsWeddings yX12_findsWeddings) (by decide +kernel) (by decide +kernel)⟩
abbrev Y_X12_weddings : g_Y := (cX12_weddings, 2, some .int, RX12, "weddings")
theorem mt_X12_weddings : g_MT yX12_weddings Y_X12_weddings 1 := ⟨g_T_mem (i := 1564) (w := .code yX12_weddings cX12_weddings 2 (some .int)) (by decide +kernel) (by decide +kernel), g_T_mem (i := 107) (w := .initialized RX12) (by decide +kernel) (by decide +kernel), by decide +kernel, by decide⟩
theorem mv_X12_weddings : Cond.instanceMethod yX12_weddings ∈ g_T ∧ Cond.selects RX12 yX12_weddings yX12_weddings ∈ g_T := ⟨g_T_mem (i := 1562) (w := .instanceMethod yX12_weddings) (by decide +kernel) (by decide +kernel), g_T_mem (i := 1563) (w := .selects RX12 yX12_weddings yX12_weddings) (by decide +kernel) (by decide +kernel)⟩
abbrev Y_X12_mate : g_Y := (cX12_mate, 2, some .int, RX12, "mate")
theorem mt_X12_mate : g_MT yX12_mate Y_X12_mate 1 := ⟨g_T_mem (i := 1576) (w := .code yX12_mate cX12_mate 2 (some .int)) (by decide +kernel) (by decide +kernel), g_T_mem (i := 107) (w := .initialized RX12) (by decide +kernel) (by decide +kernel), by decide +kernel, by decide⟩
theorem mv_X12_mate : Cond.instanceMethod yX12_mate ∈ g_T ∧ Cond.selects RX12 yX12_mate yX12_mate ∈ g_T := ⟨g_T_mem (i := 1574) (w := .instanceMethod yX12_mate) (by decide +kernel) (by decide +kernel), g_T_mem (i := 1575) (w := .selects RX12 yX12_mate yX12_mate) (by decide +kernel) (by decide +kernel)⟩
abbrev Y_X12_size : g_Y := (cX12_size, 3, some .int, RX12, "size")
theorem mt_X12_size : g_MT yX12_size Y_X12_size 1 := ⟨g_T_mem (i := 1583) (w := .code yX12_size cX12_size 3 (some .int)) (by decide +kernel) (by decide +kernel), g_T_mem (i := 107) (w := .initialized RX12) (by decide +kernel) (by decide +kernel), by decide +kernel, by decide⟩
theorem ms_X12_size : Cond.static yX12_size ∈ g_T := g_T_mem (i := 1582) (w := .static yX12_size) (by decide +kernel) (by decide +kernel)
abbrev Y_X12_isStill : g_Y := (cX12_isStill, 4, some .boolean, RX12, "isStill")
theorem mt_X12_isStill : g_MT yX12_isStill Y_X12_isStill 1 := ⟨g_T_mem (i := 1587) (w := .code yX12_isStill cX12_isStill 4 (some .boolean)) (by decide +kernel) (by decide +kernel), g_T_mem (i := 107) (w := .initialized RX12) (by decide +kernel) (by decide +kernel), by decide +kernel, by decide⟩
theorem mv_X12_isStill : Cond.instanceMethod yX12_isStill ∈ g_T ∧ Cond.selects RX12 yX12_isStill yX12_isStill ∈ g_T := ⟨g_T_mem (i := 1586) (w := .instanceMethod yX12_isStill) (by decide +kernel) (by decide +kernel), g_T_mem (i := 69) (w := .selects RX12 yX12_isStill yX12_isStill) (by decide +kernel) (by decide +kernel)⟩
abbrev Y_X12_chains : g_Y := (cX12_chains, 4, some .int, RX12, "chains")
theorem mt_X12_chains : g_MT yX12_chains Y_X12_chains 1 := ⟨g_T_mem (i := 1580) (w := .code yX12_chains cX12_chains 4 (some .int)) (by decide +kernel) (by decide +kernel), g_T_mem (i := 107) (w := .initialized RX12) (by decide +kernel) (by decide +kernel), by decide +kernel, by decide⟩
theorem mv_X12_chains : Cond.instanceMethod yX12_chains ∈ g_T ∧ Cond.selects RX12 yX12_chains yX12_chains ∈ g_T := ⟨g_T_mem (i := 1578) (w := .instanceMethod yX12_chains) (by decide +kernel) (by decide +kernel), g_T_mem (i := 1579) (w := .selects RX12 yX12_chains yX12_chains) (by decide +kernel) (by decide +kernel)⟩
abbrev Y_X12_plans : g_Y := (cX12_plans, 7, none, RX12, "plans")
theorem mt_X12_plans : g_MT yX12_plans Y_X12_plans 4 := ⟨g_T_mem (i := 1602) (w := .code yX12_plans cX12_plans 7 (none)) (by decide +kernel) (by decide +kernel), g_T_mem (i := 107) (w := .initialized RX12) (by decide +kernel) (by decide +kernel), by decide +kernel, by decide⟩
theorem mv_X12_plans : Cond.instanceMethod yX12_plans ∈ g_T ∧ Cond.selects RX12 yX12_plans yX12_plans ∈ g_T := ⟨g_T_mem (i := 1601) (w := .instanceMethod yX12_plans) (by decide +kernel) (by decide +kernel), g_T_mem (i := 71) (w := .selects RX12 yX12_plans yX12_plans) (by decide +kernel) (by decide +kernel)⟩
abbrev Y_X12_findsPlans : g_Y := (cX12_findsPlans, 3, none, RX12, "findsPlans")
theorem mt_X12_findsPlans : g_MT yX12_findsPlans Y_X12_findsPlans 2 := ⟨g_T_mem (i := 1598) (w := .code yX12_findsPlans cX12_findsPlans 3 (none)) (by decide +kernel) (by decide +kernel), g_T_mem (i := 107) (w := .initialized RX12) (by decide +kernel) (by decide +kernel), by decide +kernel, by decide⟩
theorem mv_X12_findsPlans : Cond.instanceMethod yX12_findsPlans ∈ g_T ∧ Cond.selects RX12 yX12_findsPlans yX12_findsPlans ∈ g_T := ⟨g_T_mem (i := 1597) (w := .instanceMethod yX12_findsPlans) (by decide +kernel) (by decide +kernel), g_T_mem (i := 70) (w := .selects RX12 yX12_findsPlans yX12_findsPlans) (by decide +kernel) (by decide +kernel)⟩
abbrev Y_X12_isLong : g_Y := (cX12_isLong, 1, some .boolean, RX12, "isLong")
theorem mt_X12_isLong : g_MT yX12_isLong Y_X12_isLong 1 := ⟨g_T_mem (i := 1594) (w := .code yX12_isLong cX12_isLong 1 (some .boolean)) (by decide +kernel) (by decide +kernel), g_T_mem (i := 107) (w := .initialized RX12) (by decide +kernel) (by decide +kernel), by decide +kernel, by decide⟩
theorem ms_X12_isLong : Cond.static yX12_isLong ∈ g_T := g_T_mem (i := 1593) (w := .static yX12_isLong) (by decide +kernel) (by decide +kernel)
abbrev Y_X12_best : g_Y := (cX12_best, 2, some .int, RX12, "best")
theorem mt_X12_best : g_MT yX12_best Y_X12_best 1 := ⟨g_T_mem (i := 1591) (w := .code yX12_best cX12_best 2 (some .int)) (by decide +kernel) (by decide +kernel), g_T_mem (i := 107) (w := .initialized RX12) (by decide +kernel) (by decide +kernel), by decide +kernel, by decide⟩
theorem mv_X12_best : Cond.instanceMethod yX12_best ∈ g_T ∧ Cond.selects RX12 yX12_best yX12_best ∈ g_T := ⟨g_T_mem (i := 1589) (w := .instanceMethod yX12_best) (by decide +kernel) (by decide +kernel), g_T_mem (i := 1590) (w := .selects RX12 yX12_best yX12_best) (by decide +kernel) (by decide +kernel)⟩
abbrev Y_X12_ith : g_Y := (cX12_ith, 3, some .int, RX12, "ith")
theorem mt_X12_ith : g_MT yX12_ith Y_X12_ith 2 := ⟨g_T_mem (i := 1610) (w := .code yX12_ith cX12_ith 3 (some .int)) (by decide +kernel) (by decide +kernel), g_T_mem (i := 107) (w := .initialized RX12) (by decide +kernel) (by decide +kernel), by decide +kernel, by decide⟩
theorem mv_X12_ith : Cond.instanceMethod yX12_ith ∈ g_T ∧ Cond.selects RX12 yX12_ith yX12_ith ∈ g_T := ⟨g_T_mem (i := 1608) (w := .instanceMethod yX12_ith) (by decide +kernel) (by decide +kernel), g_T_mem (i := 1609) (w := .selects RX12 yX12_ith yX12_ith) (by decide +kernel) (by decide +kernel)⟩
abbrev Y_X12_ways : g_Y := (cX12_ways, 2, some .int, RX12, "ways")
theorem mt_X12_ways : g_MT yX12_ways Y_X12_ways 1 := ⟨g_T_mem (i := 1615) (w := .code yX12_ways cX12_ways 2 (some .int)) (by decide +kernel) (by decide +kernel), g_T_mem (i := 107) (w := .initialized RX12) (by decide +kernel) (by decide +kernel), by decide +kernel, by decide⟩
theorem mv_X12_ways : Cond.instanceMethod yX12_ways ∈ g_T ∧ Cond.selects RX12 yX12_ways yX12_ways ∈ g_T := ⟨g_T_mem (i := 1613) (w := .instanceMethod yX12_ways) (by decide +kernel) (by decide +kernel), g_T_mem (i := 1614) (w := .selects RX12 yX12_ways yX12_ways) (by decide +kernel) (by decide +kernel)⟩
abbrev Y_X12_isSet : g_Y := (cX12_isSet, 2, some .boolean, RX12, "isSet")
theorem mt_X12_isSet : g_MT yX12_isSet Y_X12_isSet 1 := ⟨g_T_mem (i := 1623) (w := .code yX12_isSet cX12_isSet 2 (some .boolean)) (by decide +kernel) (by decide +kernel), g_T_mem (i := 107) (w := .initialized RX12) (by decide +kernel) (by decide +kernel), by decide +kernel, by decide⟩
theorem mv_X12_isSet : Cond.instanceMethod yX12_isSet ∈ g_T ∧ Cond.selects RX12 yX12_isSet yX12_isSet ∈ g_T := ⟨g_T_mem (i := 1622) (w := .instanceMethod yX12_isSet) (by decide +kernel) (by decide +kernel), g_T_mem (i := 73) (w := .selects RX12 yX12_isSet yX12_isSet) (by decide +kernel) (by decide +kernel)⟩
abbrev Y_X12_kept : g_Y := (cX12_kept, 3, some .int, RX12, "kept")
theorem mt_X12_kept : g_MT yX12_kept Y_X12_kept 2 := ⟨g_T_mem (i := 1619) (w := .code yX12_kept cX12_kept 3 (some .int)) (by decide +kernel) (by decide +kernel), g_T_mem (i := 107) (w := .initialized RX12) (by decide +kernel) (by decide +kernel), by decide +kernel, by decide⟩
theorem mv_X12_kept : Cond.instanceMethod yX12_kept ∈ g_T ∧ Cond.selects RX12 yX12_kept yX12_kept ∈ g_T := ⟨g_T_mem (i := 1617) (w := .instanceMethod yX12_kept) (by decide +kernel) (by decide +kernel), g_T_mem (i := 1618) (w := .selects RX12 yX12_kept yX12_kept) (by decide +kernel) (by decide +kernel)⟩
abbrev Y_X12_bars : g_Y := (cX12_bars, 4, some .int, RX12, "bars")
theorem mt_X12_bars : g_MT yX12_bars Y_X12_bars 2 := ⟨g_T_mem (i := 1627) (w := .code yX12_bars cX12_bars 4 (some .int)) (by decide +kernel) (by decide +kernel), g_T_mem (i := 107) (w := .initialized RX12) (by decide +kernel) (by decide +kernel), by decide +kernel, by decide⟩
theorem mv_X12_bars : Cond.instanceMethod yX12_bars ∈ g_T ∧ Cond.selects RX12 yX12_bars yX12_bars ∈ g_T := ⟨g_T_mem (i := 1625) (w := .instanceMethod yX12_bars) (by decide +kernel) (by decide +kernel), g_T_mem (i := 1626) (w := .selects RX12 yX12_bars yX12_bars) (by decide +kernel) (by decide +kernel)⟩
abbrev Y_X12_valueFrom : g_Y := (cX12_valueFrom, 8, some .int, RX12, "valueFrom")
theorem mt_X12_valueFrom : g_MT yX12_valueFrom Y_X12_valueFrom 2 := ⟨g_T_mem (i := 1635) (w := .code yX12_valueFrom cX12_valueFrom 8 (some .int)) (by decide +kernel) (by decide +kernel), g_T_mem (i := 107) (w := .initialized RX12) (by decide +kernel) (by decide +kernel), by decide +kernel, by decide⟩
theorem mv_X12_valueFrom : Cond.instanceMethod yX12_valueFrom ∈ g_T ∧ Cond.selects RX12 yX12_valueFrom yX12_valueFrom ∈ g_T := ⟨g_T_mem (i := 1634) (w := .instanceMethod yX12_valueFrom) (by decide +kernel) (by decide +kernel), g_T_mem (i := 74) (w := .selects RX12 yX12_valueFrom yX12_valueFrom) (by decide +kernel) (by decide +kernel)⟩
abbrev Y_X12_game : g_Y := (cX12_game, 2, some .int, RX12, "game")
theorem mt_X12_game : g_MT yX12_game Y_X12_game 1 := ⟨g_T_mem (i := 1631) (w := .code yX12_game cX12_game 2 (some .int)) (by decide +kernel) (by decide +kernel), g_T_mem (i := 107) (w := .initialized RX12) (by decide +kernel) (by decide +kernel), by decide +kernel, by decide⟩
theorem mv_X12_game : Cond.instanceMethod yX12_game ∈ g_T ∧ Cond.selects RX12 yX12_game yX12_game ∈ g_T := ⟨g_T_mem (i := 1629) (w := .instanceMethod yX12_game) (by decide +kernel) (by decide +kernel), g_T_mem (i := 1630) (w := .selects RX12 yX12_game yX12_game) (by decide +kernel) (by decide +kernel)⟩
abbrev Y_X12_play : g_Y := (cX12_play, 3, some .int, RX12, "play")
theorem mt_X12_play : g_MT yX12_play Y_X12_play 1 := ⟨g_T_mem (i := 1639) (w := .code yX12_play cX12_play 3 (some .int)) (by decide +kernel) (by decide +kernel), g_T_mem (i := 107) (w := .initialized RX12) (by decide +kernel) (by decide +kernel), by decide +kernel, by decide⟩
theorem mv_X12_play : Cond.instanceMethod yX12_play ∈ g_T ∧ Cond.selects RX12 yX12_play yX12_play ∈ g_T := ⟨g_T_mem (i := 1637) (w := .instanceMethod yX12_play) (by decide +kernel) (by decide +kernel), g_T_mem (i := 1638) (w := .selects RX12 yX12_play yX12_play) (by decide +kernel) (by decide +kernel)⟩
abbrev Y_X12_report : g_Y := (cX12_report, 6, some .int, RX12, "report")
theorem mt_X12_report : g_MT yX12_report Y_X12_report 4 := ⟨g_T_mem (i := 1643) (w := .code yX12_report cX12_report 6 (some .int)) (by decide +kernel) (by decide +kernel), g_T_mem (i := 107) (w := .initialized RX12) (by decide +kernel) (by decide +kernel), by decide +kernel, by decide⟩
theorem mv_X12_report : Cond.instanceMethod yX12_report ∈ g_T ∧ Cond.selects RX12 yX12_report yX12_report ∈ g_T := ⟨g_T_mem (i := 1641) (w := .instanceMethod yX12_report) (by decide +kernel) (by decide +kernel), g_T_mem (i := 1642) (w := .selects RX12 yX12_report yX12_report) (by decide +kernel) (by decide +kernel)⟩
abbrev Y_X12_forget : g_Y := (cX12_forget, 1, some .int, RX12, "forget")
theorem mt_X12_forget : g_MT yX12_forget Y_X12_forget 0 := ⟨g_T_mem (i := 1649) (w := .code yX12_forget cX12_forget 1 (some .int)) (by decide +kernel) (by decide +kernel), g_T_mem (i := 107) (w := .initialized RX12) (by decide +kernel) (by decide +kernel), by decide +kernel, by decide⟩
theorem mv_X12_forget : Cond.instanceMethod yX12_forget ∈ g_T ∧ Cond.selects RX12 yX12_forget yX12_forget ∈ g_T := ⟨g_T_mem (i := 1647) (w := .instanceMethod yX12_forget) (by decide +kernel) (by decide +kernel), g_T_mem (i := 1648) (w := .selects RX12 yX12_forget yX12_forget) (by decide +kernel) (by decide +kernel)⟩
abbrev Y_X12_isFit : g_Y := (cX12_isFit, 7, some .boolean, RX12, "isFit")
theorem mt_X12_isFit : g_MT yX12_isFit Y_X12_isFit 3 := ⟨g_T_mem (i := 1661) (w := .code yX12_isFit cX12_isFit 7 (some .boolean)) (by decide +kernel) (by decide +kernel), g_T_mem (i := 107) (w := .initialized RX12) (by decide +kernel) (by decide +kernel), by decide +kernel, by decide⟩
theorem mv_X12_isFit : Cond.instanceMethod yX12_isFit ∈ g_T ∧ Cond.selects RX12 yX12_isFit yX12_isFit ∈ g_T := ⟨g_T_mem (i := 1660) (w := .instanceMethod yX12_isFit) (by decide +kernel) (by decide +kernel), g_T_mem (i := 76) (w := .selects RX12 yX12_isFit yX12_isFit) (by decide +kernel) (by decide +kernel)⟩
abbrev Y_X12_findsFits : g_Y := (cX12_findsFits, 3, none, RX12, "findsFits")
theorem mt_X12_findsFits : g_MT yX12_findsFits Y_X12_findsFits 1 := ⟨g_T_mem (i := 1657) (w := .code yX12_findsFits cX12_findsFits 3 (none)) (by decide +kernel) (by decide +kernel), g_T_mem (i := 107) (w := .initialized RX12) (by decide +kernel) (by decide +kernel), by decide +kernel, by decide⟩
theorem mv_X12_findsFits : Cond.instanceMethod yX12_findsFits ∈ g_T ∧ Cond.selects RX12 yX12_findsFits yX12_findsFits ∈ g_T := ⟨g_T_mem (i := 1656) (w := .instanceMethod yX12_findsFits) (by decide +kernel) (by decide +kernel), g_T_mem (i := 75) (w := .selects RX12 yX12_findsFits yX12_findsFits) (by decide +kernel) (by decide +kernel)⟩
abbrev Y_X12_span : g_Y := (cX12_span, 2, some .int, RX12, "span")
theorem mt_X12_span : g_MT yX12_span Y_X12_span 1 := ⟨g_T_mem (i := 1653) (w := .code yX12_span cX12_span 2 (some .int)) (by decide +kernel) (by decide +kernel), g_T_mem (i := 107) (w := .initialized RX12) (by decide +kernel) (by decide +kernel), by decide +kernel, by decide⟩
theorem mv_X12_span : Cond.instanceMethod yX12_span ∈ g_T ∧ Cond.selects RX12 yX12_span yX12_span ∈ g_T := ⟨g_T_mem (i := 1651) (w := .instanceMethod yX12_span) (by decide +kernel) (by decide +kernel), g_T_mem (i := 1652) (w := .selects RX12 yX12_span yX12_span) (by decide +kernel) (by decide +kernel)⟩
abbrev Y_X12_liar : g_Y := (cX12_liar, 4, some .int, RX12, "liar")
theorem mt_X12_liar : g_MT yX12_liar Y_X12_liar 0 := ⟨g_T_mem (i := 1665) (w := .code yX12_liar cX12_liar 4 (some .int)) (by decide +kernel) (by decide +kernel), g_T_mem (i := 107) (w := .initialized RX12) (by decide +kernel) (by decide +kernel), by decide +kernel, by decide⟩
theorem mv_X12_liar : Cond.instanceMethod yX12_liar ∈ g_T ∧ Cond.selects RX12 yX12_liar yX12_liar ∈ g_T := ⟨g_T_mem (i := 1663) (w := .instanceMethod yX12_liar) (by decide +kernel) (by decide +kernel), g_T_mem (i := 1664) (w := .selects RX12 yX12_liar yX12_liar) (by decide +kernel) (by decide +kernel)⟩
abbrev Y_X12_seed : g_Y := (cX12_seed, 2, some .int, RX12, "seed")
theorem mt_X12_seed : g_MT yX12_seed Y_X12_seed 1 := ⟨g_T_mem (i := 1669) (w := .code yX12_seed cX12_seed 2 (some .int)) (by decide +kernel) (by decide +kernel), g_T_mem (i := 107) (w := .initialized RX12) (by decide +kernel) (by decide +kernel), by decide +kernel, by decide⟩
theorem mv_X12_seed : Cond.instanceMethod yX12_seed ∈ g_T ∧ Cond.selects RX12 yX12_seed yX12_seed ∈ g_T := ⟨g_T_mem (i := 1667) (w := .instanceMethod yX12_seed) (by decide +kernel) (by decide +kernel), g_T_mem (i := 1668) (w := .selects RX12 yX12_seed yX12_seed) (by decide +kernel) (by decide +kernel)⟩
abbrev Y_X12_goesByLot : g_Y := (cX12_goesByLot, 1, some .int, RX12, "goesByLot")
theorem mt_X12_goesByLot : g_MT yX12_goesByLot Y_X12_goesByLot 0 := ⟨g_T_mem (i := 1677) (w := .code yX12_goesByLot cX12_goesByLot 1 (some .int)) (by decide +kernel) (by decide +kernel), g_T_mem (i := 107) (w := .initialized RX12) (by decide +kernel) (by decide +kernel), by decide +kernel, by decide⟩
theorem mv_X12_goesByLot : Cond.instanceMethod yX12_goesByLot ∈ g_T ∧ Cond.selects RX12 yX12_goesByLot yX12_goesByLot ∈ g_T := ⟨g_T_mem (i := 1676) (w := .instanceMethod yX12_goesByLot) (by decide +kernel) (by decide +kernel), g_T_mem (i := 77) (w := .selects RX12 yX12_goesByLot yX12_goesByLot) (by decide +kernel) (by decide +kernel)⟩
abbrev Y_X12_lot : g_Y := (cX12_lot, 1, some .int, RX12, "lot")
theorem mt_X12_lot : g_MT yX12_lot Y_X12_lot 0 := ⟨g_T_mem (i := 1673) (w := .code yX12_lot cX12_lot 1 (some .int)) (by decide +kernel) (by decide +kernel), g_T_mem (i := 107) (w := .initialized RX12) (by decide +kernel) (by decide +kernel), by decide +kernel, by decide⟩
theorem mv_X12_lot : Cond.instanceMethod yX12_lot ∈ g_T ∧ Cond.selects RX12 yX12_lot yX12_lot ∈ g_T := ⟨g_T_mem (i := 1671) (w := .instanceMethod yX12_lot) (by decide +kernel) (by decide +kernel), g_T_mem (i := 1672) (w := .selects RX12 yX12_lot yX12_lot) (by decide +kernel) (by decide +kernel)⟩
abbrev Y_X12_times : g_Y := (cX12_times, 7, some .int, RX12, "times")
theorem mt_X12_times : g_MT yX12_times Y_X12_times 2 := ⟨g_T_mem (i := 1682) (w := .code yX12_times cX12_times 7 (some .int)) (by decide +kernel) (by decide +kernel), g_T_mem (i := 107) (w := .initialized RX12) (by decide +kernel) (by decide +kernel), by decide +kernel, by decide⟩
theorem mv_X12_times : Cond.instanceMethod yX12_times ∈ g_T ∧ Cond.selects RX12 yX12_times yX12_times ∈ g_T := ⟨g_T_mem (i := 1680) (w := .instanceMethod yX12_times) (by decide +kernel) (by decide +kernel), g_T_mem (i := 1681) (w := .selects RX12 yX12_times yX12_times) (by decide +kernel) (by decide +kernel)⟩
abbrev Y_X12_prove : g_Y := (cX12_prove, 3, some .int, RX12, "prove")
theorem mt_X12_prove : g_MT yX12_prove Y_X12_prove 1 := ⟨g_T_mem (i := 1688) (w := .code yX12_prove cX12_prove 3 (some .int)) (by decide +kernel) (by decide +kernel), g_T_mem (i := 107) (w := .initialized RX12) (by decide +kernel) (by decide +kernel), by decide +kernel, by decide⟩
theorem mv_X12_prove : Cond.instanceMethod yX12_prove ∈ g_T ∧ Cond.selects RX12 yX12_prove yX12_prove ∈ g_T := ⟨g_T_mem (i := 1686) (w := .instanceMethod yX12_prove) (by decide +kernel) (by decide +kernel), g_T_mem (i := 1687) (w := .selects RX12 yX12_prove yX12_prove) (by decide +kernel) (by decide +kernel)⟩
abbrev Y_X12_isRow : g_Y := (cX12_isRow, 3, some .boolean, RX12, "isRow")
theorem mt_X12_isRow : g_MT yX12_isRow Y_X12_isRow 2 := ⟨g_T_mem (i := 1696) (w := .code yX12_isRow cX12_isRow 3 (some .boolean)) (by decide +kernel) (by decide +kernel), g_T_mem (i := 107) (w := .initialized RX12) (by decide +kernel) (by decide +kernel), by decide +kernel, by decide⟩
theorem mv_X12_isRow : Cond.instanceMethod yX12_isRow ∈ g_T ∧ Cond.selects RX12 yX12_isRow yX12_isRow ∈ g_T := ⟨g_T_mem (i := 1695) (w := .instanceMethod yX12_isRow) (by decide +kernel) (by decide +kernel), g_T_mem (i := 78) (w := .selects RX12 yX12_isRow yX12_isRow) (by decide +kernel) (by decide +kernel)⟩
abbrev Y_X12_row : g_Y := (cX12_row, 3, some .int, RX12, "row")
theorem mt_X12_row : g_MT yX12_row Y_X12_row 2 := ⟨g_T_mem (i := 1692) (w := .code yX12_row cX12_row 3 (some .int)) (by decide +kernel) (by decide +kernel), g_T_mem (i := 107) (w := .initialized RX12) (by decide +kernel) (by decide +kernel), by decide +kernel, by decide⟩
theorem mv_X12_row : Cond.instanceMethod yX12_row ∈ g_T ∧ Cond.selects RX12 yX12_row yX12_row ∈ g_T := ⟨g_T_mem (i := 1690) (w := .instanceMethod yX12_row) (by decide +kernel) (by decide +kernel), g_T_mem (i := 1691) (w := .selects RX12 yX12_row yX12_row) (by decide +kernel) (by decide +kernel)⟩
abbrev Y_X12_alterRow : g_Y := (cX12_alterRow, 5, some .int, RX12, "alterRow")
theorem mt_X12_alterRow : g_MT yX12_alterRow Y_X12_alterRow 3 := ⟨g_T_mem (i := 1700) (w := .code yX12_alterRow cX12_alterRow 5 (some .int)) (by decide +kernel) (by decide +kernel), g_T_mem (i := 107) (w := .initialized RX12) (by decide +kernel) (by decide +kernel), by decide +kernel, by decide⟩
theorem mv_X12_alterRow : Cond.instanceMethod yX12_alterRow ∈ g_T ∧ Cond.selects RX12 yX12_alterRow yX12_alterRow ∈ g_T := ⟨g_T_mem (i := 1698) (w := .instanceMethod yX12_alterRow) (by decide +kernel) (by decide +kernel), g_T_mem (i := 1699) (w := .selects RX12 yX12_alterRow yX12_alterRow) (by decide +kernel) (by decide +kernel)⟩
abbrev Y_X12_isAct : g_Y := (cX12_isAct, 2, some .boolean, RX12, "isAct")
theorem mt_X12_isAct : g_MT yX12_isAct Y_X12_isAct 1 := ⟨g_T_mem (i := 1708) (w := .code yX12_isAct cX12_isAct 2 (some .boolean)) (by decide +kernel) (by decide +kernel), g_T_mem (i := 107) (w := .initialized RX12) (by decide +kernel) (by decide +kernel), by decide +kernel, by decide⟩
theorem mv_X12_isAct : Cond.instanceMethod yX12_isAct ∈ g_T ∧ Cond.selects RX12 yX12_isAct yX12_isAct ∈ g_T := ⟨g_T_mem (i := 1707) (w := .instanceMethod yX12_isAct) (by decide +kernel) (by decide +kernel), g_T_mem (i := 79) (w := .selects RX12 yX12_isAct yX12_isAct) (by decide +kernel) (by decide +kernel)⟩
abbrev Y_X12_judge : g_Y := (cX12_judge, 3, some .int, RX12, "judge")
theorem mt_X12_judge : g_MT yX12_judge Y_X12_judge 0 := ⟨g_T_mem (i := 1704) (w := .code yX12_judge cX12_judge 3 (some .int)) (by decide +kernel) (by decide +kernel), g_T_mem (i := 107) (w := .initialized RX12) (by decide +kernel) (by decide +kernel), by decide +kernel, by decide⟩
theorem mv_X12_judge : Cond.instanceMethod yX12_judge ∈ g_T ∧ Cond.selects RX12 yX12_judge yX12_judge ∈ g_T := ⟨g_T_mem (i := 1702) (w := .instanceMethod yX12_judge) (by decide +kernel) (by decide +kernel), g_T_mem (i := 1703) (w := .selects RX12 yX12_judge yX12_judge) (by decide +kernel) (by decide +kernel)⟩
abbrev Y_X12_isSheet : g_Y := (cX12_isSheet, 1, some .boolean, RX12, "isSheet")
theorem mt_X12_isSheet : g_MT yX12_isSheet Y_X12_isSheet 1 := ⟨g_T_mem (i := 1715) (w := .code yX12_isSheet cX12_isSheet 1 (some .boolean)) (by decide +kernel) (by decide +kernel), g_T_mem (i := 107) (w := .initialized RX12) (by decide +kernel) (by decide +kernel), by decide +kernel, by decide⟩
theorem ms_X12_isSheet : Cond.static yX12_isSheet ∈ g_T := g_T_mem (i := 1714) (w := .static yX12_isSheet) (by decide +kernel) (by decide +kernel)
abbrev Y_X12_isShelf : g_Y := (cX12_isShelf, 1, some .boolean, RX12, "isShelf")
theorem mt_X12_isShelf : g_MT yX12_isShelf Y_X12_isShelf 1 := ⟨g_T_mem (i := 1747) (w := .code yX12_isShelf cX12_isShelf 1 (some .boolean)) (by decide +kernel) (by decide +kernel), g_T_mem (i := 107) (w := .initialized RX12) (by decide +kernel) (by decide +kernel), by decide +kernel, by decide⟩
theorem ms_X12_isShelf : Cond.static yX12_isShelf ∈ g_T := g_T_mem (i := 1746) (w := .static yX12_isShelf) (by decide +kernel) (by decide +kernel)
abbrev Y_X12_sheet : g_Y := (cX12_sheet, 5, some .int, RX12, "sheet")
theorem mt_X12_sheet : g_MT yX12_sheet Y_X12_sheet 3 := ⟨g_T_mem (i := 1712) (w := .code yX12_sheet cX12_sheet 5 (some .int)) (by decide +kernel) (by decide +kernel), g_T_mem (i := 107) (w := .initialized RX12) (by decide +kernel) (by decide +kernel), by decide +kernel, by decide⟩
theorem mv_X12_sheet : Cond.instanceMethod yX12_sheet ∈ g_T ∧ Cond.selects RX12 yX12_sheet yX12_sheet ∈ g_T := ⟨g_T_mem (i := 1710) (w := .instanceMethod yX12_sheet) (by decide +kernel) (by decide +kernel), g_T_mem (i := 1711) (w := .selects RX12 yX12_sheet yX12_sheet) (by decide +kernel) (by decide +kernel)⟩
abbrev Y_X12_write : g_Y := (cX12_write, 4, some .int, RX12, "write")
theorem mt_X12_write : g_MT yX12_write Y_X12_write 3 := ⟨g_T_mem (i := 1720) (w := .code yX12_write cX12_write 4 (some .int)) (by decide +kernel) (by decide +kernel), g_T_mem (i := 107) (w := .initialized RX12) (by decide +kernel) (by decide +kernel), by decide +kernel, by decide⟩
theorem mv_X12_write : Cond.instanceMethod yX12_write ∈ g_T ∧ Cond.selects RX12 yX12_write yX12_write ∈ g_T := ⟨g_T_mem (i := 1718) (w := .instanceMethod yX12_write) (by decide +kernel) (by decide +kernel), g_T_mem (i := 1719) (w := .selects RX12 yX12_write yX12_write) (by decide +kernel) (by decide +kernel)⟩
abbrev Y_X12_lacks : g_Y := (cX12_lacks, 3, some .int, RX12, "lacks")
theorem mt_X12_lacks : g_MT yX12_lacks Y_X12_lacks 2 := ⟨g_T_mem (i := 1728) (w := .code yX12_lacks cX12_lacks 3 (some .int)) (by decide +kernel) (by decide +kernel), g_T_mem (i := 107) (w := .initialized RX12) (by decide +kernel) (by decide +kernel), by decide +kernel, by decide⟩
theorem mv_X12_lacks : Cond.instanceMethod yX12_lacks ∈ g_T ∧ Cond.selects RX12 yX12_lacks yX12_lacks ∈ g_T := ⟨g_T_mem (i := 1727) (w := .instanceMethod yX12_lacks) (by decide +kernel) (by decide +kernel), g_T_mem (i := 80) (w := .selects RX12 yX12_lacks yX12_lacks) (by decide +kernel) (by decide +kernel)⟩
abbrev Y_X12_item : g_Y := (cX12_item, 4, some .int, RX12, "item")
theorem mt_X12_item : g_MT yX12_item Y_X12_item 3 := ⟨g_T_mem (i := 1724) (w := .code yX12_item cX12_item 4 (some .int)) (by decide +kernel) (by decide +kernel), g_T_mem (i := 107) (w := .initialized RX12) (by decide +kernel) (by decide +kernel), by decide +kernel, by decide⟩
theorem mv_X12_item : Cond.instanceMethod yX12_item ∈ g_T ∧ Cond.selects RX12 yX12_item yX12_item ∈ g_T := ⟨g_T_mem (i := 1722) (w := .instanceMethod yX12_item) (by decide +kernel) (by decide +kernel), g_T_mem (i := 1723) (w := .selects RX12 yX12_item yX12_item) (by decide +kernel) (by decide +kernel)⟩
abbrev Y_X12_goAll : g_Y := (cX12_goAll, 7, some .int, RX12, "goAll")
theorem mt_X12_goAll : g_MT yX12_goAll Y_X12_goAll 3 := ⟨g_T_mem (i := 1732) (w := .code yX12_goAll cX12_goAll 7 (some .int)) (by decide +kernel) (by decide +kernel), g_T_mem (i := 107) (w := .initialized RX12) (by decide +kernel) (by decide +kernel), by decide +kernel, by decide⟩
theorem mv_X12_goAll : Cond.instanceMethod yX12_goAll ∈ g_T ∧ Cond.selects RX12 yX12_goAll yX12_goAll ∈ g_T := ⟨g_T_mem (i := 1730) (w := .instanceMethod yX12_goAll) (by decide +kernel) (by decide +kernel), g_T_mem (i := 1731) (w := .selects RX12 yX12_goAll yX12_goAll) (by decide +kernel) (by decide +kernel)⟩
abbrev Y_X12_sumBy : g_Y := (cX12_sumBy, 7, some .int, RX12, "sumBy")
theorem mt_X12_sumBy : g_MT yX12_sumBy Y_X12_sumBy 3 := ⟨g_T_mem (i := 1740) (w := .code yX12_sumBy cX12_sumBy 7 (some .int)) (by decide +kernel) (by decide +kernel), g_T_mem (i := 107) (w := .initialized RX12) (by decide +kernel) (by decide +kernel), by decide +kernel, by decide⟩
theorem mv_X12_sumBy : Cond.instanceMethod yX12_sumBy ∈ g_T ∧ Cond.selects RX12 yX12_sumBy yX12_sumBy ∈ g_T := ⟨g_T_mem (i := 1739) (w := .instanceMethod yX12_sumBy) (by decide +kernel) (by decide +kernel), g_T_mem (i := 81) (w := .selects RX12 yX12_sumBy yX12_sumBy) (by decide +kernel) (by decide +kernel)⟩
abbrev Y_X12_wouldBe : g_Y := (cX12_wouldBe, 5, some .int, RX12, "wouldBe")
theorem mt_X12_wouldBe : g_MT yX12_wouldBe Y_X12_wouldBe 3 := ⟨g_T_mem (i := 1736) (w := .code yX12_wouldBe cX12_wouldBe 5 (some .int)) (by decide +kernel) (by decide +kernel), g_T_mem (i := 107) (w := .initialized RX12) (by decide +kernel) (by decide +kernel), by decide +kernel, by decide⟩
theorem mv_X12_wouldBe : Cond.instanceMethod yX12_wouldBe ∈ g_T ∧ Cond.selects RX12 yX12_wouldBe yX12_wouldBe ∈ g_T := ⟨g_T_mem (i := 1734) (w := .instanceMethod yX12_wouldBe) (by decide +kernel) (by decide +kernel), g_T_mem (i := 1735) (w := .selects RX12 yX12_wouldBe yX12_wouldBe) (by decide +kernel) (by decide +kernel)⟩
abbrev Y_X12_shelf : g_Y := (cX12_shelf, 5, some .int, RX12, "shelf")
theorem mt_X12_shelf : g_MT yX12_shelf Y_X12_shelf 3 := ⟨g_T_mem (i := 1744) (w := .code yX12_shelf cX12_shelf 5 (some .int)) (by decide +kernel) (by decide +kernel), g_T_mem (i := 107) (w := .initialized RX12) (by decide +kernel) (by decide +kernel), by decide +kernel, by decide⟩
theorem mv_X12_shelf : Cond.instanceMethod yX12_shelf ∈ g_T ∧ Cond.selects RX12 yX12_shelf yX12_shelf ∈ g_T := ⟨g_T_mem (i := 1742) (w := .instanceMethod yX12_shelf) (by decide +kernel) (by decide +kernel), g_T_mem (i := 1743) (w := .selects RX12 yX12_shelf yX12_shelf) (by decide +kernel) (by decide +kernel)⟩
abbrev Y_X12_heldOn : g_Y := (cX12_heldOn, 2, some .int, RX12, "heldOn")
theorem mt_X12_heldOn : g_MT yX12_heldOn Y_X12_heldOn 1 := ⟨g_T_mem (i := 1757) (w := .code yX12_heldOn cX12_heldOn 2 (some .int)) (by decide +kernel) (by decide +kernel), g_T_mem (i := 107) (w := .initialized RX12) (by decide +kernel) (by decide +kernel), by decide +kernel, by decide⟩
theorem mv_X12_heldOn : Cond.instanceMethod yX12_heldOn ∈ g_T ∧ Cond.selects RX12 yX12_heldOn yX12_heldOn ∈ g_T := ⟨g_T_mem (i := 1756) (w := .instanceMethod yX12_heldOn) (by decide +kernel) (by decide +kernel), g_T_mem (i := 82) (w := .selects RX12 yX12_heldOn yX12_heldOn) (by decide +kernel) (by decide +kernel)⟩
abbrev Y_X12_taken : g_Y := (cX12_taken, 4, some .int, RX12, "taken")
theorem mt_X12_taken : g_MT yX12_taken Y_X12_taken 2 := ⟨g_T_mem (i := 1751) (w := .code yX12_taken cX12_taken 4 (some .int)) (by decide +kernel) (by decide +kernel), g_T_mem (i := 107) (w := .initialized RX12) (by decide +kernel) (by decide +kernel), by decide +kernel, by decide⟩
theorem mv_X12_taken : Cond.instanceMethod yX12_taken ∈ g_T ∧ Cond.selects RX12 yX12_taken yX12_taken ∈ g_T := ⟨g_T_mem (i := 1749) (w := .instanceMethod yX12_taken) (by decide +kernel) (by decide +kernel), g_T_mem (i := 1750) (w := .selects RX12 yX12_taken yX12_taken) (by decide +kernel) (by decide +kernel)⟩
abbrev Y_X12_runs : g_Y := (cX12_runs, 2, none, RX12, "runs")
theorem mt_X12_runs : g_MT yX12_runs Y_X12_runs 1 := ⟨g_T_mem (i := 1769) (w := .code yX12_runs cX12_runs 2 (none)) (by decide +kernel) (by decide +kernel), g_T_mem (i := 107) (w := .initialized RX12) (by decide +kernel) (by decide +kernel), by decide +kernel, by decide⟩
theorem mv_X12_runs : Cond.instanceMethod yX12_runs ∈ g_T ∧ Cond.selects RX12 yX12_runs yX12_runs ∈ g_T := ⟨g_T_mem (i := 1768) (w := .instanceMethod yX12_runs) (by decide +kernel) (by decide +kernel), g_T_mem (i := 84) (w := .selects RX12 yX12_runs yX12_runs) (by decide +kernel) (by decide +kernel)⟩
abbrev Y_X12_glowsPlain : g_Y := (cX12_glowsPlain, 2, some .int, RX12, "glowsPlain")
theorem mt_X12_glowsPlain : g_MT yX12_glowsPlain Y_X12_glowsPlain 1 := ⟨g_T_mem (i := 1773) (w := .code yX12_glowsPlain cX12_glowsPlain 2 (some .int)) (by decide +kernel) (by decide +kernel), g_T_mem (i := 107) (w := .initialized RX12) (by decide +kernel) (by decide +kernel), by decide +kernel, by decide⟩
theorem mv_X12_glowsPlain : Cond.instanceMethod yX12_glowsPlain ∈ g_T ∧ Cond.selects RX12 yX12_glowsPlain yX12_glowsPlain ∈ g_T := ⟨g_T_mem (i := 1772) (w := .instanceMethod yX12_glowsPlain) (by decide +kernel) (by decide +kernel), g_T_mem (i := 85) (w := .selects RX12 yX12_glowsPlain yX12_glowsPlain) (by decide +kernel) (by decide +kernel)⟩
abbrev Y_X12_glows : g_Y := (cX12_glows, 2, some .int, RX12, "glows")
theorem mt_X12_glows : g_MT yX12_glows Y_X12_glows 1 := ⟨g_T_mem (i := 1765) (w := .code yX12_glows cX12_glows 2 (some .int)) (by decide +kernel) (by decide +kernel), g_T_mem (i := 107) (w := .initialized RX12) (by decide +kernel) (by decide +kernel), by decide +kernel, by decide⟩
theorem mv_X12_glows : Cond.instanceMethod yX12_glows ∈ g_T ∧ Cond.selects RX12 yX12_glows yX12_glows ∈ g_T := ⟨g_T_mem (i := 1764) (w := .instanceMethod yX12_glows) (by decide +kernel) (by decide +kernel), g_T_mem (i := 83) (w := .selects RX12 yX12_glows yX12_glows) (by decide +kernel) (by decide +kernel)⟩
abbrev Y_X12_longsPlain : g_Y := (cX12_longsPlain, 2, some .int, RX12, "longsPlain")
theorem mt_X12_longsPlain : g_MT yX12_longsPlain Y_X12_longsPlain 1 := ⟨g_T_mem (i := 1781) (w := .code yX12_longsPlain cX12_longsPlain 2 (some .int)) (by decide +kernel) (by decide +kernel), g_T_mem (i := 107) (w := .initialized RX12) (by decide +kernel) (by decide +kernel), by decide +kernel, by decide⟩
theorem mv_X12_longsPlain : Cond.instanceMethod yX12_longsPlain ∈ g_T ∧ Cond.selects RX12 yX12_longsPlain yX12_longsPlain ∈ g_T := ⟨g_T_mem (i := 1780) (w := .instanceMethod yX12_longsPlain) (by decide +kernel) (by decide +kernel), g_T_mem (i := 87) (w := .selects RX12 yX12_longsPlain yX12_longsPlain) (by decide +kernel) (by decide +kernel)⟩
abbrev Y_X12_longsActs : g_Y := (cX12_longsActs, 2, some .int, RX12, "longsActs")
theorem mt_X12_longsActs : g_MT yX12_longsActs Y_X12_longsActs 1 := ⟨g_T_mem (i := 1777) (w := .code yX12_longsActs cX12_longsActs 2 (some .int)) (by decide +kernel) (by decide +kernel), g_T_mem (i := 107) (w := .initialized RX12) (by decide +kernel) (by decide +kernel), by decide +kernel, by decide⟩
theorem mv_X12_longsActs : Cond.instanceMethod yX12_longsActs ∈ g_T ∧ Cond.selects RX12 yX12_longsActs yX12_longsActs ∈ g_T := ⟨g_T_mem (i := 1776) (w := .instanceMethod yX12_longsActs) (by decide +kernel) (by decide +kernel), g_T_mem (i := 86) (w := .selects RX12 yX12_longsActs yX12_longsActs) (by decide +kernel) (by decide +kernel)⟩
abbrev Y_X12_partsPlain : g_Y := (cX12_partsPlain, 2, some .int, RX12, "partsPlain")
theorem mt_X12_partsPlain : g_MT yX12_partsPlain Y_X12_partsPlain 1 := ⟨g_T_mem (i := 1793) (w := .code yX12_partsPlain cX12_partsPlain 2 (some .int)) (by decide +kernel) (by decide +kernel), g_T_mem (i := 107) (w := .initialized RX12) (by decide +kernel) (by decide +kernel), by decide +kernel, by decide⟩
theorem mv_X12_partsPlain : Cond.instanceMethod yX12_partsPlain ∈ g_T ∧ Cond.selects RX12 yX12_partsPlain yX12_partsPlain ∈ g_T := ⟨g_T_mem (i := 1792) (w := .instanceMethod yX12_partsPlain) (by decide +kernel) (by decide +kernel), g_T_mem (i := 90) (w := .selects RX12 yX12_partsPlain yX12_partsPlain) (by decide +kernel) (by decide +kernel)⟩
abbrev Y_X12_partsPortable : g_Y := (cX12_partsPortable, 2, some .int, RX12, "partsPortable")
theorem mt_X12_partsPortable : g_MT yX12_partsPortable Y_X12_partsPortable 1 := ⟨g_T_mem (i := 1789) (w := .code yX12_partsPortable cX12_partsPortable 2 (some .int)) (by decide +kernel) (by decide +kernel), g_T_mem (i := 107) (w := .initialized RX12) (by decide +kernel) (by decide +kernel), by decide +kernel, by decide⟩
theorem mv_X12_partsPortable : Cond.instanceMethod yX12_partsPortable ∈ g_T ∧ Cond.selects RX12 yX12_partsPortable yX12_partsPortable ∈ g_T := ⟨g_T_mem (i := 1788) (w := .instanceMethod yX12_partsPortable) (by decide +kernel) (by decide +kernel), g_T_mem (i := 89) (w := .selects RX12 yX12_partsPortable yX12_partsPortable) (by decide +kernel) (by decide +kernel)⟩
abbrev Y_X12_parts : g_Y := (cX12_parts, 3, some .int, RX12, "parts")
theorem mt_X12_parts : g_MT yX12_parts Y_X12_parts 1 := ⟨g_T_mem (i := 1785) (w := .code yX12_parts cX12_parts 3 (some .int)) (by decide +kernel) (by decide +kernel), g_T_mem (i := 107) (w := .initialized RX12) (by decide +kernel) (by decide +kernel), by decide +kernel, by decide⟩
theorem mv_X12_parts : Cond.instanceMethod yX12_parts ∈ g_T ∧ Cond.selects RX12 yX12_parts yX12_parts ∈ g_T := ⟨g_T_mem (i := 1784) (w := .instanceMethod yX12_parts) (by decide +kernel) (by decide +kernel), g_T_mem (i := 88) (w := .selects RX12 yX12_parts yX12_parts) (by decide +kernel) (by decide +kernel)⟩
abbrev Y_X12_wedsPlain : g_Y := (cX12_wedsPlain, 2, some .int, RX12, "wedsPlain")
theorem mt_X12_wedsPlain : g_MT yX12_wedsPlain Y_X12_wedsPlain 1 := ⟨g_T_mem (i := 1801) (w := .code yX12_wedsPlain cX12_wedsPlain 2 (some .int)) (by decide +kernel) (by decide +kernel), g_T_mem (i := 107) (w := .initialized RX12) (by decide +kernel) (by decide +kernel), by decide +kernel, by decide⟩
theorem mv_X12_wedsPlain : Cond.instanceMethod yX12_wedsPlain ∈ g_T ∧ Cond.selects RX12 yX12_wedsPlain yX12_wedsPlain ∈ g_T := ⟨g_T_mem (i := 1800) (w := .instanceMethod yX12_wedsPlain) (by decide +kernel) (by decide +kernel), g_T_mem (i := 92) (w := .selects RX12 yX12_wedsPlain yX12_wedsPlain) (by decide +kernel) (by decide +kernel)⟩
abbrev Y_X12_wedsActs : g_Y := (cX12_wedsActs, 3, some .int, RX12, "wedsActs")
theorem mt_X12_wedsActs : g_MT yX12_wedsActs Y_X12_wedsActs 1 := ⟨g_T_mem (i := 1797) (w := .code yX12_wedsActs cX12_wedsActs 3 (some .int)) (by decide +kernel) (by decide +kernel), g_T_mem (i := 107) (w := .initialized RX12) (by decide +kernel) (by decide +kernel), by decide +kernel, by decide⟩
theorem mv_X12_wedsActs : Cond.instanceMethod yX12_wedsActs ∈ g_T ∧ Cond.selects RX12 yX12_wedsActs yX12_wedsActs ∈ g_T := ⟨g_T_mem (i := 1796) (w := .instanceMethod yX12_wedsActs) (by decide +kernel) (by decide +kernel), g_T_mem (i := 91) (w := .selects RX12 yX12_wedsActs yX12_wedsActs) (by decide +kernel) (by decide +kernel)⟩
abbrev Y_X12_act : g_Y := (cX12_act, 5, some .int, RX12, "act")
theorem mt_X12_act : g_MT yX12_act Y_X12_act 3 := ⟨g_T_mem (i := 1761) (w := .code yX12_act cX12_act 5 (some .int)) (by decide +kernel) (by decide +kernel), g_T_mem (i := 107) (w := .initialized RX12) (by decide +kernel) (by decide +kernel), by decide +kernel, by decide⟩
theorem mv_X12_act : Cond.instanceMethod yX12_act ∈ g_T ∧ Cond.selects RX12 yX12_act yX12_act ∈ g_T := ⟨g_T_mem (i := 1759) (w := .instanceMethod yX12_act) (by decide +kernel) (by decide +kernel), g_T_mem (i := 1760) (w := .selects RX12 yX12_act yX12_act) (by decide +kernel) (by decide +kernel)⟩
abbrev Y_X12_trace : g_Y := (cX12_trace, 2, some .int, RX12, "trace")
theorem mt_X12_trace : g_MT yX12_trace Y_X12_trace 1 := ⟨g_T_mem (i := 1805) (w := .code yX12_trace cX12_trace 2 (some .int)) (by decide +kernel) (by decide +kernel), g_T_mem (i := 107) (w := .initialized RX12) (by decide +kernel) (by decide +kernel), by decide +kernel, by decide⟩
theorem mv_X12_trace : Cond.instanceMethod yX12_trace ∈ g_T ∧ Cond.selects RX12 yX12_trace yX12_trace ∈ g_T := ⟨g_T_mem (i := 1803) (w := .instanceMethod yX12_trace) (by decide +kernel) (by decide +kernel), g_T_mem (i := 1804) (w := .selects RX12 yX12_trace yX12_trace) (by decide +kernel) (by decide +kernel)⟩
abbrev Y_X12_many : g_Y := (cX12_many, 2, some .int, RX12, "many")
theorem mt_X12_many : g_MT yX12_many Y_X12_many 1 := ⟨g_T_mem (i := 1809) (w := .code yX12_many cX12_many 2 (some .int)) (by decide +kernel) (by decide +kernel), g_T_mem (i := 107) (w := .initialized RX12) (by decide +kernel) (by decide +kernel), by decide +kernel, by decide⟩
theorem mv_X12_many : Cond.instanceMethod yX12_many ∈ g_T ∧ Cond.selects RX12 yX12_many yX12_many ∈ g_T := ⟨g_T_mem (i := 1807) (w := .instanceMethod yX12_many) (by decide +kernel) (by decide +kernel), g_T_mem (i := 1808) (w := .selects RX12 yX12_many yX12_many) (by decide +kernel) (by decide +kernel)⟩
abbrev Y_X12_keep : g_Y := (cX12_keep, 2, some .int, RX12, "keep")
theorem mt_X12_keep : g_MT yX12_keep Y_X12_keep 0 := ⟨g_T_mem (i := 1813) (w := .code yX12_keep cX12_keep 2 (some .int)) (by decide +kernel) (by decide +kernel), g_T_mem (i := 107) (w := .initialized RX12) (by decide +kernel) (by decide +kernel), by decide +kernel, by decide⟩
theorem mv_X12_keep : Cond.instanceMethod yX12_keep ∈ g_T ∧ Cond.selects RX12 yX12_keep yX12_keep ∈ g_T := ⟨g_T_mem (i := 1811) (w := .instanceMethod yX12_keep) (by decide +kernel) (by decide +kernel), g_T_mem (i := 1812) (w := .selects RX12 yX12_keep yX12_keep) (by decide +kernel) (by decide +kernel)⟩
abbrev Y_X12_again : g_Y := (cX12_again, 2, some .int, RX12, "again")
theorem mt_X12_again : g_MT yX12_again Y_X12_again 0 := ⟨g_T_mem (i := 1817) (w := .code yX12_again cX12_again 2 (some .int)) (by decide +kernel) (by decide +kernel), g_T_mem (i := 107) (w := .initialized RX12) (by decide +kernel) (by decide +kernel), by decide +kernel, by decide⟩
theorem mv_X12_again : Cond.instanceMethod yX12_again ∈ g_T ∧ Cond.selects RX12 yX12_again yX12_again ∈ g_T := ⟨g_T_mem (i := 1815) (w := .instanceMethod yX12_again) (by decide +kernel) (by decide +kernel), g_T_mem (i := 1816) (w := .selects RX12 yX12_again yX12_again) (by decide +kernel) (by decide +kernel)⟩
abbrev Y_J6_numberOfTrailingZeros_0f7a4 : g_Y := (cJ6_numberOfTrailingZeros_0f7a4, 2, some .int, RJ6, "numberOfTrailingZeros")
theorem mt_J6_numberOfTrailingZeros_0f7a4 : g_MT yJ6_numberOfTrailingZeros_0f7a4 Y_J6_numberOfTrailingZeros_0f7a4 1 := ⟨g_T_mem (i := 907) (w := .code yJ6_numberOfTrailingZeros_0f7a4 cJ6_numberOfTrailingZeros_0f7a4 2 (some .int)) (by decide +kernel) (by decide +kernel), g_T_mem (i := 112) (w := .initialized RJ6) (by decide +kernel) (by decide +kernel), by decide +kernel, by decide⟩
theorem ms_J6_numberOfTrailingZeros_0f7a4 : Cond.static yJ6_numberOfTrailingZeros_0f7a4 ∈ g_T := g_T_mem (i := 906) (w := .static yJ6_numberOfTrailingZeros_0f7a4) (by decide +kernel) (by decide +kernel)
abbrev Y_J6_bitCount_0f7a4 : g_Y := (cJ6_bitCount_0f7a4, 1, some .int, RJ6, "bitCount")
theorem mt_J6_bitCount_0f7a4 : g_MT yJ6_bitCount_0f7a4 Y_J6_bitCount_0f7a4 1 := ⟨g_T_mem (i := 836) (w := .code yJ6_bitCount_0f7a4 cJ6_bitCount_0f7a4 1 (some .int)) (by decide +kernel) (by decide +kernel), g_T_mem (i := 112) (w := .initialized RJ6) (by decide +kernel) (by decide +kernel), by decide +kernel, by decide⟩
theorem ms_J6_bitCount_0f7a4 : Cond.static yJ6_bitCount_0f7a4 ∈ g_T := g_T_mem (i := 835) (w := .static yJ6_bitCount_0f7a4) (by decide +kernel) (by decide +kernel)
abbrev Y_J9_abs_0f7a4 : g_Y := (cJ9_abs_0f7a4, 1, some .int, RJ9, "abs")
theorem mt_J9_abs_0f7a4 : g_MT yJ9_abs_0f7a4 Y_J9_abs_0f7a4 1 := ⟨g_T_mem (i := 426) (w := .code yJ9_abs_0f7a4 cJ9_abs_0f7a4 1 (some .int)) (by decide +kernel) (by decide +kernel), g_T_mem (i := 103) (w := .initialized RJ9) (by decide +kernel) (by decide +kernel), by decide +kernel, by decide⟩
theorem ms_J9_abs_0f7a4 : Cond.static yJ9_abs_0f7a4 ∈ g_T := g_T_mem (i := 425) (w := .static yJ9_abs_0f7a4) (by decide +kernel) (by decide +kernel)
abbrev Y_J9_max_7cf53 : g_Y := (cJ9_max_7cf53, 2, some .int, RJ9, "max")
theorem mt_J9_max_7cf53 : g_MT yJ9_max_7cf53 Y_J9_max_7cf53 2 := ⟨g_T_mem (i := 179) (w := .code yJ9_max_7cf53 cJ9_max_7cf53 2 (some .int)) (by decide +kernel) (by decide +kernel), g_T_mem (i := 103) (w := .initialized RJ9) (by decide +kernel) (by decide +kernel), by decide +kernel, by decide⟩
theorem ms_J9_max_7cf53 : Cond.static yJ9_max_7cf53 ∈ g_T := g_T_mem (i := 178) (w := .static yJ9_max_7cf53) (by decide +kernel) (by decide +kernel)
abbrev Y_J9_min_7cf53 : g_Y := (cJ9_min_7cf53, 2, some .int, RJ9, "min")
theorem mt_J9_min_7cf53 : g_MT yJ9_min_7cf53 Y_J9_min_7cf53 2 := ⟨g_T_mem (i := 746) (w := .code yJ9_min_7cf53 cJ9_min_7cf53 2 (some .int)) (by decide +kernel) (by decide +kernel), g_T_mem (i := 103) (w := .initialized RJ9) (by decide +kernel) (by decide +kernel), by decide +kernel, by decide⟩
theorem ms_J9_min_7cf53 : Cond.static yJ9_min_7cf53 ∈ g_T := g_T_mem (i := 745) (w := .static yJ9_min_7cf53) (by decide +kernel) (by decide +kernel)
abbrev Y_J0_charAt_5068e : g_Y := (cJ0_charAt_5068e, 2, some .char, RJ0, "charAt")
theorem mt_J0_charAt_5068e : g_MT yJ0_charAt_5068e Y_J0_charAt_5068e 1 := ⟨g_T_mem (i := 620) (w := .code yJ0_charAt_5068e cJ0_charAt_5068e 2 (some .char)) (by decide +kernel) (by decide +kernel), g_T_mem (i := 108) (w := .initialized RJ0) (by decide +kernel) (by decide +kernel), by decide +kernel, by decide⟩
theorem mv_J0_charAt_5068e : Cond.instanceMethod yJ0_charAt_5068e ∈ g_T ∧ Cond.selects RJ0 yJ0_charAt_5068e yJ0_charAt_5068e ∈ g_T := ⟨g_T_mem (i := 618) (w := .instanceMethod yJ0_charAt_5068e) (by decide +kernel) (by decide +kernel), g_T_mem (i := 619) (w := .selects RJ0 yJ0_charAt_5068e yJ0_charAt_5068e) (by decide +kernel) (by decide +kernel)⟩
abbrev Y_J0_isLatin1_aae02 : g_Y := (cJ0_isLatin1_aae02, 1, some .boolean, RJ0, "isLatin1")
theorem mt_J0_isLatin1_aae02 : g_MT yJ0_isLatin1_aae02 Y_J0_isLatin1_aae02 0 := ⟨g_T_mem (i := 624) (w := .code yJ0_isLatin1_aae02 cJ0_isLatin1_aae02 1 (some .boolean)) (by decide +kernel) (by decide +kernel), g_T_mem (i := 108) (w := .initialized RJ0) (by decide +kernel) (by decide +kernel), by decide +kernel, by decide⟩
theorem mv_J0_isLatin1_aae02 : Cond.instanceMethod yJ0_isLatin1_aae02 ∈ g_T ∧ Cond.selects RJ0 yJ0_isLatin1_aae02 yJ0_isLatin1_aae02 ∈ g_T := ⟨g_T_mem (i := 622) (w := .instanceMethod yJ0_isLatin1_aae02) (by decide +kernel) (by decide +kernel), g_T_mem (i := 623) (w := .selects RJ0 yJ0_isLatin1_aae02 yJ0_isLatin1_aae02) (by decide +kernel) (by decide +kernel)⟩
abbrev Y_J0_checkIndex_df160 : g_Y := (cJ0_checkIndex_df160, 2, none, RJ0, "checkIndex")
theorem mt_J0_checkIndex_df160 : g_MT yJ0_checkIndex_df160 Y_J0_checkIndex_df160 2 := ⟨g_T_mem (i := 632) (w := .code yJ0_checkIndex_df160 cJ0_checkIndex_df160 2 (none)) (by decide +kernel) (by decide +kernel), g_T_mem (i := 108) (w := .initialized RJ0) (by decide +kernel) (by decide +kernel), by decide +kernel, by decide⟩
theorem ms_J0_checkIndex_df160 : Cond.static yJ0_checkIndex_df160 ∈ g_T := g_T_mem (i := 631) (w := .static yJ0_checkIndex_df160) (by decide +kernel) (by decide +kernel)
abbrev Y_J1_charAt_3b067 : g_Y := (cJ1_charAt_3b067, 2, some .char, RJ1, "charAt")
theorem mt_J1_charAt_3b067 : g_MT yJ1_charAt_3b067 Y_J1_charAt_3b067 2 := ⟨g_T_mem (i := 629) (w := .code yJ1_charAt_3b067 cJ1_charAt_3b067 2 (some .char)) (by decide +kernel) (by decide +kernel), g_T_mem (i := 109) (w := .initialized RJ1) (by decide +kernel) (by decide +kernel), by decide +kernel, by decide⟩
theorem ms_J1_charAt_3b067 : Cond.static yJ1_charAt_3b067 ∈ g_T := g_T_mem (i := 628) (w := .static yJ1_charAt_3b067) (by decide +kernel) (by decide +kernel)
abbrev Y_J2_getChar_3b067 : g_Y := (cJ2_getChar_3b067, 2, some .char, RJ2, "getChar")
theorem mt_J2_getChar_3b067 : g_MT yJ2_getChar_3b067 Y_J2_getChar_3b067 2 := ⟨g_T_mem (i := 650) (w := .code yJ2_getChar_3b067 cJ2_getChar_3b067 2 (some .char)) (by decide +kernel) (by decide +kernel), g_T_mem (i := 111) (w := .initialized RJ2) (by decide +kernel) (by decide +kernel), by decide +kernel, by decide⟩
theorem ms_J2_getChar_3b067 : Cond.static yJ2_getChar_3b067 ∈ g_T := g_T_mem (i := 649) (w := .static yJ2_getChar_3b067) (by decide +kernel) (by decide +kernel)
abbrev Y_J2_length_9d52b : g_Y := (cJ2_length_9d52b, 1, some .int, RJ2, "length")
theorem mt_J2_length_9d52b : g_MT yJ2_length_9d52b Y_J2_length_9d52b 1 := ⟨g_T_mem (i := 646) (w := .code yJ2_length_9d52b cJ2_length_9d52b 1 (some .int)) (by decide +kernel) (by decide +kernel), g_T_mem (i := 111) (w := .initialized RJ2) (by decide +kernel) (by decide +kernel), by decide +kernel, by decide⟩
theorem ms_J2_length_9d52b : Cond.static yJ2_length_9d52b ∈ g_T := g_T_mem (i := 645) (w := .static yJ2_length_9d52b) (by decide +kernel) (by decide +kernel)
abbrev Y_J2_charAt_3b067 : g_Y := (cJ2_charAt_3b067, 2, some .char, RJ2, "charAt")
theorem mt_J2_charAt_3b067 : g_MT yJ2_charAt_3b067 Y_J2_charAt_3b067 2 := ⟨g_T_mem (i := 640) (w := .code yJ2_charAt_3b067 cJ2_charAt_3b067 2 (some .char)) (by decide +kernel) (by decide +kernel), g_T_mem (i := 111) (w := .initialized RJ2) (by decide +kernel) (by decide +kernel), by decide +kernel, by decide⟩
theorem ms_J2_charAt_3b067 : Cond.static yJ2_charAt_3b067 ∈ g_T := g_T_mem (i := 639) (w := .static yJ2_charAt_3b067) (by decide +kernel) (by decide +kernel)
abbrev Y_J2_checkIndex_2214a : g_Y := (cJ2_checkIndex_2214a, 2, none, RJ2, "checkIndex")
theorem mt_J2_checkIndex_2214a : g_MT yJ2_checkIndex_2214a Y_J2_checkIndex_2214a 2 := ⟨g_T_mem (i := 643) (w := .code yJ2_checkIndex_2214a cJ2_checkIndex_2214a 2 (none)) (by decide +kernel) (by decide +kernel), g_T_mem (i := 111) (w := .initialized RJ2) (by decide +kernel) (by decide +kernel), by decide +kernel, by decide⟩
theorem ms_J2_checkIndex_2214a : Cond.static yJ2_checkIndex_2214a ∈ g_T := g_T_mem (i := 642) (w := .static yJ2_checkIndex_2214a) (by decide +kernel) (by decide +kernel)
abbrev Y_J3_checkIndex_8e157 : g_Y := (cJ3_checkIndex_8e157, 3, some .int, RJ3, "checkIndex")
theorem mt_J3_checkIndex_8e157 : g_MT yJ3_checkIndex_8e157 Y_J3_checkIndex_8e157 3 := ⟨g_T_mem (i := 637) (w := .code yJ3_checkIndex_8e157 cJ3_checkIndex_8e157 3 (some .int)) (by decide +kernel) (by decide +kernel), g_T_mem (i := 110) (w := .initialized RJ3) (by decide +kernel) (by decide +kernel), by decide +kernel, by decide⟩
theorem ms_J3_checkIndex_8e157 : Cond.static yJ3_checkIndex_8e157 ∈ g_T := g_T_mem (i := 636) (w := .static yJ3_checkIndex_8e157) (by decide +kernel) (by decide +kernel)
theorem ml_X11_21 : Cond.methodLink RX11 21 yX2_init ∈ g_T := g_T_mem (i := 275) (w := .methodLink RX11 21 yX2_init) (by decide +kernel) (by decide +kernel)
theorem ml_X11_66 : Cond.methodLink RX11 66 yX11_isKind ∈ g_T := g_T_mem (i := 397) (w := .methodLink RX11 66 yX11_isKind) (by decide +kernel) (by decide +kernel)
theorem ml_X11_70 : Cond.methodLink RX11 70 yX11_isWarm ∈ g_T := g_T_mem (i := 403) (w := .methodLink RX11 70 yX11_isWarm) (by decide +kernel) (by decide +kernel)
theorem ml_X11_73 : Cond.methodLink RX11 73 yX11_isPlace ∈ g_T := g_T_mem (i := 406) (w := .methodLink RX11 73 yX11_isPlace) (by decide +kernel) (by decide +kernel)
theorem ml_X11_76 : Cond.methodLink RX11 76 yX11_isFire ∈ g_T := g_T_mem (i := 409) (w := .methodLink RX11 76 yX11_isFire) (by decide +kernel) (by decide +kernel)
theorem ml_X11_83 : Cond.methodLink RX11 83 yX9_addOven ∈ g_T := g_T_mem (i := 412) (w := .methodLink RX11 83 yX9_addOven) (by decide +kernel) (by decide +kernel)
theorem ml_X11_87 : Cond.methodLink RX11 87 yX11_isOven ∈ g_T := g_T_mem (i := 478) (w := .methodLink RX11 87 yX11_isOven) (by decide +kernel) (by decide +kernel)
theorem ml_X11_105 : Cond.methodLink RX11 105 yX9_awayOf ∈ g_T := g_T_mem (i := 482) (w := .methodLink RX11 105 yX9_awayOf) (by decide +kernel) (by decide +kernel)
theorem ml_X11_112 : Cond.methodLink RX11 112 yX9_bakesOf ∈ g_T := g_T_mem (i := 486) (w := .methodLink RX11 112 yX9_bakesOf) (by decide +kernel) (by decide +kernel)
theorem ml_X11_115 : Cond.methodLink RX11 115 yX9_willOf ∈ g_T := g_T_mem (i := 514) (w := .methodLink RX11 115 yX9_willOf) (by decide +kernel) (by decide +kernel)
theorem ml_X11_118 : Cond.methodLink RX11 118 yX9_freeSet ∈ g_T := g_T_mem (i := 518) (w := .methodLink RX11 118 yX9_freeSet) (by decide +kernel) (by decide +kernel)
theorem ml_X11_122 : Cond.methodLink RX11 122 yX9_choiceOf ∈ g_T := g_T_mem (i := 528) (w := .methodLink RX11 122 yX9_choiceOf) (by decide +kernel) (by decide +kernel)
theorem ml_X11_125 : Cond.methodLink RX11 125 yX9_replace ∈ g_T := g_T_mem (i := 540) (w := .methodLink RX11 125 yX9_replace) (by decide +kernel) (by decide +kernel)
theorem ml_X11_129 : Cond.methodLink RX11 129 yX11_isBetween ∈ g_T := g_T_mem (i := 400) (w := .methodLink RX11 129 yX11_isBetween) (by decide +kernel) (by decide +kernel)
theorem ml_X11_133 : Cond.methodLink RX11 133 yX9_replaceAway ∈ g_T := g_T_mem (i := 544) (w := .methodLink RX11 133 yX9_replaceAway) (by decide +kernel) (by decide +kernel)
theorem ml_X11_136 : Cond.methodLink RX11 136 yX9_wishOf ∈ g_T := g_T_mem (i := 556) (w := .methodLink RX11 136 yX9_wishOf) (by decide +kernel) (by decide +kernel)
theorem ml_X11_145 : Cond.methodLink RX11 145 yX9_isOver ∈ g_T := g_T_mem (i := 569) (w := .methodLink RX11 145 yX9_isOver) (by decide +kernel) (by decide +kernel)
theorem ml_X11_149 : Cond.methodLink RX11 149 yX9_homeSet ∈ g_T := g_T_mem (i := 573) (w := .methodLink RX11 149 yX9_homeSet) (by decide +kernel) (by decide +kernel)
theorem ml_X11_156 : Cond.methodLink RX11 156 yX8_takeByte ∈ g_T := g_T_mem (i := 578) (w := .methodLink RX11 156 yX8_takeByte) (by decide +kernel) (by decide +kernel)
theorem ml_X11_160 : Cond.methodLink RX11 160 yX8_readTape ∈ g_T := g_T_mem (i := 586) (w := .methodLink RX11 160 yX8_readTape) (by decide +kernel) (by decide +kernel)
theorem ml_X11_167 : Cond.methodLink RX11 167 yX9_obey ∈ g_T := g_T_mem (i := 704) (w := .methodLink RX11 167 yX9_obey) (by decide +kernel) (by decide +kernel)
theorem ml_X11_174 : Cond.methodLink RX11 174 yX9_passNight ∈ g_T := g_T_mem (i := 713) (w := .methodLink RX11 174 yX9_passNight) (by decide +kernel) (by decide +kernel)
theorem ml_X11_177 : Cond.methodLink RX11 177 yX2_restWorth ∈ g_T := g_T_mem (i := 736) (w := .methodLink RX11 177 yX2_restWorth) (by decide +kernel) (by decide +kernel)
theorem ml_X11_180 : Cond.methodLink RX11 180 yX2_firstGoing ∈ g_T := g_T_mem (i := 754) (w := .methodLink RX11 180 yX2_firstGoing) (by decide +kernel) (by decide +kernel)
theorem ml_X11_183 : Cond.methodLink RX11 183 yX2_goings ∈ g_T := g_T_mem (i := 767) (w := .methodLink RX11 183 yX2_goings) (by decide +kernel) (by decide +kernel)
theorem ml_X11_186 : Cond.methodLink RX11 186 yX2_bestSetting ∈ g_T := g_T_mem (i := 775) (w := .methodLink RX11 186 yX2_bestSetting) (by decide +kernel) (by decide +kernel)
theorem ml_X11_189 : Cond.methodLink RX11 189 yX9_isPair ∈ g_T := g_T_mem (i := 789) (w := .methodLink RX11 189 yX9_isPair) (by decide +kernel) (by decide +kernel)
theorem ml_X11_193 : Cond.methodLink RX11 193 yX9_everybody ∈ g_T := g_T_mem (i := 797) (w := .methodLink RX11 193 yX9_everybody) (by decide +kernel) (by decide +kernel)
theorem ml_X11_197 : Cond.methodLink RX11 197 yX2_mostWed ∈ g_T := g_T_mem (i := 801) (w := .methodLink RX11 197 yX2_mostWed) (by decide +kernel) (by decide +kernel)
theorem ml_X11_200 : Cond.methodLink RX11 200 yX2_mateOf ∈ g_T := g_T_mem (i := 817) (w := .methodLink RX11 200 yX2_mateOf) (by decide +kernel) (by decide +kernel)
theorem ml_X11_203 : Cond.methodLink RX11 203 yX2_fewestChains ∈ g_T := g_T_mem (i := 830) (w := .methodLink RX11 203 yX2_fewestChains) (by decide +kernel) (by decide +kernel)
theorem ml_X11_206 : Cond.methodLink RX11 206 yJ6_bitCount_0f7a4 ∈ g_T := g_T_mem (i := 845) (w := .methodLink RX11 206 yJ6_bitCount_0f7a4) (by decide +kernel) (by decide +kernel)
theorem ml_X11_211 : Cond.methodLink RX11 211 yX11_isPlan ∈ g_T := g_T_mem (i := 850) (w := .methodLink RX11 211 yX11_isPlan) (by decide +kernel) (by decide +kernel)
theorem ml_X11_214 : Cond.methodLink RX11 214 yX2_mostWorth ∈ g_T := g_T_mem (i := 853) (w := .methodLink RX11 214 yX2_mostWorth) (by decide +kernel) (by decide +kernel)
theorem ml_X11_217 : Cond.methodLink RX11 217 yX9_nightsOf ∈ g_T := g_T_mem (i := 865) (w := .methodLink RX11 217 yX9_nightsOf) (by decide +kernel) (by decide +kernel)
theorem ml_X11_220 : Cond.methodLink RX11 220 yX2_firstBestAct ∈ g_T := g_T_mem (i := 866) (w := .methodLink RX11 220 yX2_firstBestAct) (by decide +kernel) (by decide +kernel)
theorem ml_X11_223 : Cond.methodLink RX11 223 yX11_chainOf ∈ g_T := g_T_mem (i := 870) (w := .methodLink RX11 223 yX11_chainOf) (by decide +kernel) (by decide +kernel)
theorem ml_X11_226 : Cond.methodLink RX11 226 yX9_after ∈ g_T := g_T_mem (i := 871) (w := .methodLink RX11 226 yX9_after) (by decide +kernel) (by decide +kernel)
theorem ml_X11_229 : Cond.methodLink RX11 229 yX2_plansWorth ∈ g_T := g_T_mem (i := 876) (w := .methodLink RX11 229 yX2_plansWorth) (by decide +kernel) (by decide +kernel)
theorem ml_X11_232 : Cond.methodLink RX11 232 yX11_isOvenSet ∈ g_T := g_T_mem (i := 885) (w := .methodLink RX11 232 yX11_isOvenSet) (by decide +kernel) (by decide +kernel)
theorem ml_X11_235 : Cond.methodLink RX11 235 yX2_fewestActs ∈ g_T := g_T_mem (i := 889) (w := .methodLink RX11 235 yX2_fewestActs) (by decide +kernel) (by decide +kernel)
theorem ml_X11_238 : Cond.methodLink RX11 238 yX2_homeBehindSome ∈ g_T := g_T_mem (i := 900) (w := .methodLink RX11 238 yX2_homeBehindSome) (by decide +kernel) (by decide +kernel)
theorem ml_X11_241 : Cond.methodLink RX11 241 yJ6_numberOfTrailingZeros_0f7a4 ∈ g_T := g_T_mem (i := 905) (w := .methodLink RX11 241 yJ6_numberOfTrailingZeros_0f7a4) (by decide +kernel) (by decide +kernel)
theorem ml_X11_244 : Cond.methodLink RX11 244 yX11_isGame ∈ g_T := g_T_mem (i := 913) (w := .methodLink RX11 244 yX11_isGame) (by decide +kernel) (by decide +kernel)
theorem ml_X11_247 : Cond.methodLink RX11 247 yX2_gameValue ∈ g_T := g_T_mem (i := 916) (w := .methodLink RX11 247 yX2_gameValue) (by decide +kernel) (by decide +kernel)
theorem ml_X11_251 : Cond.methodLink RX11 251 yX2_firstMove ∈ g_T := g_T_mem (i := 925) (w := .methodLink RX11 251 yX2_firstMove) (by decide +kernel) (by decide +kernel)
theorem ml_X11_254 : Cond.methodLink RX11 254 yX11_isFelt ∈ g_T := g_T_mem (i := 933) (w := .methodLink RX11 254 yX11_isFelt) (by decide +kernel) (by decide +kernel)
theorem ml_X11_260 : Cond.methodLink RX11 260 yX9_addReport ∈ g_T := g_T_mem (i := 936) (w := .methodLink RX11 260 yX9_addReport) (by decide +kernel) (by decide +kernel)
theorem ml_X11_263 : Cond.methodLink RX11 263 yX9_fitting ∈ g_T := g_T_mem (i := 948) (w := .methodLink RX11 263 yX9_fitting) (by decide +kernel) (by decide +kernel)
theorem ml_X11_266 : Cond.methodLink RX11 266 yX9_firstFitting ∈ g_T := g_T_mem (i := 960) (w := .methodLink RX11 266 yX9_firstFitting) (by decide +kernel) (by decide +kernel)
theorem ml_X11_272 : Cond.methodLink RX11 272 yX11_nextLot ∈ g_T := g_T_mem (i := 976) (w := .methodLink RX11 272 yX11_nextLot) (by decide +kernel) (by decide +kernel)
theorem ml_X11_275 : Cond.methodLink RX11 275 yX9_actByLot ∈ g_T := g_T_mem (i := 980) (w := .methodLink RX11 275 yX9_actByLot) (by decide +kernel) (by decide +kernel)
theorem ml_X11_278 : Cond.methodLink RX11 278 yX9_worthOf ∈ g_T := g_T_mem (i := 988) (w := .methodLink RX11 278 yX9_worthOf) (by decide +kernel) (by decide +kernel)
theorem ml_X11_284 : Cond.methodLink RX11 284 yX11_isRow ∈ g_T := g_T_mem (i := 997) (w := .methodLink RX11 284 yX11_isRow) (by decide +kernel) (by decide +kernel)
theorem ml_X11_287 : Cond.methodLink RX11 287 yX11_isAct ∈ g_T := g_T_mem (i := 1009) (w := .methodLink RX11 287 yX11_isAct) (by decide +kernel) (by decide +kernel)
theorem ml_X11_290 : Cond.methodLink RX11 290 yX11_isSheet ∈ g_T := g_T_mem (i := 1017) (w := .methodLink RX11 290 yX11_isSheet) (by decide +kernel) (by decide +kernel)
theorem ml_X11_293 : Cond.methodLink RX11 293 yX11_isItem ∈ g_T := g_T_mem (i := 1024) (w := .methodLink RX11 293 yX11_isItem) (by decide +kernel) (by decide +kernel)
theorem ml_X11_296 : Cond.methodLink RX11 296 yX11_narrowed ∈ g_T := g_T_mem (i := 1028) (w := .methodLink RX11 296 yX11_narrowed) (by decide +kernel) (by decide +kernel)
theorem ml_X11_299 : Cond.methodLink RX11 299 yX11_refusalAs ∈ g_T := g_T_mem (i := 1035) (w := .methodLink RX11 299 yX11_refusalAs) (by decide +kernel) (by decide +kernel)
theorem ml_X11_302 : Cond.methodLink RX11 302 yX11_isShelf ∈ g_T := g_T_mem (i := 1051) (w := .methodLink RX11 302 yX11_isShelf) (by decide +kernel) (by decide +kernel)
theorem ml_X11_305 : Cond.methodLink RX11 305 yX11_putOn ∈ g_T := g_T_mem (i := 1054) (w := .methodLink RX11 305 yX11_putOn) (by decide +kernel) (by decide +kernel)
theorem ml_X11_308 : Cond.methodLink RX11 308 yX11_heldOn ∈ g_T := g_T_mem (i := 1062) (w := .methodLink RX11 308 yX11_heldOn) (by decide +kernel) (by decide +kernel)
theorem ml_X11_311 : Cond.methodLink RX11 311 yX11_isUnder ∈ g_T := g_T_mem (i := 1066) (w := .methodLink RX11 311 yX11_isUnder) (by decide +kernel) (by decide +kernel)
theorem ml_X11_314 : Cond.methodLink RX11 314 yX0_clear ∈ g_T := g_T_mem (i := 1071) (w := .methodLink RX11 314 yX0_clear) (by decide +kernel) (by decide +kernel)
theorem ml_X11_326 : Cond.methodLink RX11 326 yX3_glows ∈ g_T := g_T_mem (i := 1075) (w := .methodLink RX11 326 yX3_glows) (by decide +kernel) (by decide +kernel)
theorem ml_X11_332 : Cond.methodLink RX11 332 yX3_longs ∈ g_T := g_T_mem (i := 1099) (w := .methodLink RX11 332 yX3_longs) (by decide +kernel) (by decide +kernel)
theorem ml_X11_335 : Cond.methodLink RX11 335 yX3_parts ∈ g_T := g_T_mem (i := 1120) (w := .methodLink RX11 335 yX3_parts) (by decide +kernel) (by decide +kernel)
theorem ml_X11_338 : Cond.methodLink RX11 338 yX3_weds ∈ g_T := g_T_mem (i := 1140) (w := .methodLink RX11 338 yX3_weds) (by decide +kernel) (by decide +kernel)
theorem ml_X11_353 : Cond.methodLink RX11 353 yX9_copyFrom ∈ g_T := g_T_mem (i := 1172) (w := .methodLink RX11 353 yX9_copyFrom) (by decide +kernel) (by decide +kernel)
theorem ml_X1_7 : Cond.methodLink RX1 7 yX6_bakes ∈ g_T := g_T_mem (i := 497) (w := .methodLink RX1 7 yX6_bakes) (by decide +kernel) (by decide +kernel)
theorem ml_X1_11 : Cond.methodLink RX1 11 yX0_began ∈ g_T := g_T_mem (i := 1082) (w := .methodLink RX1 11 yX0_began) (by decide +kernel) (by decide +kernel)
theorem ml_X2_21 : Cond.methodLink RX2 21 yX9_nightsOf ∈ g_T := g_T_mem (i := 740) (w := .methodLink RX2 21 yX9_nightsOf) (by decide +kernel) (by decide +kernel)
theorem ml_X2_28 : Cond.methodLink RX2 28 yX9_after ∈ g_T := g_T_mem (i := 748) (w := .methodLink RX2 28 yX9_after) (by decide +kernel) (by decide +kernel)
theorem ml_X2_32 : Cond.methodLink RX2 32 yX9_worthOf ∈ g_T := g_T_mem (i := 749) (w := .methodLink RX2 32 yX9_worthOf) (by decide +kernel) (by decide +kernel)
theorem ml_X2_36 : Cond.methodLink RX2 36 yX9_awayOf ∈ g_T := g_T_mem (i := 762) (w := .methodLink RX2 36 yX9_awayOf) (by decide +kernel) (by decide +kernel)
theorem ml_X2_42 : Cond.methodLink RX2 42 yX2_went ∈ g_T := g_T_mem (i := 758) (w := .methodLink RX2 42 yX2_went) (by decide +kernel) (by decide +kernel)
theorem ml_X2_46 : Cond.methodLink RX2 46 yX9_settle ∈ g_T := g_T_mem (i := 779) (w := .methodLink RX2 46 yX9_settle) (by decide +kernel) (by decide +kernel)
theorem ml_X2_50 : Cond.methodLink RX2 50 yX2_restWorth ∈ g_T := g_T_mem (i := 780) (w := .methodLink RX2 50 yX2_restWorth) (by decide +kernel) (by decide +kernel)
theorem ml_X2_53 : Cond.methodLink RX2 53 yX9_oneLess ∈ g_T := g_T_mem (i := 844) (w := .methodLink RX2 53 yX9_oneLess) (by decide +kernel) (by decide +kernel)
theorem ml_X2_56 : Cond.methodLink RX2 56 yX9_everybody ∈ g_T := g_T_mem (i := 821) (w := .methodLink RX2 56 yX9_everybody) (by decide +kernel) (by decide +kernel)
theorem ml_X2_60 : Cond.methodLink RX2 60 yJ6_bitCount_0f7a4 ∈ g_T := g_T_mem (i := 834) (w := .methodLink RX2 60 yJ6_bitCount_0f7a4) (by decide +kernel) (by decide +kernel)
theorem ml_X2_65 : Cond.methodLink RX2 65 yX2_nobodyGoes ∈ g_T := g_T_mem (i := 840) (w := .methodLink RX2 65 yX2_nobodyGoes) (by decide +kernel) (by decide +kernel)
theorem ml_X2_69 : Cond.methodLink RX2 69 yX9_wishOf ∈ g_T := g_T_mem (i := 811) (w := .methodLink RX2 69 yX9_wishOf) (by decide +kernel) (by decide +kernel)
theorem ml_X2_75 : Cond.methodLink RX2 75 yX2_mostWed ∈ g_T := g_T_mem (i := 805) (w := .methodLink RX2 75 yX2_mostWed) (by decide +kernel) (by decide +kernel)
theorem ml_X2_78 : Cond.methodLink RX2 78 yX9_isPair ∈ g_T := g_T_mem (i := 806) (w := .methodLink RX2 78 yX9_isPair) (by decide +kernel) (by decide +kernel)
theorem ml_X2_82 : Cond.methodLink RX2 82 yX2_weddingOf ∈ g_T := g_T_mem (i := 807) (w := .methodLink RX2 82 yX2_weddingOf) (by decide +kernel) (by decide +kernel)
theorem ml_X2_85 : Cond.methodLink RX2 85 yJ9_max_7cf53 ∈ g_T := g_T_mem (i := 812) (w := .methodLink RX2 85 yJ9_max_7cf53) (by decide +kernel) (by decide +kernel)
theorem ml_X2_90 : Cond.methodLink RX2 90 yX2_firstMate ∈ g_T := g_T_mem (i := 822) (w := .methodLink RX2 90 yX2_firstMate) (by decide +kernel) (by decide +kernel)
theorem ml_X2_96 : Cond.methodLink RX2 96 yX2_mostWorth ∈ g_T := g_T_mem (i := 860) (w := .methodLink RX2 96 yX2_mostWorth) (by decide +kernel) (by decide +kernel)
theorem ml_X2_99 : Cond.methodLink RX2 99 yX2_plansWorth ∈ g_T := g_T_mem (i := 880) (w := .methodLink RX2 99 yX2_plansWorth) (by decide +kernel) (by decide +kernel)
theorem ml_X2_103 : Cond.methodLink RX2 103 yX9_homeSet ∈ g_T := g_T_mem (i := 893) (w := .methodLink RX2 103 yX9_homeSet) (by decide +kernel) (by decide +kernel)
theorem ml_X2_106 : Cond.methodLink RX2 106 yX2_fewestActs ∈ g_T := g_T_mem (i := 894) (w := .methodLink RX2 106 yX2_fewestActs) (by decide +kernel) (by decide +kernel)
theorem ml_X2_109 : Cond.methodLink RX2 109 yJ9_min_7cf53 ∈ g_T := g_T_mem (i := 895) (w := .methodLink RX2 109 yJ9_min_7cf53) (by decide +kernel) (by decide +kernel)
theorem ml_X2_112 : Cond.methodLink RX2 112 yX2_homeBehindSome ∈ g_T := g_T_mem (i := 904) (w := .methodLink RX2 112 yX2_homeBehindSome) (by decide +kernel) (by decide +kernel)
theorem ml_X2_115 : Cond.methodLink RX2 115 yX2_gameValue ∈ g_T := g_T_mem (i := 920) (w := .methodLink RX2 115 yX2_gameValue) (by decide +kernel) (by decide +kernel)
theorem ml_X3_7 : Cond.methodLink RX3 7 yX0_began ∈ g_T := g_T_mem (i := 1098) (w := .methodLink RX3 7 yX0_began) (by decide +kernel) (by decide +kernel)
theorem ml_X3_17 : Cond.methodLink RX3 17 yX3_glows ∈ g_T := g_T_mem (i := 1119) (w := .methodLink RX3 17 yX3_glows) (by decide +kernel) (by decide +kernel)
theorem ml_X3_30 : Cond.methodLink RX3 30 yX3_longs ∈ g_T := g_T_mem (i := 1159) (w := .methodLink RX3 30 yX3_longs) (by decide +kernel) (by decide +kernel)
theorem ml_X4_7 : Cond.methodLink RX4 7 yX0_began ∈ g_T := g_T_mem (i := 1128) (w := .methodLink RX4 7 yX0_began) (by decide +kernel) (by decide +kernel)
theorem ml_X4_13 : Cond.methodLink RX4 13 yX3_parts ∈ g_T := g_T_mem (i := 1129) (w := .methodLink RX4 13 yX3_parts) (by decide +kernel) (by decide +kernel)
theorem ml_X5_7 : Cond.methodLink RX5 7 yX4_yearns ∈ g_T := g_T_mem (i := 440) (w := .methodLink RX5 7 yX4_yearns) (by decide +kernel) (by decide +kernel)
theorem ml_X5_15 : Cond.methodLink RX5 15 yX0_began ∈ g_T := g_T_mem (i := 1112) (w := .methodLink RX5 15 yX0_began) (by decide +kernel) (by decide +kernel)
theorem ml_X5_25 : Cond.methodLink RX5 25 yX4_parts ∈ g_T := g_T_mem (i := 1133) (w := .methodLink RX5 25 yX4_parts) (by decide +kernel) (by decide +kernel)
theorem ml_X6_7 : Cond.methodLink RX6 7 yX3_yearns ∈ g_T := g_T_mem (i := 444) (w := .methodLink RX6 7 yX3_yearns) (by decide +kernel) (by decide +kernel)
theorem ml_X6_11 : Cond.methodLink RX6 11 yX3_bakes ∈ g_T := g_T_mem (i := 500) (w := .methodLink RX6 11 yX3_bakes) (by decide +kernel) (by decide +kernel)
theorem ml_X6_15 : Cond.methodLink RX6 15 yX0_began ∈ g_T := g_T_mem (i := 1106) (w := .methodLink RX6 15 yX0_began) (by decide +kernel) (by decide +kernel)
theorem ml_X6_21 : Cond.methodLink RX6 21 yX3_longs ∈ g_T := g_T_mem (i := 1107) (w := .methodLink RX6 21 yX3_longs) (by decide +kernel) (by decide +kernel)
theorem ml_X7_21 : Cond.methodLink RX7 21 yJ9_max_7cf53 ∈ g_T := g_T_mem (i := 177) (w := .methodLink RX7 21 yJ9_max_7cf53) (by decide +kernel) (by decide +kernel)
theorem ml_X7_41 : Cond.methodLink RX7 41 yX7_holds ∈ g_T := g_T_mem (i := 463) (w := .methodLink RX7 41 yX7_holds) (by decide +kernel) (by decide +kernel)
theorem ml_X7_45 : Cond.methodLink RX7 45 yX7_compares ∈ g_T := g_T_mem (i := 467) (w := .methodLink RX7 45 yX7_compares) (by decide +kernel) (by decide +kernel)
theorem ml_X7_48 : Cond.methodLink RX7 48 yX7_valueOf ∈ g_T := g_T_mem (i := 471) (w := .methodLink RX7 48 yX7_valueOf) (by decide +kernel) (by decide +kernel)
theorem ml_X8_28 : Cond.methodLink RX8 28 yX8_splitTape ∈ g_T := g_T_mem (i := 590) (w := .methodLink RX8 28 yX8_splitTape) (by decide +kernel) (by decide +kernel)
theorem ml_X8_39 : Cond.methodLink RX8 39 yX7_init ∈ g_T := g_T_mem (i := 663) (w := .methodLink RX8 39 yX7_init) (by decide +kernel) (by decide +kernel)
theorem ml_X8_42 : Cond.methodLink RX8 42 yX8_readRule ∈ g_T := g_T_mem (i := 664) (w := .methodLink RX8 42 yX8_readRule) (by decide +kernel) (by decide +kernel)
theorem ml_X8_49 : Cond.methodLink RX8 49 yX8_wordEnd ∈ g_T := g_T_mem (i := 594) (w := .methodLink RX8 49 yX8_wordEnd) (by decide +kernel) (by decide +kernel)
theorem ml_X8_53 : Cond.methodLink RX8 53 yX8_codeOf ∈ g_T := g_T_mem (i := 604) (w := .methodLink RX8 53 yX8_codeOf) (by decide +kernel) (by decide +kernel)
theorem ml_X8_57 : Cond.methodLink RX8 57 yX8_numberOf ∈ g_T := g_T_mem (i := 657) (w := .methodLink RX8 57 yX8_numberOf) (by decide +kernel) (by decide +kernel)
theorem ml_X8_60 : Cond.methodLink RX8 60 yJ9_max_7cf53 ∈ g_T := g_T_mem (i := 661) (w := .methodLink RX8 60 yJ9_max_7cf53) (by decide +kernel) (by decide +kernel)
theorem ml_X8_65 : Cond.methodLink RX8 65 yX8_isLetter ∈ g_T := g_T_mem (i := 598) (w := .methodLink RX8 65 yX8_isLetter) (by decide +kernel) (by decide +kernel)
theorem ml_X8_69 : Cond.methodLink RX8 69 yX8_isDigit ∈ g_T := g_T_mem (i := 601) (w := .methodLink RX8 69 yX8_isDigit) (by decide +kernel) (by decide +kernel)
theorem ml_X8_72 : Cond.methodLink RX8 72 yX8_nameCode ∈ g_T := g_T_mem (i := 608) (w := .methodLink RX8 72 yX8_nameCode) (by decide +kernel) (by decide +kernel)
theorem ml_X8_75 : Cond.methodLink RX8 75 yX8_isName ∈ g_T := g_T_mem (i := 612) (w := .methodLink RX8 75 yX8_isName) (by decide +kernel) (by decide +kernel)
theorem ml_X8_81 : Cond.methodLink RX8 81 yJ0_charAt_5068e ∈ g_T := g_T_mem (i := 617) (w := .methodLink RX8 81 yJ0_charAt_5068e) (by decide +kernel) (by decide +kernel)
theorem ml_X8_87 : Cond.methodLink RX8 87 yX8_pass ∈ g_T := g_T_mem (i := 668) (w := .methodLink RX8 87 yX8_pass) (by decide +kernel) (by decide +kernel)
theorem ml_X8_91 : Cond.methodLink RX8 91 yX8_readCondition ∈ g_T := g_T_mem (i := 672) (w := .methodLink RX8 91 yX8_readCondition) (by decide +kernel) (by decide +kernel)
theorem ml_X8_95 : Cond.methodLink RX8 95 yX7_addRule ∈ g_T := g_T_mem (i := 700) (w := .methodLink RX8 95 yX7_addRule) (by decide +kernel) (by decide +kernel)
theorem ml_X8_99 : Cond.methodLink RX8 99 yX8_readAll ∈ g_T := g_T_mem (i := 676) (w := .methodLink RX8 99 yX8_readAll) (by decide +kernel) (by decide +kernel)
theorem ml_X8_102 : Cond.methodLink RX8 102 yX7_addStep ∈ g_T := g_T_mem (i := 696) (w := .methodLink RX8 102 yX7_addStep) (by decide +kernel) (by decide +kernel)
theorem ml_X8_106 : Cond.methodLink RX8 106 yX8_readOne ∈ g_T := g_T_mem (i := 680) (w := .methodLink RX8 106 yX8_readOne) (by decide +kernel) (by decide +kernel)
theorem ml_X8_109 : Cond.methodLink RX8 109 yX8_readBracket ∈ g_T := g_T_mem (i := 684) (w := .methodLink RX8 109 yX8_readBracket) (by decide +kernel) (by decide +kernel)
theorem ml_X8_112 : Cond.methodLink RX8 112 yX8_readSign ∈ g_T := g_T_mem (i := 688) (w := .methodLink RX8 112 yX8_readSign) (by decide +kernel) (by decide +kernel)
theorem ml_X8_115 : Cond.methodLink RX8 115 yX8_valueHere ∈ g_T := g_T_mem (i := 692) (w := .methodLink RX8 115 yX8_valueHere) (by decide +kernel) (by decide +kernel)
theorem ml_X9_63 : Cond.methodLink RX9 63 yX7_init ∈ g_T := g_T_mem (i := 173) (w := .methodLink RX9 63 yX7_init) (by decide +kernel) (by decide +kernel)
theorem ml_X9_98 : Cond.methodLink RX9 98 yX9_settle ∈ g_T := g_T_mem (i := 416) (w := .methodLink RX9 98 yX9_settle) (by decide +kernel) (by decide +kernel)
theorem ml_X9_101 : Cond.methodLink RX9 101 yX9_awayOf ∈ g_T := g_T_mem (i := 526) (w := .methodLink RX9 101 yX9_awayOf) (by decide +kernel) (by decide +kernel)
theorem ml_X9_105 : Cond.methodLink RX9 105 yX9_settleWills ∈ g_T := g_T_mem (i := 450) (w := .methodLink RX9 105 yX9_settleWills) (by decide +kernel) (by decide +kernel)
theorem ml_X9_108 : Cond.methodLink RX9 108 yX9_settleWish ∈ g_T := g_T_mem (i := 420) (w := .methodLink RX9 108 yX9_settleWish) (by decide +kernel) (by decide +kernel)
theorem ml_X9_112 : Cond.methodLink RX9 112 yJ9_abs_0f7a4 ∈ g_T := g_T_mem (i := 424) (w := .methodLink RX9 112 yJ9_abs_0f7a4) (by decide +kernel) (by decide +kernel)
theorem ml_X9_118 : Cond.methodLink RX9 118 yX3_yearns ∈ g_T := g_T_mem (i := 427) (w := .methodLink RX9 118 yX3_yearns) (by decide +kernel) (by decide +kernel)
theorem ml_X9_122 : Cond.methodLink RX9 122 yX7_tellsOf ∈ g_T := g_T_mem (i := 454) (w := .methodLink RX9 122 yX7_tellsOf) (by decide +kernel) (by decide +kernel)
theorem ml_X9_126 : Cond.methodLink RX9 126 yJ9_min_7cf53 ∈ g_T := g_T_mem (i := 744) (w := .methodLink RX9 126 yJ9_min_7cf53) (by decide +kernel) (by decide +kernel)
theorem ml_X9_129 : Cond.methodLink RX9 129 yJ9_max_7cf53 ∈ g_T := g_T_mem (i := 747) (w := .methodLink RX9 129 yJ9_max_7cf53) (by decide +kernel) (by decide +kernel)
theorem ml_X9_132 : Cond.methodLink RX9 132 yX9_wishOf ∈ g_T := g_T_mem (i := 532) (w := .methodLink RX9 132 yX9_wishOf) (by decide +kernel) (by decide +kernel)
theorem ml_X9_135 : Cond.methodLink RX9 135 yX3_bakes ∈ g_T := g_T_mem (i := 490) (w := .methodLink RX9 135 yX3_bakes) (by decide +kernel) (by decide +kernel)
theorem ml_X9_138 : Cond.methodLink RX9 138 yX9_homeSet ∈ g_T := g_T_mem (i := 522) (w := .methodLink RX9 138 yX9_homeSet) (by decide +kernel) (by decide +kernel)
theorem ml_X9_141 : Cond.methodLink RX9 141 yX9_willOf ∈ g_T := g_T_mem (i := 527) (w := .methodLink RX9 141 yX9_willOf) (by decide +kernel) (by decide +kernel)
theorem ml_X9_144 : Cond.methodLink RX9 144 yX9_oneLess ∈ g_T := g_T_mem (i := 721) (w := .methodLink RX9 144 yX9_oneLess) (by decide +kernel) (by decide +kernel)
theorem ml_X9_147 : Cond.methodLink RX9 147 yX9_freeSet ∈ g_T := g_T_mem (i := 725) (w := .methodLink RX9 147 yX9_freeSet) (by decide +kernel) (by decide +kernel)
theorem ml_X9_151 : Cond.methodLink RX9 151 yX9_choiceOf ∈ g_T := g_T_mem (i := 726) (w := .methodLink RX9 151 yX9_choiceOf) (by decide +kernel) (by decide +kernel)
theorem ml_X9_154 : Cond.methodLink RX9 154 yX9_bakesOf ∈ g_T := g_T_mem (i := 731) (w := .methodLink RX9 154 yX9_bakesOf) (by decide +kernel) (by decide +kernel)
theorem ml_X9_157 : Cond.methodLink RX9 157 yX9_after ∈ g_T := g_T_mem (i := 717) (w := .methodLink RX9 157 yX9_after) (by decide +kernel) (by decide +kernel)
theorem ml_X9_160 : Cond.methodLink RX9 160 yX9_worthOf ∈ g_T := g_T_mem (i := 727) (w := .methodLink RX9 160 yX9_worthOf) (by decide +kernel) (by decide +kernel)
theorem ml_X9_163 : Cond.methodLink RX9 163 yX9_isSo ∈ g_T := g_T_mem (i := 956) (w := .methodLink RX9 163 yX9_isSo) (by decide +kernel) (by decide +kernel)
theorem ml_X9_167 : Cond.methodLink RX9 167 yX9_fits ∈ g_T := g_T_mem (i := 952) (w := .methodLink RX9 167 yX9_fits) (by decide +kernel) (by decide +kernel)
theorem ml_X10_7 : Cond.methodLink RX10 7 yX3_yearns ∈ g_T := g_T_mem (i := 448) (w := .methodLink RX10 7 yX3_yearns) (by decide +kernel) (by decide +kernel)
theorem ml_X10_11 : Cond.methodLink RX10 11 yX3_bakes ∈ g_T := g_T_mem (i := 512) (w := .methodLink RX10 11 yX3_bakes) (by decide +kernel) (by decide +kernel)
theorem ml_X10_15 : Cond.methodLink RX10 15 yX0_began ∈ g_T := g_T_mem (i := 1095) (w := .methodLink RX10 15 yX0_began) (by decide +kernel) (by decide +kernel)
theorem ml_X10_21 : Cond.methodLink RX10 21 yX3_glows ∈ g_T := g_T_mem (i := 1096) (w := .methodLink RX10 21 yX3_glows) (by decide +kernel) (by decide +kernel)
theorem ml_L_9 : Cond.methodLink RL 9 yX11_init ∈ g_T := g_T_mem (i := 116) (w := .methodLink RL 9 yX11_init) (by decide +kernel) (by decide +kernel)
theorem ml_L_12 : Cond.methodLink RL 12 yX12_init ∈ g_T := g_T_mem (i := 1185) (w := .methodLink RL 12 yX12_init) (by decide +kernel) (by decide +kernel)
theorem ml_L_13 : Cond.methodLink RL 13 yX11_oven ∈ g_T := g_T_mem (i := 393) (w := .methodLink RL 13 yX11_oven) (by decide +kernel) (by decide +kernel)
theorem ml_L_17 : Cond.methodLink RL 17 yX12_oven ∈ g_T := g_T_mem (i := 1325) (w := .methodLink RL 17 yX12_oven) (by decide +kernel) (by decide +kernel)
theorem ml_L_18 : Cond.methodLink RL 18 yX11_ovenOf ∈ g_T := g_T_mem (i := 474) (w := .methodLink RL 18 yX11_ovenOf) (by decide +kernel) (by decide +kernel)
theorem ml_L_22 : Cond.methodLink RL 22 yX12_ovenOf ∈ g_T := g_T_mem (i := 1335) (w := .methodLink RL 22 yX12_ovenOf) (by decide +kernel) (by decide +kernel)
theorem ml_L_23 : Cond.methodLink RL 23 yX11_change ∈ g_T := g_T_mem (i := 536) (w := .methodLink RL 23 yX11_change) (by decide +kernel) (by decide +kernel)
theorem ml_L_27 : Cond.methodLink RL 27 yX12_change ∈ g_T := g_T_mem (i := 1387) (w := .methodLink RL 27 yX12_change) (by decide +kernel) (by decide +kernel)
theorem ml_L_28 : Cond.methodLink RL 28 yX11_remake ∈ g_T := g_T_mem (i := 548) (w := .methodLink RL 28 yX11_remake) (by decide +kernel) (by decide +kernel)
theorem ml_L_31 : Cond.methodLink RL 31 yX12_remake ∈ g_T := g_T_mem (i := 1396) (w := .methodLink RL 31 yX12_remake) (by decide +kernel) (by decide +kernel)
theorem ml_L_32 : Cond.methodLink RL 32 yX11_longing ∈ g_T := g_T_mem (i := 552) (w := .methodLink RL 32 yX11_longing) (by decide +kernel) (by decide +kernel)
theorem ml_L_35 : Cond.methodLink RL 35 yX12_longing ∈ g_T := g_T_mem (i := 1400) (w := .methodLink RL 35 yX12_longing) (by decide +kernel) (by decide +kernel)
theorem ml_L_36 : Cond.methodLink RL 36 yX11_ends ∈ g_T := g_T_mem (i := 557) (w := .methodLink RL 36 yX11_ends) (by decide +kernel) (by decide +kernel)
theorem ml_L_40 : Cond.methodLink RL 40 yX12_ends ∈ g_T := g_T_mem (i := 1404) (w := .methodLink RL 40 yX12_ends) (by decide +kernel) (by decide +kernel)
theorem ml_L_41 : Cond.methodLink RL 41 yX11_anew ∈ g_T := g_T_mem (i := 561) (w := .methodLink RL 41 yX11_anew) (by decide +kernel) (by decide +kernel)
theorem ml_L_45 : Cond.methodLink RL 45 yX12_anew ∈ g_T := g_T_mem (i := 1409) (w := .methodLink RL 45 yX12_anew) (by decide +kernel) (by decide +kernel)
theorem ml_L_46 : Cond.methodLink RL 46 yX11_state ∈ g_T := g_T_mem (i := 565) (w := .methodLink RL 46 yX11_state) (by decide +kernel) (by decide +kernel)
theorem ml_L_49 : Cond.methodLink RL 49 yX12_state ∈ g_T := g_T_mem (i := 1413) (w := .methodLink RL 49 yX12_state) (by decide +kernel) (by decide +kernel)
theorem ml_L_52 : Cond.methodLink RL 52 yX11_feed ∈ g_T := g_T_mem (i := 574) (w := .methodLink RL 52 yX11_feed) (by decide +kernel) (by decide +kernel)
theorem ml_L_56 : Cond.methodLink RL 56 yX12_feed ∈ g_T := g_T_mem (i := 1425) (w := .methodLink RL 56 yX12_feed) (by decide +kernel) (by decide +kernel)
theorem ml_L_57 : Cond.methodLink RL 57 yX11_rules ∈ g_T := g_T_mem (i := 582) (w := .methodLink RL 57 yX11_rules) (by decide +kernel) (by decide +kernel)
theorem ml_L_60 : Cond.methodLink RL 60 yX12_rules ∈ g_T := g_T_mem (i := 1431) (w := .methodLink RL 60 yX12_rules) (by decide +kernel) (by decide +kernel)
theorem ml_L_61 : Cond.methodLink RL 61 yX11_night ∈ g_T := g_T_mem (i := 709) (w := .methodLink RL 61 yX11_night) (by decide +kernel) (by decide +kernel)
theorem ml_L_64 : Cond.methodLink RL 64 yX12_night ∈ g_T := g_T_mem (i := 1509) (w := .methodLink RL 64 yX12_night) (by decide +kernel) (by decide +kernel)
theorem ml_L_65 : Cond.methodLink RL 65 yX11_on ∈ g_T := g_T_mem (i := 732) (w := .methodLink RL 65 yX11_on) (by decide +kernel) (by decide +kernel)
theorem ml_L_68 : Cond.methodLink RL 68 yX12_on ∈ g_T := g_T_mem (i := 1517) (w := .methodLink RL 68 yX12_on) (by decide +kernel) (by decide +kernel)
theorem ml_L_69 : Cond.methodLink RL 69 yX11_goes ∈ g_T := g_T_mem (i := 750) (w := .methodLink RL 69 yX11_goes) (by decide +kernel) (by decide +kernel)
theorem ml_L_72 : Cond.methodLink RL 72 yX12_goes ∈ g_T := g_T_mem (i := 1533) (w := .methodLink RL 72 yX12_goes) (by decide +kernel) (by decide +kernel)
theorem ml_L_73 : Cond.methodLink RL 73 yX11_often ∈ g_T := g_T_mem (i := 763) (w := .methodLink RL 73 yX11_often) (by decide +kernel) (by decide +kernel)
theorem ml_L_76 : Cond.methodLink RL 76 yX12_often ∈ g_T := g_T_mem (i := 1537) (w := .methodLink RL 76 yX12_often) (by decide +kernel) (by decide +kernel)
theorem ml_L_77 : Cond.methodLink RL 77 yX11_placeFor ∈ g_T := g_T_mem (i := 771) (w := .methodLink RL 77 yX11_placeFor) (by decide +kernel) (by decide +kernel)
theorem ml_L_80 : Cond.methodLink RL 80 yX12_placeFor ∈ g_T := g_T_mem (i := 1541) (w := .methodLink RL 80 yX12_placeFor) (by decide +kernel) (by decide +kernel)
theorem ml_L_81 : Cond.methodLink RL 81 yX11_warmFor ∈ g_T := g_T_mem (i := 781) (w := .methodLink RL 81 yX11_warmFor) (by decide +kernel) (by decide +kernel)
theorem ml_L_84 : Cond.methodLink RL 84 yX12_warmFor ∈ g_T := g_T_mem (i := 1549) (w := .methodLink RL 84 yX12_warmFor) (by decide +kernel) (by decide +kernel)
theorem ml_L_85 : Cond.methodLink RL 85 yX11_pairs ∈ g_T := g_T_mem (i := 785) (w := .methodLink RL 85 yX11_pairs) (by decide +kernel) (by decide +kernel)
theorem ml_L_88 : Cond.methodLink RL 88 yX12_pairs ∈ g_T := g_T_mem (i := 1553) (w := .methodLink RL 88 yX12_pairs) (by decide +kernel) (by decide +kernel)
theorem ml_L_89 : Cond.methodLink RL 89 yX11_weddings ∈ g_T := g_T_mem (i := 793) (w := .methodLink RL 89 yX11_weddings) (by decide +kernel) (by decide +kernel)
theorem ml_L_92 : Cond.methodLink RL 92 yX12_weddings ∈ g_T := g_T_mem (i := 1561) (w := .methodLink RL 92 yX12_weddings) (by decide +kernel) (by decide +kernel)
theorem ml_L_93 : Cond.methodLink RL 93 yX11_mate ∈ g_T := g_T_mem (i := 813) (w := .methodLink RL 93 yX11_mate) (by decide +kernel) (by decide +kernel)
theorem ml_L_96 : Cond.methodLink RL 96 yX12_mate ∈ g_T := g_T_mem (i := 1573) (w := .methodLink RL 96 yX12_mate) (by decide +kernel) (by decide +kernel)
theorem ml_L_97 : Cond.methodLink RL 97 yX11_chains ∈ g_T := g_T_mem (i := 826) (w := .methodLink RL 97 yX11_chains) (by decide +kernel) (by decide +kernel)
theorem ml_L_100 : Cond.methodLink RL 100 yX12_chains ∈ g_T := g_T_mem (i := 1577) (w := .methodLink RL 100 yX12_chains) (by decide +kernel) (by decide +kernel)
theorem ml_L_101 : Cond.methodLink RL 101 yX11_best ∈ g_T := g_T_mem (i := 846) (w := .methodLink RL 101 yX11_best) (by decide +kernel) (by decide +kernel)
theorem ml_L_104 : Cond.methodLink RL 104 yX12_best ∈ g_T := g_T_mem (i := 1588) (w := .methodLink RL 104 yX12_best) (by decide +kernel) (by decide +kernel)
theorem ml_L_105 : Cond.methodLink RL 105 yX11_ith ∈ g_T := g_T_mem (i := 861) (w := .methodLink RL 105 yX11_ith) (by decide +kernel) (by decide +kernel)
theorem ml_L_108 : Cond.methodLink RL 108 yX12_ith ∈ g_T := g_T_mem (i := 1607) (w := .methodLink RL 108 yX12_ith) (by decide +kernel) (by decide +kernel)
theorem ml_L_109 : Cond.methodLink RL 109 yX11_ways ∈ g_T := g_T_mem (i := 872) (w := .methodLink RL 109 yX11_ways) (by decide +kernel) (by decide +kernel)
theorem ml_L_112 : Cond.methodLink RL 112 yX12_ways ∈ g_T := g_T_mem (i := 1612) (w := .methodLink RL 112 yX12_ways) (by decide +kernel) (by decide +kernel)
theorem ml_L_113 : Cond.methodLink RL 113 yX11_kept ∈ g_T := g_T_mem (i := 881) (w := .methodLink RL 113 yX11_kept) (by decide +kernel) (by decide +kernel)
theorem ml_L_116 : Cond.methodLink RL 116 yX12_kept ∈ g_T := g_T_mem (i := 1616) (w := .methodLink RL 116 yX12_kept) (by decide +kernel) (by decide +kernel)
theorem ml_L_117 : Cond.methodLink RL 117 yX11_bars ∈ g_T := g_T_mem (i := 896) (w := .methodLink RL 117 yX11_bars) (by decide +kernel) (by decide +kernel)
theorem ml_L_120 : Cond.methodLink RL 120 yX12_bars ∈ g_T := g_T_mem (i := 1624) (w := .methodLink RL 120 yX12_bars) (by decide +kernel) (by decide +kernel)
theorem ml_L_121 : Cond.methodLink RL 121 yX11_game ∈ g_T := g_T_mem (i := 909) (w := .methodLink RL 121 yX11_game) (by decide +kernel) (by decide +kernel)
theorem ml_L_124 : Cond.methodLink RL 124 yX12_game ∈ g_T := g_T_mem (i := 1628) (w := .methodLink RL 124 yX12_game) (by decide +kernel) (by decide +kernel)
theorem ml_L_125 : Cond.methodLink RL 125 yX11_play ∈ g_T := g_T_mem (i := 921) (w := .methodLink RL 125 yX11_play) (by decide +kernel) (by decide +kernel)
theorem ml_L_128 : Cond.methodLink RL 128 yX12_play ∈ g_T := g_T_mem (i := 1636) (w := .methodLink RL 128 yX12_play) (by decide +kernel) (by decide +kernel)
theorem ml_L_129 : Cond.methodLink RL 129 yX11_report ∈ g_T := g_T_mem (i := 929) (w := .methodLink RL 129 yX11_report) (by decide +kernel) (by decide +kernel)
theorem ml_L_132 : Cond.methodLink RL 132 yX12_report ∈ g_T := g_T_mem (i := 1640) (w := .methodLink RL 132 yX12_report) (by decide +kernel) (by decide +kernel)
theorem ml_L_133 : Cond.methodLink RL 133 yX11_forget ∈ g_T := g_T_mem (i := 940) (w := .methodLink RL 133 yX11_forget) (by decide +kernel) (by decide +kernel)
theorem ml_L_136 : Cond.methodLink RL 136 yX12_forget ∈ g_T := g_T_mem (i := 1646) (w := .methodLink RL 136 yX12_forget) (by decide +kernel) (by decide +kernel)
theorem ml_L_137 : Cond.methodLink RL 137 yX11_span ∈ g_T := g_T_mem (i := 944) (w := .methodLink RL 137 yX11_span) (by decide +kernel) (by decide +kernel)
theorem ml_L_140 : Cond.methodLink RL 140 yX12_span ∈ g_T := g_T_mem (i := 1650) (w := .methodLink RL 140 yX12_span) (by decide +kernel) (by decide +kernel)
theorem ml_L_141 : Cond.methodLink RL 141 yX11_liar ∈ g_T := g_T_mem (i := 964) (w := .methodLink RL 141 yX11_liar) (by decide +kernel) (by decide +kernel)
theorem ml_L_144 : Cond.methodLink RL 144 yX12_liar ∈ g_T := g_T_mem (i := 1662) (w := .methodLink RL 144 yX12_liar) (by decide +kernel) (by decide +kernel)
theorem ml_L_145 : Cond.methodLink RL 145 yX11_seed ∈ g_T := g_T_mem (i := 968) (w := .methodLink RL 145 yX11_seed) (by decide +kernel) (by decide +kernel)
theorem ml_L_148 : Cond.methodLink RL 148 yX12_seed ∈ g_T := g_T_mem (i := 1666) (w := .methodLink RL 148 yX12_seed) (by decide +kernel) (by decide +kernel)
theorem ml_L_149 : Cond.methodLink RL 149 yX11_lot ∈ g_T := g_T_mem (i := 972) (w := .methodLink RL 149 yX11_lot) (by decide +kernel) (by decide +kernel)
theorem ml_L_152 : Cond.methodLink RL 152 yX12_lot ∈ g_T := g_T_mem (i := 1670) (w := .methodLink RL 152 yX12_lot) (by decide +kernel) (by decide +kernel)
theorem ml_L_153 : Cond.methodLink RL 153 yX11_times ∈ g_T := g_T_mem (i := 984) (w := .methodLink RL 153 yX11_times) (by decide +kernel) (by decide +kernel)
theorem ml_L_156 : Cond.methodLink RL 156 yX12_times ∈ g_T := g_T_mem (i := 1679) (w := .methodLink RL 156 yX12_times) (by decide +kernel) (by decide +kernel)
theorem ml_L_157 : Cond.methodLink RL 157 yX11_prove ∈ g_T := g_T_mem (i := 989) (w := .methodLink RL 157 yX11_prove) (by decide +kernel) (by decide +kernel)
theorem ml_L_160 : Cond.methodLink RL 160 yX12_prove ∈ g_T := g_T_mem (i := 1685) (w := .methodLink RL 160 yX12_prove) (by decide +kernel) (by decide +kernel)
theorem ml_L_161 : Cond.methodLink RL 161 yX11_row ∈ g_T := g_T_mem (i := 993) (w := .methodLink RL 161 yX11_row) (by decide +kernel) (by decide +kernel)
theorem ml_L_164 : Cond.methodLink RL 164 yX12_row ∈ g_T := g_T_mem (i := 1689) (w := .methodLink RL 164 yX12_row) (by decide +kernel) (by decide +kernel)
theorem ml_L_165 : Cond.methodLink RL 165 yX11_alterRow ∈ g_T := g_T_mem (i := 1001) (w := .methodLink RL 165 yX11_alterRow) (by decide +kernel) (by decide +kernel)
theorem ml_L_168 : Cond.methodLink RL 168 yX12_alterRow ∈ g_T := g_T_mem (i := 1697) (w := .methodLink RL 168 yX12_alterRow) (by decide +kernel) (by decide +kernel)
theorem ml_L_169 : Cond.methodLink RL 169 yX11_judge ∈ g_T := g_T_mem (i := 1005) (w := .methodLink RL 169 yX11_judge) (by decide +kernel) (by decide +kernel)
theorem ml_L_172 : Cond.methodLink RL 172 yX12_judge ∈ g_T := g_T_mem (i := 1701) (w := .methodLink RL 172 yX12_judge) (by decide +kernel) (by decide +kernel)
theorem ml_L_173 : Cond.methodLink RL 173 yX11_sheet ∈ g_T := g_T_mem (i := 1013) (w := .methodLink RL 173 yX11_sheet) (by decide +kernel) (by decide +kernel)
theorem ml_L_176 : Cond.methodLink RL 176 yX12_sheet ∈ g_T := g_T_mem (i := 1709) (w := .methodLink RL 176 yX12_sheet) (by decide +kernel) (by decide +kernel)
theorem ml_L_177 : Cond.methodLink RL 177 yX11_write ∈ g_T := g_T_mem (i := 1020) (w := .methodLink RL 177 yX11_write) (by decide +kernel) (by decide +kernel)
theorem ml_L_180 : Cond.methodLink RL 180 yX12_write ∈ g_T := g_T_mem (i := 1717) (w := .methodLink RL 180 yX12_write) (by decide +kernel) (by decide +kernel)
theorem ml_L_181 : Cond.methodLink RL 181 yX11_item ∈ g_T := g_T_mem (i := 1031) (w := .methodLink RL 181 yX11_item) (by decide +kernel) (by decide +kernel)
theorem ml_L_184 : Cond.methodLink RL 184 yX12_item ∈ g_T := g_T_mem (i := 1721) (w := .methodLink RL 184 yX12_item) (by decide +kernel) (by decide +kernel)
theorem ml_L_185 : Cond.methodLink RL 185 yX11_goAll ∈ g_T := g_T_mem (i := 1039) (w := .methodLink RL 185 yX11_goAll) (by decide +kernel) (by decide +kernel)
theorem ml_L_188 : Cond.methodLink RL 188 yX12_goAll ∈ g_T := g_T_mem (i := 1729) (w := .methodLink RL 188 yX12_goAll) (by decide +kernel) (by decide +kernel)
theorem ml_L_189 : Cond.methodLink RL 189 yX11_wouldBe ∈ g_T := g_T_mem (i := 1043) (w := .methodLink RL 189 yX11_wouldBe) (by decide +kernel) (by decide +kernel)
theorem ml_L_192 : Cond.methodLink RL 192 yX12_wouldBe ∈ g_T := g_T_mem (i := 1733) (w := .methodLink RL 192 yX12_wouldBe) (by decide +kernel) (by decide +kernel)
theorem ml_L_193 : Cond.methodLink RL 193 yX11_shelf ∈ g_T := g_T_mem (i := 1047) (w := .methodLink RL 193 yX11_shelf) (by decide +kernel) (by decide +kernel)
theorem ml_L_196 : Cond.methodLink RL 196 yX12_shelf ∈ g_T := g_T_mem (i := 1741) (w := .methodLink RL 196 yX12_shelf) (by decide +kernel) (by decide +kernel)
theorem ml_L_197 : Cond.methodLink RL 197 yX11_taken ∈ g_T := g_T_mem (i := 1058) (w := .methodLink RL 197 yX11_taken) (by decide +kernel) (by decide +kernel)
theorem ml_L_200 : Cond.methodLink RL 200 yX12_taken ∈ g_T := g_T_mem (i := 1748) (w := .methodLink RL 200 yX12_taken) (by decide +kernel) (by decide +kernel)
theorem ml_L_201 : Cond.methodLink RL 201 yX11_act ∈ g_T := g_T_mem (i := 1067) (w := .methodLink RL 201 yX11_act) (by decide +kernel) (by decide +kernel)
theorem ml_L_204 : Cond.methodLink RL 204 yX12_act ∈ g_T := g_T_mem (i := 1758) (w := .methodLink RL 204 yX12_act) (by decide +kernel) (by decide +kernel)
theorem ml_L_205 : Cond.methodLink RL 205 yX11_trace ∈ g_T := g_T_mem (i := 1160) (w := .methodLink RL 205 yX11_trace) (by decide +kernel) (by decide +kernel)
theorem ml_L_208 : Cond.methodLink RL 208 yX12_trace ∈ g_T := g_T_mem (i := 1802) (w := .methodLink RL 208 yX12_trace) (by decide +kernel) (by decide +kernel)
theorem ml_L_209 : Cond.methodLink RL 209 yX11_many ∈ g_T := g_T_mem (i := 1164) (w := .methodLink RL 209 yX11_many) (by decide +kernel) (by decide +kernel)
theorem ml_L_212 : Cond.methodLink RL 212 yX12_many ∈ g_T := g_T_mem (i := 1806) (w := .methodLink RL 212 yX12_many) (by decide +kernel) (by decide +kernel)
theorem ml_L_213 : Cond.methodLink RL 213 yX11_keep ∈ g_T := g_T_mem (i := 1168) (w := .methodLink RL 213 yX11_keep) (by decide +kernel) (by decide +kernel)
theorem ml_L_216 : Cond.methodLink RL 216 yX12_keep ∈ g_T := g_T_mem (i := 1810) (w := .methodLink RL 216 yX12_keep) (by decide +kernel) (by decide +kernel)
theorem ml_L_217 : Cond.methodLink RL 217 yX11_again ∈ g_T := g_T_mem (i := 1179) (w := .methodLink RL 217 yX11_again) (by decide +kernel) (by decide +kernel)
theorem ml_L_220 : Cond.methodLink RL 220 yX12_again ∈ g_T := g_T_mem (i := 1814) (w := .methodLink RL 220 yX12_again) (by decide +kernel) (by decide +kernel)
theorem ml_X12_66 : Cond.methodLink RX12 66 yX12_isIn ∈ g_T := g_T_mem (i := 1330) (w := .methodLink RX12 66 yX12_isIn) (by decide +kernel) (by decide +kernel)
theorem ml_X12_74 : Cond.methodLink RX12 74 yX12_apart ∈ g_T := g_T_mem (i := 1384) (w := .methodLink RX12 74 yX12_apart) (by decide +kernel) (by decide +kernel)
theorem ml_X12_78 : Cond.methodLink RX12 78 yX12_its ∈ g_T := g_T_mem (i := 1352) (w := .methodLink RX12 78 yX12_its) (by decide +kernel) (by decide +kernel)
theorem ml_X12_81 : Cond.methodLink RX12 81 yX12_longsBy ∈ g_T := g_T_mem (i := 1381) (w := .methodLink RX12 81 yX12_longsBy) (by decide +kernel) (by decide +kernel)
theorem ml_X12_85 : Cond.methodLink RX12 85 yX12_valueOf ∈ g_T := g_T_mem (i := 1363) (w := .methodLink RX12 85 yX12_valueOf) (by decide +kernel) (by decide +kernel)
theorem ml_X12_92 : Cond.methodLink RX12 92 yX12_isUnder ∈ g_T := g_T_mem (i := 1356) (w := .methodLink RX12 92 yX12_isUnder) (by decide +kernel) (by decide +kernel)
theorem ml_X12_96 : Cond.methodLink RX12 96 yX12_holds ∈ g_T := g_T_mem (i := 1359) (w := .methodLink RX12 96 yX12_holds) (by decide +kernel) (by decide +kernel)
theorem ml_X12_103 : Cond.methodLink RX12 103 yX12_will ∈ g_T := g_T_mem (i := 1348) (w := .methodLink RX12 103 yX12_will) (by decide +kernel) (by decide +kernel)
theorem ml_X12_107 : Cond.methodLink RX12 107 yX12_longs ∈ g_T := g_T_mem (i := 1377) (w := .methodLink RX12 107 yX12_longs) (by decide +kernel) (by decide +kernel)
theorem ml_X12_110 : Cond.methodLink RX12 110 yX12_isOven ∈ g_T := g_T_mem (i := 1339) (w := .methodLink RX12 110 yX12_isOven) (by decide +kernel) (by decide +kernel)
theorem ml_X12_116 : Cond.methodLink RX12 116 yX12_looks ∈ g_T := g_T_mem (i := 1344) (w := .methodLink RX12 116 yX12_looks) (by decide +kernel) (by decide +kernel)
theorem ml_X12_120 : Cond.methodLink RX12 120 yX12_bakes ∈ g_T := g_T_mem (i := 1369) (w := .methodLink RX12 120 yX12_bakes) (by decide +kernel) (by decide +kernel)
theorem ml_X12_123 : Cond.methodLink RX12 123 yX12_choice ∈ g_T := g_T_mem (i := 1373) (w := .methodLink RX12 123 yX12_choice) (by decide +kernel) (by decide +kernel)
theorem ml_X12_128 : Cond.methodLink RX12 128 yX12_becomes ∈ g_T := g_T_mem (i := 1392) (w := .methodLink RX12 128 yX12_becomes) (by decide +kernel) (by decide +kernel)
theorem ml_X12_133 : Cond.methodLink RX12 133 yX12_isOver ∈ g_T := g_T_mem (i := 1417) (w := .methodLink RX12 133 yX12_isOver) (by decide +kernel) (by decide +kernel)
theorem ml_X12_137 : Cond.methodLink RX12 137 yX12_home ∈ g_T := g_T_mem (i := 1421) (w := .methodLink RX12 137 yX12_home) (by decide +kernel) (by decide +kernel)
theorem ml_X12_154 : Cond.methodLink RX12 154 yX12_byteAt ∈ g_T := g_T_mem (i := 1439) (w := .methodLink RX12 154 yX12_byteAt) (by decide +kernel) (by decide +kernel)
theorem ml_X12_157 : Cond.methodLink RX12 157 yX12_isAlpha ∈ g_T := g_T_mem (i := 1443) (w := .methodLink RX12 157 yX12_isAlpha) (by decide +kernel) (by decide +kernel)
theorem ml_X12_160 : Cond.methodLink RX12 160 yX12_isDigit ∈ g_T := g_T_mem (i := 1446) (w := .methodLink RX12 160 yX12_isDigit) (by decide +kernel) (by decide +kernel)
theorem ml_X12_173 : Cond.methodLink RX12 173 yX12_nextToken ∈ g_T := g_T_mem (i := 1435) (w := .methodLink RX12 173 yX12_nextToken) (by decide +kernel) (by decide +kernel)
theorem ml_X12_176 : Cond.methodLink RX12 176 yX12_isName ∈ g_T := g_T_mem (i := 1457) (w := .methodLink RX12 176 yX12_isName) (by decide +kernel) (by decide +kernel)
theorem ml_X12_180 : Cond.methodLink RX12 180 yX12_isSame ∈ g_T := g_T_mem (i := 1461) (w := .methodLink RX12 180 yX12_isSame) (by decide +kernel) (by decide +kernel)
theorem ml_X12_184 : Cond.methodLink RX12 184 yX12_factHere ∈ g_T := g_T_mem (i := 1497) (w := .methodLink RX12 184 yX12_factHere) (by decide +kernel) (by decide +kernel)
theorem ml_X12_187 : Cond.methodLink RX12 187 yX12_needs ∈ g_T := g_T_mem (i := 1465) (w := .methodLink RX12 187 yX12_needs) (by decide +kernel) (by decide +kernel)
theorem ml_X12_191 : Cond.methodLink RX12 191 yX12_valueHere ∈ g_T := g_T_mem (i := 1493) (w := .methodLink RX12 191 yX12_valueHere) (by decide +kernel) (by decide +kernel)
theorem ml_X12_194 : Cond.methodLink RX12 194 yX12_isByte ∈ g_T := g_T_mem (i := 1485) (w := .methodLink RX12 194 yX12_isByte) (by decide +kernel) (by decide +kernel)
theorem ml_X12_197 : Cond.methodLink RX12 197 yX12_steps ∈ g_T := g_T_mem (i := 1501) (w := .methodLink RX12 197 yX12_steps) (by decide +kernel) (by decide +kernel)
theorem ml_X12_204 : Cond.methodLink RX12 204 yX12_condHere ∈ g_T := g_T_mem (i := 1473) (w := .methodLink RX12 204 yX12_condHere) (by decide +kernel) (by decide +kernel)
theorem ml_X12_207 : Cond.methodLink RX12 207 yX12_comparesHere ∈ g_T := g_T_mem (i := 1489) (w := .methodLink RX12 207 yX12_comparesHere) (by decide +kernel) (by decide +kernel)
theorem ml_X12_210 : Cond.methodLink RX12 210 yX12_oneHere ∈ g_T := g_T_mem (i := 1481) (w := .methodLink RX12 210 yX12_oneHere) (by decide +kernel) (by decide +kernel)
theorem ml_X12_213 : Cond.methodLink RX12 213 yX12_allHere ∈ g_T := g_T_mem (i := 1477) (w := .methodLink RX12 213 yX12_allHere) (by decide +kernel) (by decide +kernel)
theorem ml_X12_216 : Cond.methodLink RX12 216 yX12_isTwo ∈ g_T := g_T_mem (i := 1469) (w := .methodLink RX12 216 yX12_isTwo) (by decide +kernel) (by decide +kernel)
theorem ml_X12_219 : Cond.methodLink RX12 219 yX12_kindHere ∈ g_T := g_T_mem (i := 1453) (w := .methodLink RX12 219 yX12_kindHere) (by decide +kernel) (by decide +kernel)
theorem ml_X12_222 : Cond.methodLink RX12 222 yX12_doHere ∈ g_T := g_T_mem (i := 1505) (w := .methodLink RX12 222 yX12_doHere) (by decide +kernel) (by decide +kernel)
theorem ml_X12_225 : Cond.methodLink RX12 225 yX12_ruleHere ∈ g_T := g_T_mem (i := 1449) (w := .methodLink RX12 225 yX12_ruleHere) (by decide +kernel) (by decide +kernel)
theorem ml_X12_231 : Cond.methodLink RX12 231 yX12_goesBy ∈ g_T := g_T_mem (i := 1513) (w := .methodLink RX12 231 yX12_goesBy) (by decide +kernel) (by decide +kernel)
theorem ml_X12_234 : Cond.methodLink RX12 234 yX12_laysAside ∈ g_T := g_T_mem (i := 1525) (w := .methodLink RX12 234 yX12_laysAside) (by decide +kernel) (by decide +kernel)
theorem ml_X12_237 : Cond.methodLink RX12 237 yX12_laysBack ∈ g_T := g_T_mem (i := 1529) (w := .methodLink RX12 237 yX12_laysBack) (by decide +kernel) (by decide +kernel)
theorem ml_X12_240 : Cond.methodLink RX12 240 yX12_onBy ∈ g_T := g_T_mem (i := 1521) (w := .methodLink RX12 240 yX12_onBy) (by decide +kernel) (by decide +kernel)
theorem ml_X12_243 : Cond.methodLink RX12 243 yX12_valueFor ∈ g_T := g_T_mem (i := 1545) (w := .methodLink RX12 243 yX12_valueFor) (by decide +kernel) (by decide +kernel)
theorem ml_X12_247 : Cond.methodLink RX12 247 yX12_isPair ∈ g_T := g_T_mem (i := 1557) (w := .methodLink RX12 247 yX12_isPair) (by decide +kernel) (by decide +kernel)
theorem ml_X12_256 : Cond.methodLink RX12 256 yX12_weds ∈ g_T := g_T_mem (i := 1569) (w := .methodLink RX12 256 yX12_weds) (by decide +kernel) (by decide +kernel)
theorem ml_X12_260 : Cond.methodLink RX12 260 yX12_findsWeddings ∈ g_T := g_T_mem (i := 1565) (w := .methodLink RX12 260 yX12_findsWeddings) (by decide +kernel) (by decide +kernel)
theorem ml_X12_263 : Cond.methodLink RX12 263 yX12_size ∈ g_T := g_T_mem (i := 1581) (w := .methodLink RX12 263 yX12_size) (by decide +kernel) (by decide +kernel)
theorem ml_X12_266 : Cond.methodLink RX12 266 yX12_isStill ∈ g_T := g_T_mem (i := 1584) (w := .methodLink RX12 266 yX12_isStill) (by decide +kernel) (by decide +kernel)
theorem ml_X12_287 : Cond.methodLink RX12 287 yX12_goesWith ∈ g_T := g_T_mem (i := 1603) (w := .methodLink RX12 287 yX12_goesWith) (by decide +kernel) (by decide +kernel)
theorem ml_X12_290 : Cond.methodLink RX12 290 yX12_plans ∈ g_T := g_T_mem (i := 1599) (w := .methodLink RX12 290 yX12_plans) (by decide +kernel) (by decide +kernel)
theorem ml_X12_293 : Cond.methodLink RX12 293 yX12_isLong ∈ g_T := g_T_mem (i := 1592) (w := .methodLink RX12 293 yX12_isLong) (by decide +kernel) (by decide +kernel)
theorem ml_X12_296 : Cond.methodLink RX12 296 yX12_findsPlans ∈ g_T := g_T_mem (i := 1595) (w := .methodLink RX12 296 yX12_findsPlans) (by decide +kernel) (by decide +kernel)
theorem ml_X12_302 : Cond.methodLink RX12 302 yX12_isSet ∈ g_T := g_T_mem (i := 1620) (w := .methodLink RX12 302 yX12_isSet) (by decide +kernel) (by decide +kernel)
theorem ml_X12_305 : Cond.methodLink RX12 305 yX12_valueFrom ∈ g_T := g_T_mem (i := 1632) (w := .methodLink RX12 305 yX12_valueFrom) (by decide +kernel) (by decide +kernel)
theorem ml_X12_321 : Cond.methodLink RX12 321 yX12_isFit ∈ g_T := g_T_mem (i := 1658) (w := .methodLink RX12 321 yX12_isFit) (by decide +kernel) (by decide +kernel)
theorem ml_X12_325 : Cond.methodLink RX12 325 yX12_findsFits ∈ g_T := g_T_mem (i := 1654) (w := .methodLink RX12 325 yX12_findsFits) (by decide +kernel) (by decide +kernel)
theorem ml_X12_329 : Cond.methodLink RX12 329 yX12_goesByLot ∈ g_T := g_T_mem (i := 1674) (w := .methodLink RX12 329 yX12_goesByLot) (by decide +kernel) (by decide +kernel)
theorem ml_X12_339 : Cond.methodLink RX12 339 yX12_isRow ∈ g_T := g_T_mem (i := 1693) (w := .methodLink RX12 339 yX12_isRow) (by decide +kernel) (by decide +kernel)
theorem ml_X12_342 : Cond.methodLink RX12 342 yX12_isAct ∈ g_T := g_T_mem (i := 1705) (w := .methodLink RX12 342 yX12_isAct) (by decide +kernel) (by decide +kernel)
theorem ml_X12_345 : Cond.methodLink RX12 345 yX12_isSheet ∈ g_T := g_T_mem (i := 1713) (w := .methodLink RX12 345 yX12_isSheet) (by decide +kernel) (by decide +kernel)
theorem ml_X12_350 : Cond.methodLink RX12 350 yX12_lacks ∈ g_T := g_T_mem (i := 1725) (w := .methodLink RX12 350 yX12_lacks) (by decide +kernel) (by decide +kernel)
theorem ml_X12_353 : Cond.methodLink RX12 353 yX12_sumBy ∈ g_T := g_T_mem (i := 1737) (w := .methodLink RX12 353 yX12_sumBy) (by decide +kernel) (by decide +kernel)
theorem ml_X12_356 : Cond.methodLink RX12 356 yX12_isShelf ∈ g_T := g_T_mem (i := 1745) (w := .methodLink RX12 356 yX12_isShelf) (by decide +kernel) (by decide +kernel)
theorem ml_X12_363 : Cond.methodLink RX12 363 yX12_heldOn ∈ g_T := g_T_mem (i := 1754) (w := .methodLink RX12 363 yX12_heldOn) (by decide +kernel) (by decide +kernel)
theorem ml_X12_369 : Cond.methodLink RX12 369 yX12_runs ∈ g_T := g_T_mem (i := 1766) (w := .methodLink RX12 369 yX12_runs) (by decide +kernel) (by decide +kernel)
theorem ml_X12_378 : Cond.methodLink RX12 378 yX12_glowsPlain ∈ g_T := g_T_mem (i := 1770) (w := .methodLink RX12 378 yX12_glowsPlain) (by decide +kernel) (by decide +kernel)
theorem ml_X12_381 : Cond.methodLink RX12 381 yX12_glows ∈ g_T := g_T_mem (i := 1762) (w := .methodLink RX12 381 yX12_glows) (by decide +kernel) (by decide +kernel)
theorem ml_X12_387 : Cond.methodLink RX12 387 yX12_longsPlain ∈ g_T := g_T_mem (i := 1778) (w := .methodLink RX12 387 yX12_longsPlain) (by decide +kernel) (by decide +kernel)
theorem ml_X12_393 : Cond.methodLink RX12 393 yX12_partsPlain ∈ g_T := g_T_mem (i := 1790) (w := .methodLink RX12 393 yX12_partsPlain) (by decide +kernel) (by decide +kernel)
theorem ml_X12_396 : Cond.methodLink RX12 396 yX12_partsPortable ∈ g_T := g_T_mem (i := 1786) (w := .methodLink RX12 396 yX12_partsPortable) (by decide +kernel) (by decide +kernel)
theorem ml_X12_399 : Cond.methodLink RX12 399 yX12_longsActs ∈ g_T := g_T_mem (i := 1774) (w := .methodLink RX12 399 yX12_longsActs) (by decide +kernel) (by decide +kernel)
theorem ml_X12_402 : Cond.methodLink RX12 402 yX12_wedsPlain ∈ g_T := g_T_mem (i := 1798) (w := .methodLink RX12 402 yX12_wedsPlain) (by decide +kernel) (by decide +kernel)
theorem ml_X12_405 : Cond.methodLink RX12 405 yX12_parts ∈ g_T := g_T_mem (i := 1782) (w := .methodLink RX12 405 yX12_parts) (by decide +kernel) (by decide +kernel)
theorem ml_X12_408 : Cond.methodLink RX12 408 yX12_wedsActs ∈ g_T := g_T_mem (i := 1794) (w := .methodLink RX12 408 yX12_wedsActs) (by decide +kernel) (by decide +kernel)
theorem ml_J0_492 : Cond.methodLink RJ0 492 yJ0_isLatin1_aae02 ∈ g_T := g_T_mem (i := 621) (w := .methodLink RJ0 492 yJ0_isLatin1_aae02) (by decide +kernel) (by decide +kernel)
theorem ml_J0_495 : Cond.methodLink RJ0 495 yJ1_charAt_3b067 ∈ g_T := g_T_mem (i := 627) (w := .methodLink RJ0 495 yJ1_charAt_3b067) (by decide +kernel) (by decide +kernel)
theorem ml_J0_498 : Cond.methodLink RJ0 498 yJ2_charAt_3b067 ∈ g_T := g_T_mem (i := 638) (w := .methodLink RJ0 498 yJ2_charAt_3b067) (by decide +kernel) (by decide +kernel)
theorem ml_J0_1059 : Cond.methodLink RJ0 1059 yJ3_checkIndex_8e157 ∈ g_T := g_T_mem (i := 635) (w := .methodLink RJ0 1059 yJ3_checkIndex_8e157) (by decide +kernel) (by decide +kernel)
theorem ml_J1_9 : Cond.methodLink RJ1 9 yJ0_checkIndex_df160 ∈ g_T := g_T_mem (i := 630) (w := .methodLink RJ1 9 yJ0_checkIndex_df160) (by decide +kernel) (by decide +kernel)
theorem ml_J2_48 : Cond.methodLink RJ2 48 yJ2_length_9d52b ∈ g_T := g_T_mem (i := 644) (w := .methodLink RJ2 48 yJ2_length_9d52b) (by decide +kernel) (by decide +kernel)
theorem ml_J2_67 : Cond.methodLink RJ2 67 yJ2_checkIndex_2214a ∈ g_T := g_T_mem (i := 641) (w := .methodLink RJ2 67 yJ2_checkIndex_2214a) (by decide +kernel) (by decide +kernel)
theorem ml_J2_71 : Cond.methodLink RJ2 71 yJ2_getChar_3b067 ∈ g_T := g_T_mem (i := 648) (w := .methodLink RJ2 71 yJ2_getChar_3b067) (by decide +kernel) (by decide +kernel)
theorem ml_J2_414 : Cond.methodLink RJ2 414 yJ0_checkIndex_df160 ∈ g_T := g_T_mem (i := 647) (w := .methodLink RJ2 414 yJ0_checkIndex_df160) (by decide +kernel) (by decide +kernel)
theorem mn_X11_9 : Cond.methodLinkNest RX11 9 yX9_init "OvenPairs" ∈ g_NW := by decide +kernel
theorem mn_X11_30 : Cond.methodLinkNest RX11 30 yX8_init "OvenPairs" ∈ g_NW := by decide +kernel
theorem mn_X11_37 : Cond.methodLinkNest RX11 37 yX0_init "OvenPairs" ∈ g_NW := by decide +kernel
theorem mn_X1_1 : Cond.methodLinkNest RX1 1 yX6_init "OvenPairs" ∈ g_NW := by decide +kernel
theorem mn_X2_93 : Cond.methodLinkNest RX2 93 yX11_chainOf "OvenPairs" ∈ g_NW := by decide +kernel
theorem mn_X4_1 : Cond.methodLinkNest RX4 1 yX3_init "OvenPairs" ∈ g_NW := by decide +kernel
theorem mn_X5_1 : Cond.methodLinkNest RX5 1 yX4_init "OvenPairs" ∈ g_NW := by decide +kernel
theorem mn_X6_1 : Cond.methodLinkNest RX6 1 yX3_init "OvenPairs" ∈ g_NW := by decide +kernel
theorem mn_X7_37 : Cond.methodLinkNest RX7 37 yX11_isUnder "OvenPairs" ∈ g_NW := by decide +kernel
theorem mn_X9_11 : Cond.methodLinkNest RX9 11 yX3_init "OvenPairs" ∈ g_NW := by decide +kernel
theorem mn_X9_14 : Cond.methodLinkNest RX9 14 yX10_init "OvenPairs" ∈ g_NW := by decide +kernel
theorem mn_X9_17 : Cond.methodLinkNest RX9 17 yX6_init "OvenPairs" ∈ g_NW := by decide +kernel
theorem mn_X9_20 : Cond.methodLinkNest RX9 20 yX1_init "OvenPairs" ∈ g_NW := by decide +kernel
theorem mn_X9_23 : Cond.methodLinkNest RX9 23 yX4_init "OvenPairs" ∈ g_NW := by decide +kernel
theorem mn_X9_26 : Cond.methodLinkNest RX9 26 yX5_init "OvenPairs" ∈ g_NW := by decide +kernel
theorem mn_X10_1 : Cond.methodLinkNest RX10 1 yX3_init "OvenPairs" ∈ g_NW := by decide +kernel
theorem kc_X11_362 : Cond.constant RX11 362 (1103515245) ∈ g_T := g_T_mem (i := 979) (w := .constant RX11 362 (1103515245)) (by decide +kernel) (by decide +kernel)
theorem kc_L_50 : Cond.constantLong RL 50 (4294967295) ∈ g_T := g_T_mem (i := 1818) (w := .constantLong RL 50 (4294967295)) (by decide +kernel) (by decide +kernel)
theorem kc_X12_64 : Cond.constantLong RX12 64 (5) ∈ g_T := g_T_mem (i := 1329) (w := .constantLong RX12 64 (5)) (by decide +kernel) (by decide +kernel)
theorem kc_X12_70 : Cond.constantLong RX12 70 (9) ∈ g_T := g_T_mem (i := 1333) (w := .constantLong RX12 70 (9)) (by decide +kernel) (by decide +kernel)
theorem kc_X12_72 : Cond.constantLong RX12 72 (15) ∈ g_T := g_T_mem (i := 1334) (w := .constantLong RX12 72 (15)) (by decide +kernel) (by decide +kernel)
theorem kc_X12_88 : Cond.constantLong RX12 88 (2) ∈ g_T := g_T_mem (i := 1367) (w := .constantLong RX12 88 (2)) (by decide +kernel) (by decide +kernel)
theorem kc_X12_90 : Cond.constantLong RX12 90 (-2) ∈ g_T := g_T_mem (i := 1368) (w := .constantLong RX12 90 (-2)) (by decide +kernel) (by decide +kernel)
theorem kc_X12_114 : Cond.constantLong RX12 114 (7) ∈ g_T := g_T_mem (i := 1343) (w := .constantLong RX12 114 (7)) (by decide +kernel) (by decide +kernel)
theorem kc_X12_126 : Cond.constantLong RX12 126 (4) ∈ g_T := g_T_mem (i := 1391) (w := .constantLong RX12 126 (4)) (by decide +kernel) (by decide +kernel)
theorem kc_X12_131 : Cond.constantLong RX12 131 (16) ∈ g_T := g_T_mem (i := 1408) (w := .constantLong RX12 131 (16)) (by decide +kernel) (by decide +kernel)
theorem kc_X12_141 : Cond.constantLong RX12 141 (8) ∈ g_T := g_T_mem (i := 1429) (w := .constantLong RX12 141 (8)) (by decide +kernel) (by decide +kernel)
theorem kc_X12_146 : Cond.constantLong RX12 146 (255) ∈ g_T := g_T_mem (i := 1430) (w := .constantLong RX12 146 (255)) (by decide +kernel) (by decide +kernel)
theorem kc_X12_300 : Cond.constantLong RX12 300 (3) ∈ g_T := g_T_mem (i := 1611) (w := .constantLong RX12 300 (3)) (by decide +kernel) (by decide +kernel)
theorem kc_X12_311 : Cond.constantLong RX12 311 (-20) ∈ g_T := g_T_mem (i := 1644) (w := .constantLong RX12 311 (-20)) (by decide +kernel) (by decide +kernel)
theorem kc_X12_313 : Cond.constantLong RX12 313 (20) ∈ g_T := g_T_mem (i := 1645) (w := .constantLong RX12 313 (20)) (by decide +kernel) (by decide +kernel)
theorem kc_X12_328 : Cond.constant RX12 328 (1103515245) ∈ g_T := g_T_mem (i := 1678) (w := .constant RX12 328 (1103515245)) (by decide +kernel) (by decide +kernel)
theorem kc_X12_332 : Cond.constantLong RX12 332 (40) ∈ g_T := g_T_mem (i := 1683) (w := .constantLong RX12 332 (40)) (by decide +kernel) (by decide +kernel)
theorem kc_X12_334 : Cond.constantLong RX12 334 (999) ∈ g_T := g_T_mem (i := 1684) (w := .constantLong RX12 334 (999)) (by decide +kernel) (by decide +kernel)
theorem kc_X12_348 : Cond.constantLong RX12 348 (-1) ∈ g_T := g_T_mem (i := 1716) (w := .constantLong RX12 348 (-1)) (by decide +kernel) (by decide +kernel)
theorem kc_X12_359 : Cond.constantLong RX12 359 (14) ∈ g_T := g_T_mem (i := 1752) (w := .constantLong RX12 359 (14)) (by decide +kernel) (by decide +kernel)
theorem kc_X12_361 : Cond.constantLong RX12 361 (6) ∈ g_T := g_T_mem (i := 1753) (w := .constantLong RX12 361 (6)) (by decide +kernel) (by decide +kernel)
theorem kc_J6_264 : Cond.constant RJ6 264 (65536) ∈ g_T := g_T_mem (i := 908) (w := .constant RJ6 264 (65536)) (by decide +kernel) (by decide +kernel)
theorem kc_J6_265 : Cond.constant RJ6 265 (1431655765) ∈ g_T := g_T_mem (i := 837) (w := .constant RJ6 265 (1431655765)) (by decide +kernel) (by decide +kernel)
theorem kc_J6_266 : Cond.constant RJ6 266 (858993459) ∈ g_T := g_T_mem (i := 838) (w := .constant RJ6 266 (858993459)) (by decide +kernel) (by decide +kernel)
theorem kc_J6_267 : Cond.constant RJ6 267 (252645135) ∈ g_T := g_T_mem (i := 839) (w := .constant RJ6 267 (252645135)) (by decide +kernel) (by decide +kernel)
