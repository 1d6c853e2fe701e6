theorem mk_X0 : g_mk 0 5 := ⟨RX0, TX0, rfl, g_T_mem (i := 303) (w := .instantiable RX0 5) (by decide +kernel) (by decide +kernel), g_T_mem (i := 101) (w := .initialized RX0) (by decide +kernel) (by decide +kernel), in_X0, tyX0_ok⟩
theorem fr_X0 : g_fR 0 5 := by
  intro j hj h
  match j, hj, h with
  | 0, _, h => rfl
  | 1, _, h => exact absurd rfl h
  | 2, _, h => exact absurd rfl h
  | 3, _, h => exact absurd rfl h
  | 4, _, h => exact absurd rfl h
theorem ff_0_0 : g_FF RX0 0 0 := by intro C T N h; cases h; exact ⟨rfl, rfl⟩
theorem ci_X0 : yX0_init.name = "<init>" ∧ Cond.instanceMethod yX0_init ∈ g_T ∧ Y_X0_init.2.2.1 = none := ⟨rfl, g_T_mem (i := 305) (w := .instanceMethod yX0_init) (by decide +kernel) (by decide +kernel), rfl⟩
theorem in_X1 : ∀ w ∈ u_ws RX1 TX1 0, w ∈ g_T := fun w h => absurd h (by unfold u_ws; exact List.not_mem_nil)
theorem mk_X1 : g_mk 1 0 := ⟨RX1, TX1, rfl, g_T_mem (i := 147) (w := .instantiable RX1 0) (by decide +kernel) (by decide +kernel), g_T_mem (i := 95) (w := .initialized RX1) (by decide +kernel) (by decide +kernel), in_X1, fun k h => absurd h (Nat.not_lt_zero k)⟩
theorem fr_X1 : g_fR 1 0 := fun j hj => absurd hj (Nat.not_lt_zero j)
theorem ci_X1 : yX1_init.name = "<init>" ∧ Cond.instanceMethod yX1_init ∈ g_T ∧ Y_X1_init.2.2.1 = none := ⟨rfl, g_T_mem (i := 149) (w := .instanceMethod yX1_init) (by decide +kernel) (by decide +kernel), rfl⟩
theorem in_X3 : ∀ w ∈ u_ws RX3 TX3 0, w ∈ g_T := fun w h => absurd h (by unfold u_ws; exact List.not_mem_nil)
theorem mk_X3 : g_mk 3 0 := ⟨RX3, TX3, rfl, g_T_mem (i := 126) (w := .instantiable RX3 0) (by decide +kernel) (by decide +kernel), g_T_mem (i := 92) (w := .initialized RX3) (by decide +kernel) (by decide +kernel), in_X3, fun k h => absurd h (Nat.not_lt_zero k)⟩
theorem fr_X3 : g_fR 3 0 := fun j hj => absurd hj (Nat.not_lt_zero j)
theorem ci_X3 : yX3_init.name = "<init>" ∧ Cond.instanceMethod yX3_init ∈ g_T ∧ Y_X3_init.2.2.1 = none := ⟨rfl, g_T_mem (i := 128) (w := .instanceMethod yX3_init) (by decide +kernel) (by decide +kernel), rfl⟩
theorem in_X4 : ∀ w ∈ u_ws RX4 TX4 0, w ∈ g_T := fun w h => absurd h (by unfold u_ws; exact List.not_mem_nil)
theorem mk_X4 : g_mk 4 0 := ⟨RX4, TX4, rfl, g_T_mem (i := 154) (w := .instantiable RX4 0) (by decide +kernel) (by decide +kernel), g_T_mem (i := 96) (w := .initialized RX4) (by decide +kernel) (by decide +kernel), in_X4, fun k h => absurd h (Nat.not_lt_zero k)⟩
theorem fr_X4 : g_fR 4 0 := fun j hj => absurd hj (Nat.not_lt_zero j)
theorem ci_X4 : yX4_init.name = "<init>" ∧ Cond.instanceMethod yX4_init ∈ g_T ∧ Y_X4_init.2.2.1 = none := ⟨rfl, g_T_mem (i := 156) (w := .instanceMethod yX4_init) (by decide +kernel) (by decide +kernel), rfl⟩
theorem in_X5 : ∀ w ∈ u_ws RX5 TX5 0, w ∈ g_T := fun w h => absurd h (by unfold u_ws; exact List.not_mem_nil)
theorem mk_X5 : g_mk 5 0 := ⟨RX5, TX5, rfl, g_T_mem (i := 161) (w := .instantiable RX5 0) (by decide +kernel) (by decide +kernel), g_T_mem (i := 97) (w := .initialized RX5) (by decide +kernel) (by decide +kernel), in_X5, fun k h => absurd h (Nat.not_lt_zero k)⟩
theorem fr_X5 : g_fR 5 0 := fun j hj => absurd hj (Nat.not_lt_zero j)
theorem ci_X5 : yX5_init.name = "<init>" ∧ Cond.instanceMethod yX5_init ∈ g_T ∧ Y_X5_init.2.2.1 = none := ⟨rfl, g_T_mem (i := 163) (w := .instanceMethod yX5_init) (by decide +kernel) (by decide +kernel), rfl⟩
theorem in_X6 : ∀ w ∈ u_ws RX6 TX6 0, w ∈ g_T := fun w h => absurd h (by unfold u_ws; exact List.not_mem_nil)
theorem mk_X6 : g_mk 6 0 := ⟨RX6, TX6, rfl, g_T_mem (i := 140) (w := .instantiable RX6 0) (by decide +kernel) (by decide +kernel), g_T_mem (i := 94) (w := .initialized RX6) (by decide +kernel) (by decide +kernel), in_X6, fun k h => absurd h (Nat.not_lt_zero k)⟩
theorem fr_X6 : g_fR 6 0 := fun j hj => absurd hj (Nat.not_lt_zero j)
theorem ci_X6 : yX6_init.name = "<init>" ∧ Cond.instanceMethod yX6_init ∈ g_T ∧ Y_X6_init.2.2.1 = none := ⟨rfl, g_T_mem (i := 142) (w := .instanceMethod yX6_init) (by decide +kernel) (by decide +kernel), rfl⟩
theorem mk_X7 : g_mk 7 6 := ⟨RX7, TX7, rfl, g_T_mem (i := 168) (w := .instantiable RX7 6) (by decide +kernel) (by decide +kernel), g_T_mem (i := 98) (w := .initialized RX7) (by decide +kernel) (by decide +kernel), in_X7, tyX7_ok⟩
theorem fr_X7 : g_fR 7 6 := by
  intro j hj h
  match j, hj, h with
  | 0, _, h => rfl
  | 1, _, h => rfl
  | 2, _, h => rfl
  | 3, _, h => rfl
  | 4, _, h => exact absurd rfl h
  | 5, _, h => exact absurd rfl h
theorem ff_7_0 : g_FF RX7 7 0 := by intro C T N h; cases h; exact ⟨rfl, rfl⟩
theorem ff_7_1 : g_FF RX7 7 1 := by intro C T N h; cases h; exact ⟨rfl, rfl⟩
theorem ff_7_2 : g_FF RX7 7 2 := by intro C T N h; cases h; exact ⟨rfl, rfl⟩
theorem ff_7_3 : g_FF RX7 7 3 := by intro C T N h; cases h; exact ⟨rfl, rfl⟩
theorem ci_X7 : yX7_init.name = "<init>" ∧ Cond.instanceMethod yX7_init ∈ g_T ∧ Y_X7_init.2.2.1 = none := ⟨rfl, g_T_mem (i := 170) (w := .instanceMethod yX7_init) (by decide +kernel) (by decide +kernel), rfl⟩
theorem mk_X8 : g_mk 8 8 := ⟨RX8, TX8, rfl, g_T_mem (i := 270) (w := .instantiable RX8 8) (by decide +kernel) (by decide +kernel), g_T_mem (i := 100) (w := .initialized RX8) (by decide +kernel) (by decide +kernel), in_X8, tyX8_ok⟩
theorem fr_X8 : g_fR 8 8 := by
  intro j hj h
  match j, hj, h with
  | 0, _, h => rfl
  | 1, _, h => rfl
  | 2, _, h => rfl
  | 3, _, h => rfl
  | 4, _, h => exact absurd rfl h
  | 5, _, h => exact absurd rfl h
  | 6, _, h => exact absurd rfl h
  | 7, _, h => exact absurd rfl h
theorem ff_8_0 : g_FF RX8 8 0 := by intro C T N h; cases h; exact ⟨rfl, rfl⟩
theorem ff_8_1 : g_FF RX8 8 1 := by intro C T N h; cases h; exact ⟨rfl, rfl⟩
theorem ff_8_2 : g_FF RX8 8 2 := by intro C T N h; cases h; exact ⟨rfl, rfl⟩
theorem ff_8_3 : g_FF RX8 8 3 := by intro C T N h; cases h; exact ⟨rfl, rfl⟩
theorem ci_X8 : yX8_init.name = "<init>" ∧ Cond.instanceMethod yX8_init ∈ g_T ∧ Y_X8_init.2.2.1 = none := ⟨rfl, g_T_mem (i := 272) (w := .instanceMethod yX8_init) (by decide +kernel) (by decide +kernel), rfl⟩
theorem mk_X9 : g_mk 9 18 := ⟨RX9, TX9, rfl, g_T_mem (i := 119) (w := .instantiable RX9 18) (by decide +kernel) (by decide +kernel), g_T_mem (i := 91) (w := .initialized RX9) (by decide +kernel) (by decide +kernel), in_X9, tyX9_ok⟩
theorem fr_X9 : g_fR 9 18 := by
  intro j hj h
  match j, hj, h with
  | 0, _, h => rfl
  | 1, _, h => rfl
  | 2, _, h => rfl
  | 3, _, h => rfl
  | 4, _, h => rfl
  | 5, _, h => rfl
  | 6, _, h => rfl
  | 7, _, h => rfl
  | 8, _, h => rfl
  | 9, _, h => rfl
  | 10, _, h => rfl
  | 11, _, h => exact absurd rfl h
  | 12, _, h => exact absurd rfl h
  | 13, _, h => exact absurd rfl h
  | 14, _, h => exact absurd rfl h
  | 15, _, h => exact absurd rfl h
  | 16, _, h => exact absurd rfl h
  | 17, _, h => exact absurd rfl h
theorem ff_9_0 : g_FF RX9 9 0 := by intro C T N h; cases h; exact ⟨rfl, rfl⟩
theorem ff_9_1 : g_FF RX9 9 1 := by intro C T N h; cases h; exact ⟨rfl, rfl⟩
theorem ff_9_2 : g_FF RX9 9 2 := by intro C T N h; cases h; exact ⟨rfl, rfl⟩
theorem ff_9_3 : g_FF RX9 9 3 := by intro C T N h; cases h; exact ⟨rfl, rfl⟩
theorem ff_9_4 : g_FF RX9 9 4 := by intro C T N h; cases h; exact ⟨rfl, rfl⟩
theorem ff_9_5 : g_FF RX9 9 5 := by intro C T N h; cases h; exact ⟨rfl, rfl⟩
theorem ff_9_6 : g_FF RX9 9 6 := by intro C T N h; cases h; exact ⟨rfl, rfl⟩
theorem ff_9_7 : g_FF RX9 9 7 := by intro C T N h; cases h; exact ⟨rfl, rfl⟩
theorem ff_9_8 : g_FF RX9 9 8 := by intro C T N h; cases h; exact ⟨rfl, rfl⟩
theorem ff_9_9 : g_FF RX9 9 9 := by intro C T N h; cases h; exact ⟨rfl, rfl⟩
theorem ci_X9 : yX9_init.name = "<init>" ∧ Cond.instanceMethod yX9_init ∈ g_T ∧ Y_X9_init.2.2.1 = none := ⟨rfl, g_T_mem (i := 121) (w := .instanceMethod yX9_init) (by decide +kernel) (by decide +kernel), rfl⟩
theorem in_X10 : ∀ w ∈ u_ws RX10 TX10 0, w ∈ g_T := fun w h => absurd h (by unfold u_ws; exact List.not_mem_nil)
theorem mk_X10 : g_mk 10 0 := ⟨RX10, TX10, rfl, g_T_mem (i := 133) (w := .instantiable RX10 0) (by decide +kernel) (by decide +kernel), g_T_mem (i := 93) (w := .initialized RX10) (by decide +kernel) (by decide +kernel), in_X10, fun k h => absurd h (Nat.not_lt_zero k)⟩
theorem fr_X10 : g_fR 10 0 := fun j hj => absurd hj (Nat.not_lt_zero j)
theorem ci_X10 : yX10_init.name = "<init>" ∧ Cond.instanceMethod yX10_init ∈ g_T ∧ Y_X10_init.2.2.1 = none := ⟨rfl, g_T_mem (i := 135) (w := .instanceMethod yX10_init) (by decide +kernel) (by decide +kernel), rfl⟩
theorem mk_X11 : g_mk 11 13 := ⟨RX11, TX11, rfl, g_T_mem (i := 111) (w := .instantiable RX11 13) (by decide +kernel) (by decide +kernel), g_T_mem (i := 90) (w := .initialized RX11) (by decide +kernel) (by decide +kernel), in_X11, tyX11_ok⟩
theorem fr_X11 : g_fR 11 13 := by
  intro j hj h
  match j, hj, h with
  | 0, _, h => rfl
  | 1, _, h => rfl
  | 2, _, h => rfl
  | 3, _, h => rfl
  | 4, _, h => rfl
  | 5, _, h => rfl
  | 6, _, h => rfl
  | 7, _, h => rfl
  | 8, _, h => rfl
  | 9, _, h => rfl
  | 10, _, h => rfl
  | 11, _, h => exact absurd rfl h
  | 12, _, h => exact absurd rfl h
theorem ff_11_0 : g_FF RX11 11 0 := by intro C T N h; cases h; exact ⟨rfl, rfl⟩
theorem ff_11_1 : g_FF RX11 11 1 := by intro C T N h; cases h; exact ⟨rfl, rfl⟩
theorem ff_11_2 : g_FF RX11 11 2 := by intro C T N h; cases h; exact ⟨rfl, rfl⟩
theorem ff_11_3 : g_FF RX11 11 3 := by intro C T N h; cases h; exact ⟨rfl, rfl⟩
theorem ff_11_4 : g_FF RX11 11 4 := by intro C T N h; cases h; exact ⟨rfl, rfl⟩
theorem ff_11_5 : g_FF RX11 11 5 := by intro C T N h; cases h; exact ⟨rfl, rfl⟩
theorem ff_11_6 : g_FF RX11 11 6 := by intro C T N h; cases h; exact ⟨rfl, rfl⟩
theorem ff_11_7 : g_FF RX11 11 7 := by intro C T N h; cases h; exact ⟨rfl, rfl⟩
theorem ff_11_8 : g_FF RX11 11 8 := by intro C T N h; cases h; exact ⟨rfl, rfl⟩
theorem ff_11_9 : g_FF RX11 11 9 := by intro C T N h; cases h; exact ⟨rfl, rfl⟩
theorem ff_11_10 : g_FF RX11 11 10 := by intro C T N h; cases h; exact ⟨rfl, rfl⟩
theorem ci_X11 : yX11_init.name = "<init>" ∧ Cond.instanceMethod yX11_init ∈ g_T ∧ Y_X11_init.2.2.1 = none := ⟨rfl, g_T_mem (i := 113) (w := .instanceMethod yX11_init) (by decide +kernel) (by decide +kernel), rfl⟩
theorem mk_X12 : g_mk 12 45 := ⟨RX12, TX12, rfl, g_T_mem (i := 1161) (w := .instantiable RX12 45) (by decide +kernel) (by decide +kernel), g_T_mem (i := 102) (w := .initialized RX12) (by decide +kernel) (by decide +kernel), in_X12, tyX12_ok⟩
theorem fr_X12 : g_fR 12 45 := by
  intro j hj h
  match j, hj, h with
  | 0, _, h => rfl
  | 1, _, h => rfl
  | 2, _, h => exact absurd rfl h
  | 3, _, h => rfl
  | 4, _, h => rfl
  | 5, _, h => exact absurd rfl h
  | 6, _, h => rfl
  | 7, _, h => exact absurd rfl h
  | 8, _, h => exact absurd rfl h
  | 9, _, h => exact absurd rfl h
  | 10, _, h => exact absurd rfl h
  | 11, _, h => exact absurd rfl h
  | 12, _, h => exact absurd rfl h
  | 13, _, h => exact absurd rfl h
  | 14, _, h => rfl
  | 15, _, h => exact absurd rfl h
  | 16, _, h => rfl
  | 17, _, h => rfl
  | 18, _, h => exact absurd rfl h
  | 19, _, h => exact absurd rfl h
  | 20, _, h => rfl
  | 21, _, h => rfl
  | 22, _, h => exact absurd rfl h
  | 23, _, h => exact absurd rfl h
  | 24, _, h => exact absurd rfl h
  | 25, _, h => exact absurd rfl h
  | 26, _, h => exact absurd rfl h
  | 27, _, h => exact absurd rfl h
  | 28, _, h => exact absurd rfl h
  | 29, _, h => exact absurd rfl h
  | 30, _, h => exact absurd rfl h
  | 31, _, h => rfl
  | 32, _, h => exact absurd rfl h
  | 33, _, h => rfl
  | 34, _, h => rfl
  | 35, _, h => rfl
  | 36, _, h => rfl
  | 37, _, h => rfl
  | 38, _, h => rfl
  | 39, _, h => rfl
  | 40, _, h => exact absurd rfl h
  | 41, _, h => exact absurd rfl h
  | 42, _, h => exact absurd rfl h
  | 43, _, h => exact absurd rfl h
  | 44, _, h => exact absurd rfl h
theorem ff_12_0 : g_FF RX12 12 0 := by intro C T N h; cases h; exact ⟨rfl, rfl⟩
theorem ff_12_1 : g_FF RX12 12 1 := by intro C T N h; cases h; exact ⟨rfl, rfl⟩
theorem ff_12_3 : g_FF RX12 12 3 := by intro C T N h; cases h; exact ⟨rfl, rfl⟩
theorem ff_12_4 : g_FF RX12 12 4 := by intro C T N h; cases h; exact ⟨rfl, rfl⟩
theorem ff_12_6 : g_FF RX12 12 6 := by intro C T N h; cases h; exact ⟨rfl, rfl⟩
theorem ff_12_14 : g_FF RX12 12 14 := by intro C T N h; cases h; exact ⟨rfl, rfl⟩
theorem ff_12_16 : g_FF RX12 12 16 := by intro C T N h; cases h; exact ⟨rfl, rfl⟩
theorem ff_12_17 : g_FF RX12 12 17 := by intro C T N h; cases h; exact ⟨rfl, rfl⟩
theorem ff_12_20 : g_FF RX12 12 20 := by intro C T N h; cases h; exact ⟨rfl, rfl⟩
theorem ff_12_21 : g_FF RX12 12 21 := by intro C T N h; cases h; exact ⟨rfl, rfl⟩
theorem ff_12_31 : g_FF RX12 12 31 := by intro C T N h; cases h; exact ⟨rfl, rfl⟩
theorem ff_12_33 : g_FF RX12 12 33 := by intro C T N h; cases h; exact ⟨rfl, rfl⟩
theorem ff_12_34 : g_FF RX12 12 34 := by intro C T N h; cases h; exact ⟨rfl, rfl⟩
theorem ff_12_35 : g_FF RX12 12 35 := by intro C T N h; cases h; exact ⟨rfl, rfl⟩
theorem ff_12_36 : g_FF RX12 12 36 := by intro C T N h; cases h; exact ⟨rfl, rfl⟩
theorem ff_12_37 : g_FF RX12 12 37 := by intro C T N h; cases h; exact ⟨rfl, rfl⟩
theorem ff_12_38 : g_FF RX12 12 38 := by intro C T N h; cases h; exact ⟨rfl, rfl⟩
theorem ff_12_39 : g_FF RX12 12 39 := by intro C T N h; cases h; exact ⟨rfl, rfl⟩
theorem ci_X12 : yX12_init.name = "<init>" ∧ Cond.instanceMethod yX12_init ∈ g_T ∧ Y_X12_init.2.2.1 = none := ⟨rfl, g_T_mem (i := 1163) (w := .instanceMethod yX12_init) (by decide +kernel) (by decide +kernel), rfl⟩
theorem ov_X1 : g_ov 1 0 := ⟨RX1, TX1, rfl, Or.inr (Or.inr ⟨"OvenPairs$Range", g_T_mem (i := 152) (w := .superclass RX1 "OvenPairs$Range") (by decide +kernel) (by decide +kernel), g_T_mem (i := 145) (w := .superclass RX6 "OvenPairs$Oven") (by decide +kernel) (by decide +kernel)⟩)⟩
theorem ov_X3 : g_ov 3 0 := ⟨RX3, TX3, rfl, Or.inl rfl⟩
theorem ov_X4 : g_ov 4 0 := ⟨RX4, TX4, rfl, Or.inr (Or.inl (g_T_mem (i := 159) (w := .superclass RX4 "OvenPairs$Oven") (by decide +kernel) (by decide +kernel)))⟩
theorem ov_X5 : g_ov 5 0 := ⟨RX5, TX5, rfl, Or.inr (Or.inr ⟨"OvenPairs$Portable", g_T_mem (i := 166) (w := .superclass RX5 "OvenPairs$Portable") (by decide +kernel) (by decide +kernel), g_T_mem (i := 159) (w := .superclass RX4 "OvenPairs$Oven") (by decide +kernel) (by decide +kernel)⟩)⟩
theorem ov_X6 : g_ov 6 0 := ⟨RX6, TX6, rfl, Or.inr (Or.inl (g_T_mem (i := 145) (w := .superclass RX6 "OvenPairs$Oven") (by decide +kernel) (by decide +kernel)))⟩
theorem ov_X10 : g_ov 10 0 := ⟨RX10, TX10, rfl, Or.inr (Or.inl (g_T_mem (i := 138) (w := .superclass RX10 "OvenPairs$Oven") (by decide +kernel) (by decide +kernel)))⟩
theorem cm_X11_7 : Cond.classLink RX11 7 RX9 ∈ g_T := g_T_mem (i := 118) (w := .classLink RX11 7 RX9) (by decide +kernel) (by decide +kernel)
theorem cl_X11_7 : ∀ (C : String) (T : u_T), g_cl[9]? = some (C, T, 18) → Cond.classLink RX11 7 C ∈ g_T := by intro C T h; cases h; exact cm_X11_7
theorem cm_X11_19 : Cond.classLink RX11 19 RX8 ∈ g_T := g_T_mem (i := 269) (w := .classLink RX11 19 RX8) (by decide +kernel) (by decide +kernel)
theorem cl_X11_19 : ∀ (C : String) (T : u_T), g_cl[8]? = some (C, T, 8) → Cond.classLink RX11 19 C ∈ g_T := by intro C T h; cases h; exact cm_X11_19
theorem cm_X11_26 : Cond.classLink RX11 26 RX0 ∈ g_T := g_T_mem (i := 302) (w := .classLink RX11 26 RX0) (by decide +kernel) (by decide +kernel)
theorem cl_X11_26 : ∀ (C : String) (T : u_T), g_cl[0]? = some (C, T, 5) → Cond.classLink RX11 26 C ∈ g_T := by intro C T h; cases h; exact cm_X11_26
theorem cl_X11_43 : Cond.classLink RX11 43 "[[I" ∈ g_T := g_T_mem (i := 334) (w := .classLink RX11 43 "[[I") (by decide +kernel) (by decide +kernel)
theorem cm_X8_34 : Cond.classLink RX8 34 RX7 ∈ g_T := g_T_mem (i := 645) (w := .classLink RX8 34 RX7) (by decide +kernel) (by decide +kernel)
theorem cl_X8_34 : ∀ (C : String) (T : u_T), g_cl[7]? = some (C, T, 6) → Cond.classLink RX8 34 C ∈ g_T := by intro C T h; cases h; exact cm_X8_34
theorem cm_X9_9 : Cond.classLink RX9 9 RX3 ∈ g_T := g_T_mem (i := 124) (w := .classLink RX9 9 RX3) (by decide +kernel) (by decide +kernel)
theorem cl_X9_9 : ∀ (C : String) (T : u_T), g_cl[3]? = some (C, T, 0) → Cond.classLink RX9 9 C ∈ g_T := by intro C T h; cases h; exact cm_X9_9
theorem cm_X9_12 : Cond.classLink RX9 12 RX10 ∈ g_T := g_T_mem (i := 132) (w := .classLink RX9 12 RX10) (by decide +kernel) (by decide +kernel)
theorem cl_X9_12 : ∀ (C : String) (T : u_T), g_cl[10]? = some (C, T, 0) → Cond.classLink RX9 12 C ∈ g_T := by intro C T h; cases h; exact cm_X9_12
theorem cm_X9_15 : Cond.classLink RX9 15 RX6 ∈ g_T := g_T_mem (i := 139) (w := .classLink RX9 15 RX6) (by decide +kernel) (by decide +kernel)
theorem cl_X9_15 : ∀ (C : String) (T : u_T), g_cl[6]? = some (C, T, 0) → Cond.classLink RX9 15 C ∈ g_T := by intro C T h; cases h; exact cm_X9_15
theorem cm_X9_18 : Cond.classLink RX9 18 RX1 ∈ g_T := g_T_mem (i := 146) (w := .classLink RX9 18 RX1) (by decide +kernel) (by decide +kernel)
theorem cl_X9_18 : ∀ (C : String) (T : u_T), g_cl[1]? = some (C, T, 0) → Cond.classLink RX9 18 C ∈ g_T := by intro C T h; cases h; exact cm_X9_18
theorem cm_X9_21 : Cond.classLink RX9 21 RX4 ∈ g_T := g_T_mem (i := 153) (w := .classLink RX9 21 RX4) (by decide +kernel) (by decide +kernel)
theorem cl_X9_21 : ∀ (C : String) (T : u_T), g_cl[4]? = some (C, T, 0) → Cond.classLink RX9 21 C ∈ g_T := by intro C T h; cases h; exact cm_X9_21
theorem cm_X9_24 : Cond.classLink RX9 24 RX5 ∈ g_T := g_T_mem (i := 160) (w := .classLink RX9 24 RX5) (by decide +kernel) (by decide +kernel)
theorem cl_X9_24 : ∀ (C : String) (T : u_T), g_cl[5]? = some (C, T, 0) → Cond.classLink RX9 24 C ∈ g_T := by intro C T h; cases h; exact cm_X9_24
theorem cm_X9_55 : Cond.classLink RX9 55 RX7 ∈ g_T := g_T_mem (i := 167) (w := .classLink RX9 55 RX7) (by decide +kernel) (by decide +kernel)
theorem cl_X9_55 : ∀ (C : String) (T : u_T), g_cl[7]? = some (C, T, 6) → Cond.classLink RX9 55 C ∈ g_T := by intro C T h; cases h; exact cm_X9_55
theorem cm_L_7 : Cond.classLink RL 7 RX11 ∈ g_T := g_T_mem (i := 110) (w := .classLink RL 7 RX11) (by decide +kernel) (by decide +kernel)
theorem cl_L_7 : ∀ (C : String) (T : u_T), g_cl[11]? = some (C, T, 13) → Cond.classLink RL 7 C ∈ g_T := by intro C T h; cases h; exact cm_L_7
theorem cm_L_10 : Cond.classLink RL 10 RX12 ∈ g_T := g_T_mem (i := 1160) (w := .classLink RL 10 RX12) (by decide +kernel) (by decide +kernel)
theorem cl_L_10 : ∀ (C : String) (T : u_T), g_cl[12]? = some (C, T, 45) → Cond.classLink RL 10 C ∈ g_T := by intro C T h; cases h; exact cm_L_10
theorem mj_X11_1 : Cond.methodLink RX11 1 Lib.objectInit ∈ g_T := g_T_mem (i := 115) (w := .methodLink RX11 1 Lib.objectInit) (by decide +kernel) (by decide +kernel)
theorem mj_X0_3 : Cond.methodLink RX0 3 Lib.objectInit ∈ g_T := g_T_mem (i := 307) (w := .methodLink RX0 3 Lib.objectInit) (by decide +kernel) (by decide +kernel)
theorem mj_X3_1 : Cond.methodLink RX3 1 Lib.objectInit ∈ g_T := g_T_mem (i := 130) (w := .methodLink RX3 1 Lib.objectInit) (by decide +kernel) (by decide +kernel)
theorem mj_X7_3 : Cond.methodLink RX7 3 Lib.objectInit ∈ g_T := g_T_mem (i := 172) (w := .methodLink RX7 3 Lib.objectInit) (by decide +kernel) (by decide +kernel)
theorem mj_X8_3 : Cond.methodLink RX8 3 Lib.objectInit ∈ g_T := g_T_mem (i := 274) (w := .methodLink RX8 3 Lib.objectInit) (by decide +kernel) (by decide +kernel)
theorem mj_X9_3 : Cond.methodLink RX9 3 Lib.objectInit ∈ g_T := g_T_mem (i := 123) (w := .methodLink RX9 3 Lib.objectInit) (by decide +kernel) (by decide +kernel)
theorem mj_X12_1 : Cond.methodLink RX12 1 Lib.objectInit ∈ g_T := g_T_mem (i := 1165) (w := .methodLink RX12 1 Lib.objectInit) (by decide +kernel) (by decide +kernel)
theorem mj_X9_77 : Cond.methodLink RX9 77 arraycopyName ∈ g_T := g_T_mem (i := 1153) (w := .methodLink RX9 77 arraycopyName) (by decide +kernel) (by decide +kernel)
