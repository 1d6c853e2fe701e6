theorem k_X3_init {X : g_X} {k o : Nat} {μ : g_M} {ρ : g_R} : g_K X yX3_init Y_X3_init 1 0 0 k [.ref o] (μ, ρ) (g_Qn μ ρ) := by
  refine g_met (y := yX3_init) 0 (by decide) rfl rfl (Nat.le_of_ble_eq_true rfl) ?_
  refine g_aload_n dX3_init_0 rfl ?_
  refine g_oinit mj_X3_1 (Nat.le_of_ble_eq_true rfl) (Nat.le_of_ble_eq_true rfl) dX3_init_1 ?_
  exact g_vret rfl (Nat.le_of_ble_eq_true rfl) rfl dX3_init_4 ⟨rfl, rfl⟩
theorem k_X10_init {X : g_X} {k o : Nat} {μ : g_M} {ρ : g_R} : g_K X yX10_init Y_X10_init 2 0 0 k [.ref o] (μ, ρ) (g_Qn μ ρ) := by
  refine g_met (y := yX10_init) 0 (by decide) rfl rfl (Nat.le_of_ble_eq_true rfl) ?_
  refine g_aload_n dX10_init_0 rfl ?_
  refine m_ctorN mt_X3_init mn_X10_1 ci_X3 dX10_init_1 k_X3_init rfl rfl (by decide) ⟨(Nat.le_of_ble_eq_true rfl), (Nat.le_of_ble_eq_true rfl)⟩ (Nat.le_of_ble_eq_true rfl) ?_
  exact g_vret rfl (Nat.le_of_ble_eq_true rfl) rfl dX10_init_4 ⟨rfl, rfl⟩
theorem k_X6_init {X : g_X} {k o : Nat} {μ : g_M} {ρ : g_R} : g_K X yX6_init Y_X6_init 2 0 0 k [.ref o] (μ, ρ) (g_Qn μ ρ) := by
  refine g_met (y := yX6_init) 0 (by decide) rfl rfl (Nat.le_of_ble_eq_true rfl) ?_
  refine g_aload_n dX6_init_0 rfl ?_
  refine m_ctorN mt_X3_init mn_X6_1 ci_X3 dX6_init_1 k_X3_init rfl rfl (by decide) ⟨(Nat.le_of_ble_eq_true rfl), (Nat.le_of_ble_eq_true rfl)⟩ (Nat.le_of_ble_eq_true rfl) ?_
  exact g_vret rfl (Nat.le_of_ble_eq_true rfl) rfl dX6_init_4 ⟨rfl, rfl⟩
theorem k_X4_init {X : g_X} {k o : Nat} {μ : g_M} {ρ : g_R} : g_K X yX4_init Y_X4_init 2 0 0 k [.ref o] (μ, ρ) (g_Qn μ ρ) := by
  refine g_met (y := yX4_init) 0 (by decide) rfl rfl (Nat.le_of_ble_eq_true rfl) ?_
  refine g_aload_n dX4_init_0 rfl ?_
  refine m_ctorN mt_X3_init mn_X4_1 ci_X3 dX4_init_1 k_X3_init rfl rfl (by decide) ⟨(Nat.le_of_ble_eq_true rfl), (Nat.le_of_ble_eq_true rfl)⟩ (Nat.le_of_ble_eq_true rfl) ?_
  exact g_vret rfl (Nat.le_of_ble_eq_true rfl) rfl dX4_init_4 ⟨rfl, rfl⟩
theorem k_X1_init {X : g_X} {k o : Nat} {μ : g_M} {ρ : g_R} : g_K X yX1_init Y_X1_init 3 0 0 k [.ref o] (μ, ρ) (g_Qn μ ρ) := by
  refine g_met (y := yX1_init) 0 (by decide) rfl rfl (Nat.le_of_ble_eq_true rfl) ?_
  refine g_aload_n dX1_init_0 rfl ?_
  refine m_ctorN mt_X6_init mn_X1_1 ci_X6 dX1_init_1 k_X6_init rfl rfl (by decide) ⟨(Nat.le_of_ble_eq_true rfl), (Nat.le_of_ble_eq_true rfl)⟩ (Nat.le_of_ble_eq_true rfl) ?_
  exact g_vret rfl (Nat.le_of_ble_eq_true rfl) rfl dX1_init_4 ⟨rfl, rfl⟩
theorem k_X5_init {X : g_X} {k o : Nat} {μ : g_M} {ρ : g_R} : g_K X yX5_init Y_X5_init 3 0 0 k [.ref o] (μ, ρ) (g_Qn μ ρ) := by
  refine g_met (y := yX5_init) 0 (by decide) rfl rfl (Nat.le_of_ble_eq_true rfl) ?_
  refine g_aload_n dX5_init_0 rfl ?_
  refine m_ctorN mt_X4_init mn_X5_1 ci_X4 dX5_init_1 k_X4_init rfl rfl (by decide) ⟨(Nat.le_of_ble_eq_true rfl), (Nat.le_of_ble_eq_true rfl)⟩ (Nat.le_of_ble_eq_true rfl) ?_
  exact g_vret rfl (Nat.le_of_ble_eq_true rfl) rfl dX5_init_4 ⟨rfl, rfl⟩
def g_r_X7 (o : Nat) (ρ : g_R) : g_R := g_sef (g_sef (g_sef (g_sef (ρ) o 0 (some (o + 1))) o 1 (some (o + 2))) o 2 (some (o + 3))) o 3 (some (o + 4))
theorem k_X7_init {X : g_X} {k o N : Nat} {x : Int32} {μ : g_M} {ρ : g_R} (hs : ∀ i : Nat, i ≤ 4 → X.2.2.2.1 (k + i) o = some (2, 7, 6)) (hn1 : g_nx X k (o + 1) (0, 0, 8)) (hn2 : g_nx X (k + 1) (o + 2) (0, 0, 8)) (hn3 : g_nx X (k + 2) (o + 3) (0, 0, 8)) (hn4 : g_nx X (k + 3) (o + 4) (0, 0, N)) (hN : (g_max 0 x * 3).toNatClampNeg = N) (h1 : ¬ g_max 0 x * 3 < 0) (hb4 : N * 4 ≤ 536870912) (hz1 : ∀ j : Nat, μ (o + 1) j = 0 ∧ ρ (o + 1) j = none) (hz2 : ∀ j : Nat, μ (o + 2) j = 0 ∧ ρ (o + 2) j = none) (hz3 : ∀ j : Nat, μ (o + 3) j = 0 ∧ ρ (o + 3) j = none) (hz4 : ∀ j : Nat, μ (o + 4) j = 0 ∧ ρ (o + 4) j = none) : g_K X yX7_init Y_X7_init 1 4 (24 + N) k [.ref o, .int x] (μ, ρ) (g_Qn μ (g_r_X7 o ρ)) := by
  refine g_met (y := yX7_init) 0 (by decide) rfl rfl (Nat.le_of_ble_eq_true rfl) ?_
  refine g_aload_n dX7_init_0 rfl ?_
  refine g_oinit mj_X7_3 (Nat.le_of_ble_eq_true rfl) (Nat.le_of_ble_eq_true rfl) dX7_init_1 ?_
  refine g_aload_n dX7_init_4 rfl ?_
  refine g_bipush (v := 8) dX7_init_5 (by decide) ?_
  refine m_newa (id := o + 1) (N := 8) rfl (by decide) (by decide) hn1 (fun j => by simpa [g_sef] using hz1 j) ⟨(Nat.le_of_ble_eq_true rfl), by omega⟩ dX7_init_7 ?_
  refine m_putF rfl fl_X7_9 ff_7_0 rfl rfl rfl (hs 1 (by decide)) dX7_init_9 ?_
  refine g_aload_n dX7_init_12 rfl ?_
  refine g_bipush (v := 8) dX7_init_13 (by decide) ?_
  refine m_newa (id := o + 2) (N := 8) rfl (by decide) (by decide) hn2 (fun j => by simpa [g_sef] using hz2 j) ⟨(Nat.le_of_ble_eq_true rfl), by omega⟩ dX7_init_15 ?_
  refine m_putF rfl fl_X7_15 ff_7_1 rfl rfl rfl (hs 2 (by decide)) dX7_init_17 ?_
  refine g_aload_n dX7_init_20 rfl ?_
  refine g_bipush (v := 8) dX7_init_21 (by decide) ?_
  refine m_newa (id := o + 3) (N := 8) rfl (by decide) (by decide) hn3 (fun j => by simpa [g_sef] using hz3 j) ⟨(Nat.le_of_ble_eq_true rfl), by omega⟩ dX7_init_23 ?_
  refine m_putF rfl fl_X7_18 ff_7_2 rfl rfl rfl (hs 3 (by decide)) dX7_init_25 ?_
  refine g_aload_n dX7_init_28 rfl ?_
  refine g_ic0 dX7_init_29 ?_
  refine g_iload_n dX7_init_30 rfl ?_
  refine m_max ml_X7_21 dX7_init_31 (Nat.le_of_ble_eq_true rfl) ⟨(Nat.le_of_ble_eq_true rfl), by omega⟩ (Nat.le_of_ble_eq_true rfl) ?_
  refine g_ic3 dX7_init_34 ?_
  refine g_imul dX7_init_35 ?_
  refine m_newa (id := o + 4) (N := N) hN h1 hb4 hn4 (fun j => by simpa [g_sef] using hz4 j) ⟨(Nat.le_of_ble_eq_true rfl), by omega⟩ dX7_init_36 ?_
  refine m_putF rfl fl_X7_27 ff_7_3 rfl rfl rfl (hs 4 (by decide)) dX7_init_38 ?_
  exact g_vret rfl (by omega) rfl dX7_init_41 ⟨rfl, rfl⟩
def g_r_X9 (o : Nat) (ρ : g_R) : g_R := g_sef (g_r_X7 (o + 17) (g_sef (g_sef (g_sef (g_sef (g_sef (g_sef (g_sef (g_sef (g_sef (g_sef (g_sef (g_sef (g_sef (g_sef (g_sef (g_sef (ρ) (o + 1) 0 (some (o + 2))) (o + 1) 1 (some (o + 3))) (o + 1) 2 (some (o + 4))) (o + 1) 3 (some (o + 5))) (o + 1) 4 (some (o + 6))) (o + 1) 5 (some (o + 7))) o 0 (some (o + 1))) o 1 (some (o + 8))) o 2 (some (o + 9))) o 3 (some (o + 10))) o 4 (some (o + 11))) o 5 (some (o + 12))) o 6 (some (o + 13))) o 7 (some (o + 14))) o 8 (some (o + 15))) o 9 (some (o + 16)))) o 10 (some (o + 17))
def g_m_X9 (o : Nat) (μ : g_M) : g_M := g_set (g_set (μ) o 14 12) o 16 1
theorem g_r_X9_hi {o i j : Nat} {ρ : g_R} (h : o + 22 ≤ i) : g_r_X9 o ρ i j = ρ i j := by
  unfold g_r_X9 g_r_X7 g_sef
  repeat rw [if_neg (by omega)]
theorem g_m_X9_hi {o i j : Nat} {μ : g_M} (h : o + 22 ≤ i) : g_m_X9 o μ i j = μ i j := by
  unfold g_m_X9 g_set
  repeat rw [if_neg (by omega)]
theorem k_X9_init {D : va_G} {cA : Nat → ClassId} {b o : Nat} {sh : Nat → Option (Nat × Nat × Nat)} {μ : g_M} {ρ : g_R} (hT : ∀ j : Nat, j < 22 → sh (o + j) = g_shX0 (1 + j)) (hz : ∀ i : Nat, o < i → ∀ j : Nat, μ i j = 0 ∧ ρ i j = none) : g_K (g_XC D cA b sh) yX9_init Y_X9_init 4 21 233 (o + 1) [.ref o] (μ, ρ) (g_Qn (g_m_X9 o μ) (g_r_X9 o ρ)) := by
  refine g_met (y := yX9_init) 0 (by decide) rfl rfl (Nat.le_of_ble_eq_true rfl) ?_
  refine g_aload_n dX9_init_0 rfl ?_
  refine g_oinit mj_X9_3 (Nat.le_of_ble_eq_true rfl) (Nat.le_of_ble_eq_true rfl) dX9_init_1 ?_
  refine g_aload_n dX9_init_4 rfl ?_
  refine g_bipush (v := 6) dX9_init_5 (by decide) ?_
  refine m_anew (id := o + 1) (N := 6) cm_X9_9 rfl (by decide) (by decide) (g_nx_C (by omega) (hT 1 (by omega))) (fun j => by simpa [g_set, g_sef, g_r_X7, Nat.add_assoc] using hz (o + 1) (by omega) j) ⟨(Nat.le_of_ble_eq_true rfl), (Nat.le_of_ble_eq_true rfl)⟩ dX9_init_7 ?_
  refine g_dup dX9_init_10 rfl ?_
  refine g_ic0 dX9_init_11 ?_
  refine m_new (id := o + 2) mk_X3 fr_X3 cl_X9_9 (g_nx_C (by omega) (hT 2 (by omega))) (fun j => by simpa [g_set, g_sef, g_r_X7, Nat.add_assoc] using hz (o + 2) (by omega) j) ⟨(Nat.le_of_ble_eq_true rfl), (Nat.le_of_ble_eq_true rfl)⟩ dX9_init_12 ?_
  refine g_dup dX9_init_15 rfl ?_
  refine m_ctorN mt_X3_init mn_X9_11 ci_X3 dX9_init_16 k_X3_init rfl rfl (by decide) ⟨(Nat.le_of_ble_eq_true rfl), (Nat.le_of_ble_eq_true rfl)⟩ (Nat.le_of_ble_eq_true rfl) ?_
  refine m_aast ov_X3 (g_sh_C (by omega) (hT 1 (by omega))) (g_sh_C (by omega) (hT 2 (by omega))) rfl (by decide) (by decide) dX9_init_19 ?_
  refine g_dup dX9_init_20 rfl ?_
  refine g_ic1 dX9_init_21 ?_
  refine m_new (id := o + 3) mk_X10 fr_X10 cl_X9_12 (g_nx_C (by omega) (hT 3 (by omega))) (fun j => by simpa [g_set, g_sef, g_r_X7, Nat.add_assoc] using hz (o + 3) (by omega) j) ⟨(Nat.le_of_ble_eq_true rfl), (Nat.le_of_ble_eq_true rfl)⟩ dX9_init_22 ?_
  refine g_dup dX9_init_25 rfl ?_
  refine m_ctorN mt_X10_init mn_X9_14 ci_X10 dX9_init_26 k_X10_init rfl rfl (by decide) ⟨(Nat.le_of_ble_eq_true rfl), (Nat.le_of_ble_eq_true rfl)⟩ (Nat.le_of_ble_eq_true rfl) ?_
  refine m_aast ov_X10 (g_sh_C (by omega) (hT 1 (by omega))) (g_sh_C (by omega) (hT 3 (by omega))) rfl (by decide) (by decide) dX9_init_29 ?_
  refine g_dup dX9_init_30 rfl ?_
  refine g_ic2 dX9_init_31 ?_
  refine m_new (id := o + 4) mk_X6 fr_X6 cl_X9_15 (g_nx_C (by omega) (hT 4 (by omega))) (fun j => by simpa [g_set, g_sef, g_r_X7, Nat.add_assoc] using hz (o + 4) (by omega) j) ⟨(Nat.le_of_ble_eq_true rfl), (Nat.le_of_ble_eq_true rfl)⟩ dX9_init_32 ?_
  refine g_dup dX9_init_35 rfl ?_
  refine m_ctorN mt_X6_init mn_X9_17 ci_X6 dX9_init_36 k_X6_init rfl rfl (by decide) ⟨(Nat.le_of_ble_eq_true rfl), (Nat.le_of_ble_eq_true rfl)⟩ (Nat.le_of_ble_eq_true rfl) ?_
  refine m_aast ov_X6 (g_sh_C (by omega) (hT 1 (by omega))) (g_sh_C (by omega) (hT 4 (by omega))) rfl (by decide) (by decide) dX9_init_39 ?_
  refine g_dup dX9_init_40 rfl ?_
  refine g_ic3 dX9_init_41 ?_
  refine m_new (id := o + 5) mk_X1 fr_X1 cl_X9_18 (g_nx_C (by omega) (hT 5 (by omega))) (fun j => by simpa [g_set, g_sef, g_r_X7, Nat.add_assoc] using hz (o + 5) (by omega) j) ⟨(Nat.le_of_ble_eq_true rfl), (Nat.le_of_ble_eq_true rfl)⟩ dX9_init_42 ?_
  refine g_dup dX9_init_45 rfl ?_
  refine m_ctorN mt_X1_init mn_X9_20 ci_X1 dX9_init_46 k_X1_init rfl rfl (by decide) ⟨(Nat.le_of_ble_eq_true rfl), (Nat.le_of_ble_eq_true rfl)⟩ (Nat.le_of_ble_eq_true rfl) ?_
  refine m_aast ov_X1 (g_sh_C (by omega) (hT 1 (by omega))) (g_sh_C (by omega) (hT 5 (by omega))) rfl (by decide) (by decide) dX9_init_49 ?_
  refine g_dup dX9_init_50 rfl ?_
  refine g_ic4 dX9_init_51 ?_
  refine m_new (id := o + 6) mk_X4 fr_X4 cl_X9_21 (g_nx_C (by omega) (hT 6 (by omega))) (fun j => by simpa [g_set, g_sef, g_r_X7, Nat.add_assoc] using hz (o + 6) (by omega) j) ⟨(Nat.le_of_ble_eq_true rfl), (Nat.le_of_ble_eq_true rfl)⟩ dX9_init_52 ?_
  refine g_dup dX9_init_55 rfl ?_
  refine m_ctorN mt_X4_init mn_X9_23 ci_X4 dX9_init_56 k_X4_init rfl rfl (by decide) ⟨(Nat.le_of_ble_eq_true rfl), (Nat.le_of_ble_eq_true rfl)⟩ (Nat.le_of_ble_eq_true rfl) ?_
  refine m_aast ov_X4 (g_sh_C (by omega) (hT 1 (by omega))) (g_sh_C (by omega) (hT 6 (by omega))) rfl (by decide) (by decide) dX9_init_59 ?_
  refine g_dup dX9_init_60 rfl ?_
  refine g_ic5 dX9_init_61 ?_
  refine m_new (id := o + 7) mk_X5 fr_X5 cl_X9_24 (g_nx_C (by omega) (hT 7 (by omega))) (fun j => by simpa [g_set, g_sef, g_r_X7, Nat.add_assoc] using hz (o + 7) (by omega) j) ⟨(Nat.le_of_ble_eq_true rfl), (Nat.le_of_ble_eq_true rfl)⟩ dX9_init_62 ?_
  refine g_dup dX9_init_65 rfl ?_
  refine m_ctorN mt_X5_init mn_X9_26 ci_X5 dX9_init_66 k_X5_init rfl rfl (by decide) ⟨(Nat.le_of_ble_eq_true rfl), (Nat.le_of_ble_eq_true rfl)⟩ (Nat.le_of_ble_eq_true rfl) ?_
  refine m_aast ov_X5 (g_sh_C (by omega) (hT 1 (by omega))) (g_sh_C (by omega) (hT 7 (by omega))) rfl (by decide) (by decide) dX9_init_69 ?_
  refine m_putF rfl fl_X9_27 ff_9_0 rfl rfl rfl (g_sh_C (by omega) (hT 0 (by omega))) dX9_init_70 ?_
  refine g_aload_n dX9_init_73 rfl ?_
  refine g_bipush (v := 6) dX9_init_74 (by decide) ?_
  refine m_newa (id := o + 8) (N := 6) rfl (by decide) (by decide) (g_nx_C (by omega) (hT 8 (by omega))) (fun j => by simpa [g_set, g_sef, g_r_X7, Nat.add_assoc] using hz (o + 8) (by omega) j) ⟨(Nat.le_of_ble_eq_true rfl), (Nat.le_of_ble_eq_true rfl)⟩ dX9_init_76 ?_
  refine m_putF rfl fl_X9_33 ff_9_1 rfl rfl rfl (g_sh_C (by omega) (hT 0 (by omega))) dX9_init_78 ?_
  refine g_aload_n dX9_init_81 rfl ?_
  refine g_bipush (v := 6) dX9_init_82 (by decide) ?_
  refine m_newa (id := o + 9) (N := 6) rfl (by decide) (by decide) (g_nx_C (by omega) (hT 9 (by omega))) (fun j => by simpa [g_set, g_sef, g_r_X7, Nat.add_assoc] using hz (o + 9) (by omega) j) ⟨(Nat.le_of_ble_eq_true rfl), (Nat.le_of_ble_eq_true rfl)⟩ dX9_init_84 ?_
  refine m_putF rfl fl_X9_37 ff_9_2 rfl rfl rfl (g_sh_C (by omega) (hT 0 (by omega))) dX9_init_86 ?_
  refine g_aload_n dX9_init_89 rfl ?_
  refine g_bipush (v := 6) dX9_init_90 (by decide) ?_
  refine m_newa (id := o + 10) (N := 6) rfl (by decide) (by decide) (g_nx_C (by omega) (hT 10 (by omega))) (fun j => by simpa [g_set, g_sef, g_r_X7, Nat.add_assoc] using hz (o + 10) (by omega) j) ⟨(Nat.le_of_ble_eq_true rfl), (Nat.le_of_ble_eq_true rfl)⟩ dX9_init_92 ?_
  refine m_putF rfl fl_X9_40 ff_9_3 rfl rfl rfl (g_sh_C (by omega) (hT 0 (by omega))) dX9_init_94 ?_
  refine g_aload_n dX9_init_97 rfl ?_
  refine g_bipush (v := 6) dX9_init_98 (by decide) ?_
  refine m_newa (id := o + 11) (N := 6) rfl (by decide) (by decide) (g_nx_C (by omega) (hT 11 (by omega))) (fun j => by simpa [g_set, g_sef, g_r_X7, Nat.add_assoc] using hz (o + 11) (by omega) j) ⟨(Nat.le_of_ble_eq_true rfl), (Nat.le_of_ble_eq_true rfl)⟩ dX9_init_100 ?_
  refine m_putF rfl fl_X9_43 ff_9_4 rfl rfl rfl (g_sh_C (by omega) (hT 0 (by omega))) dX9_init_102 ?_
  refine g_aload_n dX9_init_105 rfl ?_
  refine g_bipush (v := 36) dX9_init_106 (by decide) ?_
  refine m_newa (id := o + 12) (N := 36) rfl (by decide) (by decide) (g_nx_C (by omega) (hT 12 (by omega))) (fun j => by simpa [g_set, g_sef, g_r_X7, Nat.add_assoc] using hz (o + 12) (by omega) j) ⟨(Nat.le_of_ble_eq_true rfl), (Nat.le_of_ble_eq_true rfl)⟩ dX9_init_108 ?_
  refine m_putF rfl fl_X9_46 ff_9_5 rfl rfl rfl (g_sh_C (by omega) (hT 0 (by omega))) dX9_init_110 ?_
  refine g_aload_n dX9_init_113 rfl ?_
  refine g_bipush (v := 102) dX9_init_114 (by decide) ?_
  refine m_newa (id := o + 13) (N := 102) rfl (by decide) (by decide) (g_nx_C (by omega) (hT 13 (by omega))) (fun j => by simpa [g_set, g_sef, g_r_X7, Nat.add_assoc] using hz (o + 13) (by omega) j) ⟨(Nat.le_of_ble_eq_true rfl), (Nat.le_of_ble_eq_true rfl)⟩ dX9_init_116 ?_
  refine m_putF rfl fl_X9_49 ff_9_6 rfl rfl rfl (g_sh_C (by omega) (hT 0 (by omega))) dX9_init_118 ?_
  refine g_aload_n dX9_init_121 rfl ?_
  refine g_bipush (v := 6) dX9_init_122 (by decide) ?_
  refine m_newa (id := o + 14) (N := 6) rfl (by decide) (by decide) (g_nx_C (by omega) (hT 14 (by omega))) (fun j => by simpa [g_set, g_sef, g_r_X7, Nat.add_assoc] using hz (o + 14) (by omega) j) ⟨(Nat.le_of_ble_eq_true rfl), (Nat.le_of_ble_eq_true rfl)⟩ dX9_init_124 ?_
  refine m_putF rfl fl_X9_52 ff_9_7 rfl rfl rfl (g_sh_C (by omega) (hT 0 (by omega))) dX9_init_126 ?_
  refine g_aload_n dX9_init_129 rfl ?_
  refine g_ic5 dX9_init_130 ?_
  refine m_newa (id := o + 15) (N := 5) rfl (by decide) (by decide) (g_nx_C (by omega) (hT 15 (by omega))) (fun j => by simpa [g_set, g_sef, g_r_X7, Nat.add_assoc] using hz (o + 15) (by omega) j) ⟨(Nat.le_of_ble_eq_true rfl), (Nat.le_of_ble_eq_true rfl)⟩ dX9_init_131 ?_
  refine m_putF rfl fl_X9_57 ff_9_8 rfl rfl rfl (g_sh_C (by omega) (hT 0 (by omega))) dX9_init_133 ?_
  refine g_aload_n dX9_init_136 rfl ?_
  refine g_bipush (v := 24) dX9_init_137 (by decide) ?_
  refine m_newa (id := o + 16) (N := 24) rfl (by decide) (by decide) (g_nx_C (by omega) (hT 16 (by omega))) (fun j => by simpa [g_set, g_sef, g_r_X7, Nat.add_assoc] using hz (o + 16) (by omega) j) ⟨(Nat.le_of_ble_eq_true rfl), (Nat.le_of_ble_eq_true rfl)⟩ dX9_init_139 ?_
  refine m_putF rfl fl_X9_60 ff_9_9 rfl rfl rfl (g_sh_C (by omega) (hT 0 (by omega))) dX9_init_141 ?_
  refine g_aload_n dX9_init_144 rfl ?_
  refine m_new (id := o + 17) mk_X7 fr_X7 cl_X9_55 (g_nx_C (by omega) (hT 17 (by omega))) (fun j => by simpa [g_set, g_sef, g_r_X7, Nat.add_assoc] using hz (o + 17) (by omega) j) ⟨(Nat.le_of_ble_eq_true rfl), (Nat.le_of_ble_eq_true rfl)⟩ dX9_init_145 ?_
  refine g_dup dX9_init_148 rfl ?_
  refine g_ic0 dX9_init_149 ?_
  refine m_ctor mt_X7_init ml_X9_63 ci_X7 dX9_init_150 (k_X7_init (N := 0) (o := o + 17) (fun i hi => g_sh_C (by omega) (hT 17 (by omega))) (g_nx_C (by omega) (hT 18 (by omega))) (g_nx_C (by omega) (hT 19 (by omega))) (g_nx_C (by omega) (hT 20 (by omega))) (g_nx_C (by omega) (hT 21 (by omega))) rfl (by decide) (by decide) (fun j => by simpa [g_set, g_sef, g_r_X7, Nat.add_assoc] using hz (o + 18) (by omega) j) (fun j => by simpa [g_set, g_sef, g_r_X7, Nat.add_assoc] using hz (o + 19) (by omega) j) (fun j => by simpa [g_set, g_sef, g_r_X7, Nat.add_assoc] using hz (o + 20) (by omega) j) (fun j => by simpa [g_set, g_sef, g_r_X7, Nat.add_assoc] using hz (o + 21) (by omega) j)) rfl rfl (by decide) ⟨(Nat.le_of_ble_eq_true rfl), (Nat.le_of_ble_eq_true rfl)⟩ (Nat.le_of_ble_eq_true rfl) ?_
  refine m_putR fl_X9_66 fw_9_10 rfl rfl rfl (g_sh_C (by omega) (hT 0 (by omega))) dX9_init_153 ?_
  refine g_aload_n dX9_init_156 rfl ?_
  refine g_bipush (v := 12) dX9_init_157 (by decide) ?_
  refine m_putI' fl_X9_70 fw_9_14 rfl rfl rfl (g_sh_C (by omega) (hT 0 (by omega))) dX9_init_159 ?_
  refine g_aload_n dX9_init_162 rfl ?_
  refine g_ic1 dX9_init_163 ?_
  refine m_putI' fl_X9_74 fw_9_16 rfl rfl rfl (g_sh_C (by omega) (hT 0 (by omega))) dX9_init_164 ?_
  exact g_vret rfl (Nat.le_of_ble_eq_true rfl) rfl dX9_init_167 ⟨rfl, rfl⟩
theorem g_hT {j : Nat} (h : j < 22) : g_shX0 (1 + j) = g_shX0 (1 + j) := rfl
theorem g_hT2 {j : Nat} (h : j < 22) : g_shX0 (23 + j) = g_shX0 (1 + j) := by
  match j, h with
  | 0, _ => rfl
  | 1, _ => rfl
  | 2, _ => rfl
  | 3, _ => rfl
  | 4, _ => rfl
  | 5, _ => rfl
  | 6, _ => rfl
  | 7, _ => rfl
  | 8, _ => rfl
  | 9, _ => rfl
  | 10, _ => rfl
  | 11, _ => rfl
  | 12, _ => rfl
  | 13, _ => rfl
  | 14, _ => rfl
  | 15, _ => rfl
  | 16, _ => rfl
  | 17, _ => rfl
  | 18, _ => rfl
  | 19, _ => rfl
  | 20, _ => rfl
  | 21, _ => rfl
  | n + 22, h => exact absurd h (by omega)
def g_r_X8 (ρ : g_R) : g_R := g_sef (g_sef (g_sef (g_sef (ρ) 45 0 (some (46))) 45 1 (some (47))) 45 2 (some (48))) 45 3 (some (49))
theorem k_X8_init {D : va_G} {cA : Nat → ClassId} {b : Nat} {μ : g_M} {ρ : g_R} (hz : ∀ i : Nat, 45 < i → ∀ j : Nat, μ i j = 0 ∧ ρ i j = none) : g_K (g_XC D cA b g_shX0) yX8_init Y_X8_init 1 4 803 46 [.ref 45] (μ, ρ) (g_Qn μ (g_r_X8 ρ)) := by
  refine g_met (y := yX8_init) 0 (by decide) rfl rfl (Nat.le_of_ble_eq_true rfl) ?_
  refine g_aload_n dX8_init_0 rfl ?_
  refine g_oinit mj_X8_3 (Nat.le_of_ble_eq_true rfl) (Nat.le_of_ble_eq_true rfl) dX8_init_1 ?_
  refine g_aload_n dX8_init_4 rfl ?_
  refine g_sipush (v := 200) dX8_init_5 (by decide) ?_
  refine m_newa (id := 46) (N := 200) rfl (by decide) (by decide) (g_nx_C (by omega) rfl) (fun j => by simpa [g_set, g_sef] using hz (46) (by omega) j) ⟨(Nat.le_of_ble_eq_true rfl), (Nat.le_of_ble_eq_true rfl)⟩ dX8_init_8 ?_
  refine m_putF rfl fl_X8_9 ff_8_0 rfl rfl rfl (g_sh_C (by omega) rfl) dX8_init_10 ?_
  refine g_aload_n dX8_init_13 rfl ?_
  refine g_sipush (v := 201) dX8_init_14 (by decide) ?_
  refine m_newa (id := 47) (N := 201) rfl (by decide) (by decide) (g_nx_C (by omega) rfl) (fun j => by simpa [g_set, g_sef] using hz (47) (by omega) j) ⟨(Nat.le_of_ble_eq_true rfl), (Nat.le_of_ble_eq_true rfl)⟩ dX8_init_17 ?_
  refine m_putF rfl fl_X8_15 ff_8_1 rfl rfl rfl (g_sh_C (by omega) rfl) dX8_init_19 ?_
  refine g_aload_n dX8_init_22 rfl ?_
  refine g_sipush (v := 201) dX8_init_23 (by decide) ?_
  refine m_newa (id := 48) (N := 201) rfl (by decide) (by decide) (g_nx_C (by omega) rfl) (fun j => by simpa [g_set, g_sef] using hz (48) (by omega) j) ⟨(Nat.le_of_ble_eq_true rfl), (Nat.le_of_ble_eq_true rfl)⟩ dX8_init_26 ?_
  refine m_putF rfl fl_X8_18 ff_8_2 rfl rfl rfl (g_sh_C (by omega) rfl) dX8_init_28 ?_
  refine g_aload_n dX8_init_31 rfl ?_
  refine g_sipush (v := 201) dX8_init_32 (by decide) ?_
  refine m_newa (id := 49) (N := 201) rfl (by decide) (by decide) (g_nx_C (by omega) rfl) (fun j => by simpa [g_set, g_sef] using hz (49) (by omega) j) ⟨(Nat.le_of_ble_eq_true rfl), (Nat.le_of_ble_eq_true rfl)⟩ dX8_init_35 ?_
  refine m_putF rfl fl_X8_21 ff_8_3 rfl rfl rfl (g_sh_C (by omega) rfl) dX8_init_37 ?_
  exact g_vret rfl (Nat.le_of_ble_eq_true rfl) rfl dX8_init_40 ⟨rfl, rfl⟩
def g_r_X0 (ρ : g_R) : g_R := g_sef (ρ) 50 0 (some (51))
theorem k_X0_init {D : va_G} {cA : Nat → ClassId} {b : Nat} {μ : g_M} {ρ : g_R} (hz : ∀ i : Nat, 50 < i → ∀ j : Nat, μ i j = 0 ∧ ρ i j = none) : g_K (g_XC D cA b g_shX0) yX0_init Y_X0_init 1 1 30 51 [.ref 50] (μ, ρ) (g_Qn μ (g_r_X0 ρ)) := by
  refine g_met (y := yX0_init) 0 (by decide) rfl rfl (Nat.le_of_ble_eq_true rfl) ?_
  refine g_aload_n dX0_init_0 rfl ?_
  refine g_oinit mj_X0_3 (Nat.le_of_ble_eq_true rfl) (Nat.le_of_ble_eq_true rfl) dX0_init_1 ?_
  refine g_aload_n dX0_init_4 rfl ?_
  refine g_bipush (v := 30) dX0_init_5 (by decide) ?_
  refine m_newa (id := 51) (N := 30) rfl (by decide) (by decide) (g_nx_C (by omega) rfl) (fun j => by simpa [g_set, g_sef] using hz (51) (by omega) j) ⟨(Nat.le_of_ble_eq_true rfl), (Nat.le_of_ble_eq_true rfl)⟩ dX0_init_7 ?_
  refine m_putF rfl fl_X0_9 ff_0_0 rfl rfl rfl (g_sh_C (by omega) rfl) dX0_init_9 ?_
  exact g_vret rfl (Nat.le_of_ble_eq_true rfl) rfl dX0_init_12 ⟨rfl, rfl⟩
def g_r_X11 (ρ : g_R) : g_R := g_sef (g_sef (g_sef (g_sef (ma_r 4 55 (g_sef (g_sef (g_sef (g_sef (g_r_X0 (g_sef (g_r_X8 (g_sef (g_r_X9 23 (g_sef (g_r_X9 1 (ρ)) 0 0 (some (1)))) 0 1 (some (23)))) 0 2 (some (45)))) 0 3 (some (50))) 0 4 (some (52))) 0 5 (some (53))) 0 6 (some (54)))) 0 7 (some (55))) 0 8 (some (60))) 0 9 (some (61))) 0 10 (some (62))
def g_m_X11 (μ : g_M) : g_M := g_set (g_set (g_set (g_set (g_set (g_set (g_set (g_set (g_m_X9 23 (g_m_X9 1 (μ))) 53 0 (-1)) 53 1 (-1)) 53 2 (-1)) 53 3 (-1)) 60 0 (2)) 60 1 (2)) 60 2 (2)) 60 3 (2)
theorem k_X11_init {D : va_G} {cA : Nat → ClassId} {b : Nat} {μ : g_M} {ρ : g_R} (hz : ∀ i : Nat, 0 < i → ∀ j : Nat, μ i j = 0 ∧ ρ i j = none) : g_K (g_XC D cA b g_shX0) yX11_init Y_X11_init 5 62 1544 1 [.ref 0] (μ, ρ) (g_Qn (g_m_X11 μ) (g_r_X11 ρ)) := by
  refine g_met (y := yX11_init) 0 (by decide) rfl rfl (Nat.le_of_ble_eq_true rfl) ?_
  refine g_aload_n dX11_init_0 rfl ?_
  refine g_oinit mj_X11_1 (Nat.le_of_ble_eq_true rfl) (Nat.le_of_ble_eq_true rfl) dX11_init_1 ?_
  refine g_aload_n dX11_init_4 rfl ?_
  refine m_new (id := 1) mk_X9 fr_X9 cl_X11_7 (g_nx_C (by omega) rfl) (fun j => by simpa [g_set, g_sef, g_r_X9, g_m_X9, g_r_X7, ma_r, g_r_X8, g_r_X0] using hz (1) (by omega) j) ⟨(Nat.le_of_ble_eq_true rfl), (Nat.le_of_ble_eq_true rfl)⟩ dX11_init_5 ?_
  refine g_dup dX11_init_8 rfl ?_
  refine m_ctorN mt_X9_init mn_X11_9 ci_X9 dX11_init_9 (k_X9_init (o := 1) (fun j hj => g_hT hj) (fun i hi j => hz i (by omega) j)) rfl rfl (by decide) ⟨(Nat.le_of_ble_eq_true rfl), (Nat.le_of_ble_eq_true rfl)⟩ (Nat.le_of_ble_eq_true rfl) ?_
  refine m_putF rfl fl_X11_10 ff_11_0 rfl rfl rfl (g_sh_C (by omega) rfl) dX11_init_12 ?_
  refine g_aload_n dX11_init_15 rfl ?_
  refine m_new (id := 23) mk_X9 fr_X9 cl_X11_7 (g_nx_C (by omega) rfl) (fun j => by simpa [g_set, g_sef, g_r_X9, g_m_X9, g_r_X7, ma_r, g_r_X8, g_r_X0] using hz (23) (by omega) j) ⟨(Nat.le_of_ble_eq_true rfl), (Nat.le_of_ble_eq_true rfl)⟩ dX11_init_16 ?_
  refine g_dup dX11_init_19 rfl ?_
  refine m_ctorN mt_X9_init mn_X11_9 ci_X9 dX11_init_20 (k_X9_init (o := 23) (fun j hj => g_hT2 hj) (fun i hi j => by
    have h := hz i (by omega) j
    refine ⟨(g_m_X9_hi (by omega)).trans h.1, ?_⟩
    unfold g_sef
    rw [if_neg (by omega), g_r_X9_hi (by omega)]
    exact h.2)) rfl rfl (by decide) ⟨(Nat.le_of_ble_eq_true rfl), (Nat.le_of_ble_eq_true rfl)⟩ (Nat.le_of_ble_eq_true rfl) ?_
  refine m_putF rfl fl_X11_16 ff_11_1 rfl rfl rfl (g_sh_C (by omega) rfl) dX11_init_23 ?_
  refine g_aload_n dX11_init_26 rfl ?_
  refine m_new (id := 45) mk_X8 fr_X8 cl_X11_19 (g_nx_C (by omega) rfl) (fun j => by simpa [g_set, g_sef, g_r_X9, g_m_X9, g_r_X7, ma_r, g_r_X8, g_r_X0] using hz (45) (by omega) j) ⟨(Nat.le_of_ble_eq_true rfl), (Nat.le_of_ble_eq_true rfl)⟩ dX11_init_27 ?_
  refine g_dup dX11_init_30 rfl ?_
  refine m_ctorN mt_X8_init mn_X11_21 ci_X8 dX11_init_31 (k_X8_init (fun i hi j => by
    have h := hz i (by omega) j
    simp only [g_set, g_sef, g_r_X9, g_m_X9, g_r_X7, ma_r, g_r_X8, g_r_X0]
    refine ⟨?_, ?_⟩ <;> (repeat rw [if_neg (by omega)])
    · exact h.1
    · exact h.2)) rfl rfl (by decide) ⟨(Nat.le_of_ble_eq_true rfl), (Nat.le_of_ble_eq_true rfl)⟩ (Nat.le_of_ble_eq_true rfl) ?_
  refine m_putF rfl fl_X11_22 ff_11_2 rfl rfl rfl (g_sh_C (by omega) rfl) dX11_init_34 ?_
  refine g_aload_n dX11_init_37 rfl ?_
  refine m_new (id := 50) mk_X0 fr_X0 cl_X11_26 (g_nx_C (by omega) rfl) (fun j => by simpa [g_set, g_sef, g_r_X9, g_m_X9, g_r_X7, ma_r, g_r_X8, g_r_X0] using hz (50) (by omega) j) ⟨(Nat.le_of_ble_eq_true rfl), (Nat.le_of_ble_eq_true rfl)⟩ dX11_init_38 ?_
  refine g_dup dX11_init_41 rfl ?_
  refine m_ctorN mt_X0_init mn_X11_28 ci_X0 dX11_init_42 (k_X0_init (fun i hi j => by
    have h := hz i (by omega) j
    simp only [g_set, g_sef, g_r_X9, g_m_X9, g_r_X7, ma_r, g_r_X8, g_r_X0]
    refine ⟨?_, ?_⟩ <;> (repeat rw [if_neg (by omega)])
    · exact h.1
    · exact h.2)) rfl rfl (by decide) ⟨(Nat.le_of_ble_eq_true rfl), (Nat.le_of_ble_eq_true rfl)⟩ (Nat.le_of_ble_eq_true rfl) ?_
  refine m_putF rfl fl_X11_29 ff_11_3 rfl rfl rfl (g_sh_C (by omega) rfl) dX11_init_45 ?_
  refine g_aload_n dX11_init_48 rfl ?_
  refine g_bipush (v := 12) dX11_init_49 (by decide) ?_
  refine m_newa (id := 52) (N := 12) rfl (by decide) (by decide) (g_nx_C (by omega) rfl) (fun j => by simpa [g_set, g_sef, g_r_X9, g_m_X9, g_r_X7, ma_r, g_r_X8, g_r_X0] using hz (52) (by omega) j) ⟨(Nat.le_of_ble_eq_true rfl), (Nat.le_of_ble_eq_true rfl)⟩ dX11_init_51 ?_
  refine m_putF rfl fl_X11_33 ff_11_4 rfl rfl rfl (g_sh_C (by omega) rfl) dX11_init_53 ?_
  refine g_aload_n dX11_init_56 rfl ?_
  refine g_ic4 dX11_init_57 ?_
  refine m_newa (id := 53) (N := 4) rfl (by decide) (by decide) (g_nx_C (by omega) rfl) (fun j => by simpa [g_set, g_sef, g_r_X9, g_m_X9, g_r_X7, ma_r, g_r_X8, g_r_X0] using hz (53) (by omega) j) ⟨(Nat.le_of_ble_eq_true rfl), (Nat.le_of_ble_eq_true rfl)⟩ dX11_init_58 ?_
  refine g_dup dX11_init_60 rfl ?_
  refine g_ic0 dX11_init_61 ?_
  refine g_icm1 dX11_init_62 ?_
  refine m_iastc 0 (g_sh_C (by omega) rfl) rfl (by decide) (by decide) dX11_init_63 rfl ?_
  refine g_dup dX11_init_64 rfl ?_
  refine g_ic1 dX11_init_65 ?_
  refine g_icm1 dX11_init_66 ?_
  refine m_iastc 1 (g_sh_C (by omega) rfl) rfl (by decide) (by decide) dX11_init_67 rfl ?_
  refine g_dup dX11_init_68 rfl ?_
  refine g_ic2 dX11_init_69 ?_
  refine g_icm1 dX11_init_70 ?_
  refine m_iastc 2 (g_sh_C (by omega) rfl) rfl (by decide) (by decide) dX11_init_71 rfl ?_
  refine g_dup dX11_init_72 rfl ?_
  refine g_ic3 dX11_init_73 ?_
  refine g_icm1 dX11_init_74 ?_
  refine m_iastc 3 (g_sh_C (by omega) rfl) rfl (by decide) (by decide) dX11_init_75 rfl ?_
  refine m_putF rfl fl_X11_37 ff_11_5 rfl rfl rfl (g_sh_C (by omega) rfl) dX11_init_76 ?_
  refine g_aload_n dX11_init_79 rfl ?_
  refine g_ic4 dX11_init_80 ?_
  refine m_newa (id := 54) (N := 4) rfl (by decide) (by decide) (g_nx_C (by omega) rfl) (fun j => by simpa [g_set, g_sef, g_r_X9, g_m_X9, g_r_X7, ma_r, g_r_X8, g_r_X0] using hz (54) (by omega) j) ⟨(Nat.le_of_ble_eq_true rfl), (Nat.le_of_ble_eq_true rfl)⟩ dX11_init_81 ?_
  refine m_putF rfl fl_X11_40 ff_11_6 rfl rfl rfl (g_sh_C (by omega) rfl) dX11_init_83 ?_
  refine g_aload_n dX11_init_86 rfl ?_
  refine g_ic4 dX11_init_87 ?_
  refine g_bipush (v := 40) dX11_init_88 (by decide) ?_
  refine m_multi (id := 55) cl_X11_43 (g_nx_C (by omega) rfl) (fun i hi => by
    match i, hi with
    | 0, _ => exact g_nx_C (by omega) rfl
    | 1, _ => exact g_nx_C (by omega) rfl
    | 2, _ => exact g_nx_C (by omega) rfl
    | 3, _ => exact g_nx_C (by omega) rfl) (fun i hi => g_sh_C (by omega) rfl) (fun i hi j => by
    match i, hi with
    | 0, _ => simpa [g_set, g_sef, g_r_X9, g_m_X9, g_r_X7, ma_r, g_r_X8, g_r_X0] using hz 55 (by omega) j
    | 1, _ => simpa [g_set, g_sef, g_r_X9, g_m_X9, g_r_X7, ma_r, g_r_X8, g_r_X0] using hz 56 (by omega) j
    | 2, _ => simpa [g_set, g_sef, g_r_X9, g_m_X9, g_r_X7, ma_r, g_r_X8, g_r_X0] using hz 57 (by omega) j
    | 3, _ => simpa [g_set, g_sef, g_r_X9, g_m_X9, g_r_X7, ma_r, g_r_X8, g_r_X0] using hz 58 (by omega) j
    | 4, _ => simpa [g_set, g_sef, g_r_X9, g_m_X9, g_r_X7, ma_r, g_r_X8, g_r_X0] using hz 59 (by omega) j) ⟨(Nat.le_of_ble_eq_true rfl), (Nat.le_of_ble_eq_true rfl)⟩ dX11_init_90 ?_
  refine m_putF rfl fl_X11_45 ff_11_7 rfl rfl rfl (g_sh_C (by omega) rfl) dX11_init_94 ?_
  refine g_aload_n dX11_init_97 rfl ?_
  refine g_ic4 dX11_init_98 ?_
  refine m_newa (id := 60) (N := 4) rfl (by decide) (by decide) (g_nx_C (by omega) rfl) (fun j => by simpa [g_set, g_sef, g_r_X9, g_m_X9, g_r_X7, ma_r, g_r_X8, g_r_X0] using hz (60) (by omega) j) ⟨(Nat.le_of_ble_eq_true rfl), (Nat.le_of_ble_eq_true rfl)⟩ dX11_init_99 ?_
  refine g_dup dX11_init_101 rfl ?_
  refine g_ic0 dX11_init_102 ?_
  refine g_ic2 dX11_init_103 ?_
  refine m_iastc 0 (g_sh_C (by omega) rfl) rfl (by decide) (by decide) dX11_init_104 rfl ?_
  refine g_dup dX11_init_105 rfl ?_
  refine g_ic1 dX11_init_106 ?_
  refine g_ic2 dX11_init_107 ?_
  refine m_iastc 1 (g_sh_C (by omega) rfl) rfl (by decide) (by decide) dX11_init_108 rfl ?_
  refine g_dup dX11_init_109 rfl ?_
  refine g_ic2 dX11_init_110 ?_
  refine g_ic2 dX11_init_111 ?_
  refine m_iastc 2 (g_sh_C (by omega) rfl) rfl (by decide) (by decide) dX11_init_112 rfl ?_
  refine g_dup dX11_init_113 rfl ?_
  refine g_ic3 dX11_init_114 ?_
  refine g_ic2 dX11_init_115 ?_
  refine m_iastc 3 (g_sh_C (by omega) rfl) rfl (by decide) (by decide) dX11_init_116 rfl ?_
  refine m_putF rfl fl_X11_48 ff_11_8 rfl rfl rfl (g_sh_C (by omega) rfl) dX11_init_117 ?_
  refine g_aload_n dX11_init_120 rfl ?_
  refine g_ic4 dX11_init_121 ?_
  refine m_newa (id := 61) (N := 4) rfl (by decide) (by decide) (g_nx_C (by omega) rfl) (fun j => by simpa [g_set, g_sef, g_r_X9, g_m_X9, g_r_X7, ma_r, g_r_X8, g_r_X0] using hz (61) (by omega) j) ⟨(Nat.le_of_ble_eq_true rfl), (Nat.le_of_ble_eq_true rfl)⟩ dX11_init_122 ?_
  refine m_putF rfl fl_X11_51 ff_11_9 rfl rfl rfl (g_sh_C (by omega) rfl) dX11_init_124 ?_
  refine g_aload_n dX11_init_127 rfl ?_
  refine g_ic4 dX11_init_128 ?_
  refine m_newa (id := 62) (N := 4) rfl (by decide) (by decide) (g_nx_C (by omega) rfl) (fun j => by simpa [g_set, g_sef, g_r_X9, g_m_X9, g_r_X7, ma_r, g_r_X8, g_r_X0] using hz (62) (by omega) j) ⟨(Nat.le_of_ble_eq_true rfl), (Nat.le_of_ble_eq_true rfl)⟩ dX11_init_129 ?_
  refine m_putF rfl fl_X11_54 ff_11_10 rfl rfl rfl (g_sh_C (by omega) rfl) dX11_init_131 ?_
  exact g_vret rfl (Nat.le_of_ble_eq_true rfl) rfl dX11_init_134 ⟨rfl, rfl⟩
def g_r_X12 (ρ : g_R) : g_R := g_sef (g_sef (g_sef (g_sef (g_sef (g_sef (g_sef (g_sef (g_sef (g_sef (g_sef (g_sef (g_sef (g_sef (g_sef (g_sef (g_sef (g_sef (ρ) 0 0 (some (1))) 0 1 (some (2))) 0 3 (some (3))) 0 4 (some (4))) 0 6 (some (5))) 0 14 (some (6))) 0 16 (some (7))) 0 17 (some (8))) 0 20 (some (9))) 0 21 (some (10))) 0 31 (some (11))) 0 33 (some (12))) 0 34 (some (13))) 0 35 (some (14))) 0 36 (some (15))) 0 37 (some (16))) 0 38 (some (17))) 0 39 (some (18))
def g_m_X12 (μ : g_M) : g_M := g_set (g_set (g_set (g_set (g_set (g_set (μ) 12 0 (-1)) 12 1 (-1)) 12 2 (-1)) 12 3 (-1)) 1 2 (12)) 1 4 (1)
theorem k_X12_init {D : va_G} {cA : Nat → ClassId} {b : Nat} {μ : g_M} {ρ : g_R} (hz : ∀ i : Nat, 0 < i → ∀ j : Nat, μ i j = 0 ∧ ρ i j = none) : g_K (g_XC D cA b g_shM) yX12_init Y_X12_init 1 18 2270 1 [.ref 0] (μ, ρ) (g_Qn (g_m_X12 μ) (g_r_X12 ρ)) := by
  refine g_met (y := yX12_init) 0 (by decide) rfl rfl (Nat.le_of_ble_eq_true rfl) ?_
  refine g_aload_n dX12_init_0 rfl ?_
  refine g_oinit mj_X12_1 (Nat.le_of_ble_eq_true rfl) (Nat.le_of_ble_eq_true rfl) dX12_init_1 ?_
  refine g_aload_n dX12_init_4 rfl ?_
  refine g_sipush (v := 544) dX12_init_5 (by decide) ?_
  refine m_newa (id := 1) (N := 544) rfl (by decide) (by decide) (g_nx_C (by omega) rfl) (fun j => by simpa [g_set, g_sef] using hz (1) (by omega) j) ⟨(Nat.le_of_ble_eq_true rfl), (Nat.le_of_ble_eq_true rfl)⟩ dX12_init_8 ?_
  refine m_putF rfl fl_X12_7 ff_12_0 rfl rfl rfl (g_sh_C (by omega) rfl) dX12_init_10 ?_
  refine g_aload_n dX12_init_13 rfl ?_
  refine g_sipush (v := 544) dX12_init_14 (by decide) ?_
  refine m_newa (id := 2) (N := 544) rfl (by decide) (by decide) (g_nx_C (by omega) rfl) (fun j => by simpa [g_set, g_sef] using hz (2) (by omega) j) ⟨(Nat.le_of_ble_eq_true rfl), (Nat.le_of_ble_eq_true rfl)⟩ dX12_init_17 ?_
  refine m_putF rfl fl_X12_13 ff_12_1 rfl rfl rfl (g_sh_C (by omega) rfl) dX12_init_19 ?_
  refine g_aload_n dX12_init_22 rfl ?_
  refine g_sipush (v := 190) dX12_init_23 (by decide) ?_
  refine m_newa (id := 3) (N := 190) rfl (by decide) (by decide) (g_nx_C (by omega) rfl) (fun j => by simpa [g_set, g_sef] using hz (3) (by omega) j) ⟨(Nat.le_of_ble_eq_true rfl), (Nat.le_of_ble_eq_true rfl)⟩ dX12_init_26 ?_
  refine m_putF rfl fl_X12_16 ff_12_3 rfl rfl rfl (g_sh_C (by omega) rfl) dX12_init_28 ?_
  refine g_aload_n dX12_init_31 rfl ?_
  refine g_sipush (v := 200) dX12_init_32 (by decide) ?_
  refine m_newa (id := 4) (N := 200) rfl (by decide) (by decide) (g_nx_C (by omega) rfl) (fun j => by simpa [g_set, g_sef] using hz (4) (by omega) j) ⟨(Nat.le_of_ble_eq_true rfl), (Nat.le_of_ble_eq_true rfl)⟩ dX12_init_35 ?_
  refine m_putF rfl fl_X12_19 ff_12_4 rfl rfl rfl (g_sh_C (by omega) rfl) dX12_init_37 ?_
  refine g_aload_n dX12_init_40 rfl ?_
  refine g_bipush (v := 6) dX12_init_41 (by decide) ?_
  refine m_newa (id := 5) (N := 6) rfl (by decide) (by decide) (g_nx_C (by omega) rfl) (fun j => by simpa [g_set, g_sef] using hz (5) (by omega) j) ⟨(Nat.le_of_ble_eq_true rfl), (Nat.le_of_ble_eq_true rfl)⟩ dX12_init_43 ?_
  refine m_putF rfl fl_X12_22 ff_12_6 rfl rfl rfl (g_sh_C (by omega) rfl) dX12_init_45 ?_
  refine g_aload_n dX12_init_48 rfl ?_
  refine g_sipush (v := 544) dX12_init_49 (by decide) ?_
  refine m_newa (id := 6) (N := 544) rfl (by decide) (by decide) (g_nx_C (by omega) rfl) (fun j => by simpa [g_set, g_sef] using hz (6) (by omega) j) ⟨(Nat.le_of_ble_eq_true rfl), (Nat.le_of_ble_eq_true rfl)⟩ dX12_init_52 ?_
  refine m_putF rfl fl_X12_25 ff_12_14 rfl rfl rfl (g_sh_C (by omega) rfl) dX12_init_54 ?_
  refine g_aload_n dX12_init_57 rfl ?_
  refine g_bipush (v := 6) dX12_init_58 (by decide) ?_
  refine m_newa (id := 7) (N := 6) rfl (by decide) (by decide) (g_nx_C (by omega) rfl) (fun j => by simpa [g_set, g_sef] using hz (7) (by omega) j) ⟨(Nat.le_of_ble_eq_true rfl), (Nat.le_of_ble_eq_true rfl)⟩ dX12_init_60 ?_
  refine m_putF rfl fl_X12_28 ff_12_16 rfl rfl rfl (g_sh_C (by omega) rfl) dX12_init_62 ?_
  refine g_aload_n dX12_init_65 rfl ?_
  refine g_bipush (v := 6) dX12_init_66 (by decide) ?_
  refine m_newa (id := 8) (N := 6) rfl (by decide) (by decide) (g_nx_C (by omega) rfl) (fun j => by simpa [g_set, g_sef] using hz (8) (by omega) j) ⟨(Nat.le_of_ble_eq_true rfl), (Nat.le_of_ble_eq_true rfl)⟩ dX12_init_68 ?_
  refine m_putF rfl fl_X12_31 ff_12_17 rfl rfl rfl (g_sh_C (by omega) rfl) dX12_init_70 ?_
  refine g_aload_n dX12_init_73 rfl ?_
  refine g_ic4 dX12_init_74 ?_
  refine m_newa (id := 9) (N := 4) rfl (by decide) (by decide) (g_nx_C (by omega) rfl) (fun j => by simpa [g_set, g_sef] using hz (9) (by omega) j) ⟨(Nat.le_of_ble_eq_true rfl), (Nat.le_of_ble_eq_true rfl)⟩ dX12_init_75 ?_
  refine m_putF rfl fl_X12_34 ff_12_20 rfl rfl rfl (g_sh_C (by omega) rfl) dX12_init_77 ?_
  refine g_aload_n dX12_init_80 rfl ?_
  refine g_ic4 dX12_init_81 ?_
  refine m_newa (id := 10) (N := 4) rfl (by decide) (by decide) (g_nx_C (by omega) rfl) (fun j => by simpa [g_set, g_sef] using hz (10) (by omega) j) ⟨(Nat.le_of_ble_eq_true rfl), (Nat.le_of_ble_eq_true rfl)⟩ dX12_init_82 ?_
  refine m_putF rfl fl_X12_37 ff_12_21 rfl rfl rfl (g_sh_C (by omega) rfl) dX12_init_84 ?_
  refine g_aload_n dX12_init_87 rfl ?_
  refine g_bipush (v := 12) dX12_init_88 (by decide) ?_
  refine m_newa (id := 11) (N := 12) rfl (by decide) (by decide) (g_nx_C (by omega) rfl) (fun j => by simpa [g_set, g_sef] using hz (11) (by omega) j) ⟨(Nat.le_of_ble_eq_true rfl), (Nat.le_of_ble_eq_true rfl)⟩ dX12_init_90 ?_
  refine m_putF rfl fl_X12_40 ff_12_31 rfl rfl rfl (g_sh_C (by omega) rfl) dX12_init_92 ?_
  refine g_aload_n dX12_init_95 rfl ?_
  refine g_ic4 dX12_init_96 ?_
  refine m_newa (id := 12) (N := 4) rfl (by decide) (by decide) (g_nx_C (by omega) rfl) (fun j => by simpa [g_set, g_sef] using hz (12) (by omega) j) ⟨(Nat.le_of_ble_eq_true rfl), (Nat.le_of_ble_eq_true rfl)⟩ dX12_init_97 ?_
  refine g_dup dX12_init_99 rfl ?_
  refine g_ic0 dX12_init_100 ?_
  refine g_icm1 dX12_init_101 ?_
  refine m_iastc 0 (g_sh_C (by omega) rfl) rfl (by decide) (by decide) dX12_init_102 rfl ?_
  refine g_dup dX12_init_103 rfl ?_
  refine g_ic1 dX12_init_104 ?_
  refine g_icm1 dX12_init_105 ?_
  refine m_iastc 1 (g_sh_C (by omega) rfl) rfl (by decide) (by decide) dX12_init_106 rfl ?_
  refine g_dup dX12_init_107 rfl ?_
  refine g_ic2 dX12_init_108 ?_
  refine g_icm1 dX12_init_109 ?_
  refine m_iastc 2 (g_sh_C (by omega) rfl) rfl (by decide) (by decide) dX12_init_110 rfl ?_
  refine g_dup dX12_init_111 rfl ?_
  refine g_ic3 dX12_init_112 ?_
  refine g_icm1 dX12_init_113 ?_
  refine m_iastc 3 (g_sh_C (by omega) rfl) rfl (by decide) (by decide) dX12_init_114 rfl ?_
  refine m_putF rfl fl_X12_43 ff_12_33 rfl rfl rfl (g_sh_C (by omega) rfl) dX12_init_115 ?_
  refine g_aload_n dX12_init_118 rfl ?_
  refine g_ic4 dX12_init_119 ?_
  refine m_newa (id := 13) (N := 4) rfl (by decide) (by decide) (g_nx_C (by omega) rfl) (fun j => by simpa [g_set, g_sef] using hz (13) (by omega) j) ⟨(Nat.le_of_ble_eq_true rfl), (Nat.le_of_ble_eq_true rfl)⟩ dX12_init_120 ?_
  refine m_putF rfl fl_X12_46 ff_12_34 rfl rfl rfl (g_sh_C (by omega) rfl) dX12_init_122 ?_
  refine g_aload_n dX12_init_125 rfl ?_
  refine g_sipush (v := 160) dX12_init_126 (by decide) ?_
  refine m_newa (id := 14) (N := 160) rfl (by decide) (by decide) (g_nx_C (by omega) rfl) (fun j => by simpa [g_set, g_sef] using hz (14) (by omega) j) ⟨(Nat.le_of_ble_eq_true rfl), (Nat.le_of_ble_eq_true rfl)⟩ dX12_init_129 ?_
  refine m_putF rfl fl_X12_49 ff_12_35 rfl rfl rfl (g_sh_C (by omega) rfl) dX12_init_131 ?_
  refine g_aload_n dX12_init_134 rfl ?_
  refine g_ic4 dX12_init_135 ?_
  refine m_newa (id := 15) (N := 4) rfl (by decide) (by decide) (g_nx_C (by omega) rfl) (fun j => by simpa [g_set, g_sef] using hz (15) (by omega) j) ⟨(Nat.le_of_ble_eq_true rfl), (Nat.le_of_ble_eq_true rfl)⟩ dX12_init_136 ?_
  refine m_putF rfl fl_X12_52 ff_12_36 rfl rfl rfl (g_sh_C (by omega) rfl) dX12_init_138 ?_
  refine g_aload_n dX12_init_141 rfl ?_
  refine g_ic4 dX12_init_142 ?_
  refine m_newa (id := 16) (N := 4) rfl (by decide) (by decide) (g_nx_C (by omega) rfl) (fun j => by simpa [g_set, g_sef] using hz (16) (by omega) j) ⟨(Nat.le_of_ble_eq_true rfl), (Nat.le_of_ble_eq_true rfl)⟩ dX12_init_143 ?_
  refine m_putF rfl fl_X12_55 ff_12_37 rfl rfl rfl (g_sh_C (by omega) rfl) dX12_init_145 ?_
  refine g_aload_n dX12_init_148 rfl ?_
  refine g_ic4 dX12_init_149 ?_
  refine m_newa (id := 17) (N := 4) rfl (by decide) (by decide) (g_nx_C (by omega) rfl) (fun j => by simpa [g_set, g_sef] using hz (17) (by omega) j) ⟨(Nat.le_of_ble_eq_true rfl), (Nat.le_of_ble_eq_true rfl)⟩ dX12_init_150 ?_
  refine m_putF rfl fl_X12_58 ff_12_38 rfl rfl rfl (g_sh_C (by omega) rfl) dX12_init_152 ?_
  refine g_aload_n dX12_init_155 rfl ?_
  refine g_bipush (v := 30) dX12_init_156 (by decide) ?_
  refine m_newa (id := 18) (N := 30) rfl (by decide) (by decide) (g_nx_C (by omega) rfl) (fun j => by simpa [g_set, g_sef] using hz (18) (by omega) j) ⟨(Nat.le_of_ble_eq_true rfl), (Nat.le_of_ble_eq_true rfl)⟩ dX12_init_158 ?_
  refine m_putF rfl fl_X12_61 ff_12_39 rfl rfl rfl (g_sh_C (by omega) rfl) dX12_init_160 ?_
  refine g_aload_n dX12_init_163 rfl ?_
  refine m_getR (r := 1) fl_X12_7 rfl (g_sh_C (by omega) rfl) (by simp [g_set, g_sef]) dX12_init_164 ?_
  refine g_ic2 dX12_init_167 ?_
  refine g_bipush (v := 12) dX12_init_168 (by decide) ?_
  refine m_iastc 2 (g_sh_C (by omega) rfl) rfl (by decide) (by decide) dX12_init_170 rfl ?_
  refine g_aload_n dX12_init_171 rfl ?_
  refine m_getR (r := 1) fl_X12_7 rfl (g_sh_C (by omega) rfl) (by simp [g_set, g_sef]) dX12_init_172 ?_
  refine g_ic4 dX12_init_175 ?_
  refine g_ic1 dX12_init_176 ?_
  refine m_iastc 4 (g_sh_C (by omega) rfl) rfl (by decide) (by decide) dX12_init_177 rfl ?_
  exact g_vret rfl (Nat.le_of_ble_eq_true rfl) rfl dX12_init_178 ⟨rfl, rfl⟩
