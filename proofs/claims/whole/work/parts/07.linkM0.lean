set_option maxRecDepth 100000 in
set_option maxHeartbeats 4000000 in
theorem k_X12_isIn {D : va_G} {cA : Nat → ClassId} {b k : Nat} {a1 : Int64} {a2 : Int64} {a3 : Int64} {μ : g_M} {z : Int32} (h : f_X12_isIn a1 a2 a3 = z) : g_K (g_XM D cA b) yX12_isIn Y_X12_isIn 1 0 0 k [.long a1, .long a2, .long a3] (μ, g_rfM) (fun r1 σ1 => r1 = some (.int z) ∧ σ1 = (μ, g_rfM)) := by
  unfold f_X12_isIn at h
  refine g_met 0 (by decide) rfl rfl (Nat.le_of_ble_eq_true rfl) ?_
  refine g_lload_n dX12_isIn_0 rfl ?_
  refine g_lload_n dX12_isIn_1 rfl ?_
  refine g_lcmp dX12_isIn_2 ?_
  refine g_if_lt 17 (by decide) dX12_isIn_3 (fun c1 => ?_) (fun c1 => ?_)
  · have h := g_ifp c1 h
    refine g_ic0 dX12_isIn_17 ?_
    subst h
    exact g_zret rfl (Nat.le_refl _) rfl rfl dX12_isIn_18 ⟨rfl, rfl⟩
  · have h := g_ifn c1 h
    refine g_lload_n dX12_isIn_6 rfl ?_
    refine g_lload dX12_isIn_7 rfl ?_
    refine g_lcmp dX12_isIn_9 ?_
    refine g_if_gt 17 (by decide) dX12_isIn_10 (fun c2 => ?_) (fun c2 => ?_)
    · have h := g_ifp c2 h
      refine g_ic0 dX12_isIn_17 ?_
      subst h
      exact g_zret rfl (Nat.le_refl _) rfl rfl dX12_isIn_18 ⟨rfl, rfl⟩
    · have h := g_ifn c2 h
      refine g_ic1 dX12_isIn_13 ?_
      refine g_goto 18 (by decide) dX12_isIn_14 ?_
      subst h
      exact g_zret rfl (Nat.le_refl _) rfl rfl dX12_isIn_18 ⟨rfl, rfl⟩
set_option maxRecDepth 100000 in
set_option maxHeartbeats 4000000 in
theorem zb_X12_isIn (a1 : Int64) (a2 : Int64) (a3 : Int64) : narrow .boolean (.int (f_X12_isIn a1 a2 a3)) = .int (f_X12_isIn a1 a2 a3) := by
  unfold f_X12_isIn
  repeat' split
  all_goals first | rfl | rfl
set_option maxRecDepth 100000 in
set_option maxHeartbeats 4000000 in
theorem k_X12_isOven {D : va_G} {cA : Nat → ClassId} {b k : Nat} {a1 : Int32} {μ : g_M} {z : Int32} (h : f_X12_isOven a1 μ = z) : g_K (g_XM D cA b) yX12_isOven Y_X12_isOven 1 0 0 k [.ref 0, .int a1] (μ, g_rfM) (fun r1 σ1 => r1 = some (.int z) ∧ σ1 = (μ, g_rfM)) := by
  unfold f_X12_isOven at h
  refine g_met 0 (by decide) rfl rfl (Nat.le_of_ble_eq_true rfl) ?_
  refine g_iload_n dX12_isOven_0 rfl ?_
  refine g_if_lt 18 (by decide) dX12_isOven_1 (fun c1 => ?_) (fun c1 => ?_)
  · have h := g_ifp c1 h
    refine g_ic0 dX12_isOven_18 ?_
    subst h
    exact g_zret rfl (Nat.le_refl _) rfl rfl dX12_isOven_19 ⟨rfl, rfl⟩
  · have h := g_ifn c1 h
    refine g_iload_n dX12_isOven_4 rfl ?_
    refine g_aload_n dX12_isOven_5 rfl ?_
    refine m_getR fl_X12_7 rfl rfl rfl dX12_isOven_6 ?_
    refine g_ic0 dX12_isOven_9 ?_
    refine m_ialdc 0 rfl rfl (by decide) (by decide) dX12_isOven_10 ?_
    refine g_icmp_ge 18 (by decide) dX12_isOven_11 (fun c2 => ?_) (fun c2 => ?_)
    · have h := g_ifp c2 h
      refine g_ic0 dX12_isOven_18 ?_
      subst h
      exact g_zret rfl (Nat.le_refl _) rfl rfl dX12_isOven_19 ⟨rfl, rfl⟩
    · have h := g_ifn c2 h
      refine g_ic1 dX12_isOven_14 ?_
      refine g_goto 19 (by decide) dX12_isOven_15 ?_
      subst h
      exact g_zret rfl (Nat.le_refl _) rfl rfl dX12_isOven_19 ⟨rfl, rfl⟩
set_option maxRecDepth 100000 in
set_option maxHeartbeats 4000000 in
theorem zb_X12_isOven (a1 : Int32) (μ : g_M) : narrow .boolean (.int (f_X12_isOven a1 μ)) = .int (f_X12_isOven a1 μ) := by
  unfold f_X12_isOven
  repeat' split
  all_goals first | rfl | rfl
set_option maxRecDepth 100000 in
set_option maxHeartbeats 4000000 in
theorem k_X12_its {D : va_G} {cA : Nat → ClassId} {b k : Nat} {a1 : Int32} {a2 : Int32} {μ : g_M} {z : Int32} (h : f_X12_its a1 a2 μ = some z) : g_K (g_XM D cA b) yX12_its Y_X12_its 1 0 0 k [.ref 0, .int a1, .int a2] (μ, g_rfM) (fun r1 σ1 => r1 = some (.int z) ∧ σ1 = (μ, g_rfM)) := by
  unfold f_X12_its at h
  refine g_met 0 (by decide) rfl rfl (Nat.le_of_ble_eq_true rfl) ?_
  refine g_aload_n dX12_its_0 rfl ?_
  refine m_getR fl_X12_7 rfl rfl rfl dX12_its_1 ?_
  refine g_bipush (v := 8) dX12_its_4 (by decide) ?_
  refine g_ic5 dX12_its_6 ?_
  refine g_iload_n dX12_its_7 rfl ?_
  refine g_imul dX12_its_8 ?_
  refine g_iadd dX12_its_9 ?_
  refine g_iload_n dX12_its_10 rfl ?_
  refine g_iadd dX12_its_11 ?_
  obtain ⟨x1, qx1, h⟩ := g_bind h
  refine m_iald rfl qx1 dX12_its_12 ?_
  obtain rfl := Option.some.inj h
  exact g_iret rfl (Nat.le_refl _) rfl dX12_its_13 ⟨rfl, rfl⟩
set_option maxRecDepth 100000 in
set_option maxHeartbeats 4000000 in
theorem k_X12_becomes {D : va_G} {cA : Nat → ClassId} {b k : Nat} {a1 : Int32} {a2 : Int32} {μ : g_M} {z : Int32 × g_M} (h : f_X12_becomes a1 a2 μ = some z) : g_K (g_XM D cA b) yX12_becomes Y_X12_becomes 1 0 0 k [.ref 0, .int a1, .int a2] (μ, g_rfM) (fun r1 σ1 => r1 = some (.int z.1) ∧ σ1 = (z.2, g_rfM)) := by
  unfold f_X12_becomes at h
  refine g_met 1 (by decide) rfl rfl (Nat.le_of_ble_eq_true rfl) ?_
  refine g_aload_n dX12_becomes_0 rfl ?_
  refine m_getR fl_X12_7 rfl rfl rfl dX12_becomes_1 ?_
  refine g_iload_n dX12_becomes_4 rfl ?_
  obtain ⟨x1, qx1, h⟩ := g_bind h
  refine m_iald rfl qx1 dX12_becomes_5 ?_
  refine g_istore_3 rfl (Nat.le_of_ble_eq_true rfl) dX12_becomes_6 ?_
  refine g_aload_n dX12_becomes_7 rfl ?_
  refine m_getR fl_X12_7 rfl rfl rfl dX12_becomes_8 ?_
  refine g_iload_n dX12_becomes_11 rfl ?_
  refine g_iload_n dX12_becomes_12 rfl ?_
  obtain ⟨μ2, qμ2, h⟩ := g_bind h
  refine m_iast rfl qμ2 dX12_becomes_13 ?_
  refine g_iload_n dX12_becomes_14 rfl ?_
  obtain rfl := Option.some.inj h
  exact g_iret rfl (Nat.le_refl _) rfl dX12_becomes_15 ⟨rfl, rfl⟩
set_option maxRecDepth 100000 in
set_option maxHeartbeats 4000000 in
theorem k_X12_laysAside_L2 {D : va_G} {cA : Nat → ClassId} {b k : Nat} {Q : Option Value → g_S → Prop} {N : Nat} : ∀ (n : Nat) (x_1 : Int32) (x_2 : Int32) (μ : g_M) (z_μ : g_M), f_X12_laysAside_L2 N n x_1 x_2 μ = some z_μ → g_V (g_XM D cA b) Y_X12_laysAside 1 0 0 Q k 0 0 31 [none, none, none] [] (z_μ, g_rfM) → g_V (g_XM D cA b) Y_X12_laysAside 1 0 0 Q k 0 0 2 [some (.ref 0), some (.int x_1), some (.int x_2)] [] (μ, g_rfM) := by
  intro n
  induction n with
  | zero =>
    intro x_1 x_2 μ z_μ h
    rw [f_X12_laysAside_L2] at h
    cases h
  | succ n ih =>
    intro x_1 x_2 μ z_μ h hc
    rw [f_X12_laysAside_L2] at h
    refine g_iload_n dX12_laysAside_2 rfl ?_
    refine g_bipush (v := 38) dX12_laysAside_3 (by decide) ?_
    refine g_icmp_ge 31 (by decide) dX12_laysAside_5 (fun c1 => ?_) (fun c1 => ?_)
    · have h := g_ifp c1 h
      obtain rfl := Option.some.inj h
      exact g_less _ (g_subN (g_subN (g_subN g_sub0))) hc
    · have h := g_ifn c1 h
      refine g_aload_n dX12_laysAside_8 rfl ?_
      refine m_getR fl_X12_16 rfl rfl rfl dX12_laysAside_9 ?_
      refine g_bipush (v := 38) dX12_laysAside_12 (by decide) ?_
      refine g_iload_n dX12_laysAside_14 rfl ?_
      refine g_imul dX12_laysAside_15 ?_
      refine g_iload_n dX12_laysAside_16 rfl ?_
      refine g_iadd dX12_laysAside_17 ?_
      refine g_aload_n dX12_laysAside_18 rfl ?_
      refine m_getR fl_X12_7 rfl rfl rfl dX12_laysAside_19 ?_
      refine g_iload_n dX12_laysAside_22 rfl ?_
      obtain ⟨x2, qx2, h⟩ := g_bind h
      refine m_iald rfl qx2 dX12_laysAside_23 ?_
      obtain ⟨μ3, qμ3, h⟩ := g_bind h
      refine m_iast rfl qμ3 dX12_laysAside_24 ?_
      refine g_iinc_2 (v := 1) rfl (by decide) (Nat.le_of_ble_eq_true rfl) dX12_laysAside_25 ?_
      refine g_goto 2 (by decide) dX12_laysAside_28 ?_
      exact g_less _ (g_subS (g_subS (g_subS g_sub0))) (ih _ _ _ _ h hc)
set_option maxRecDepth 100000 in
set_option maxHeartbeats 4000000 in
theorem k_X12_laysAside {D : va_G} {cA : Nat → ClassId} {b k : Nat} {N : Nat} {a1 : Int32} {μ : g_M} {z : g_M} (h : f_X12_laysAside N a1 μ = some z) : g_K (g_XM D cA b) yX12_laysAside Y_X12_laysAside 1 0 0 k [.ref 0, .int a1] (μ, g_rfM) (fun r1 σ1 => r1 = none ∧ σ1 = (z, g_rfM)) := by
  unfold f_X12_laysAside at h
  refine g_met 1 (by decide) rfl rfl (Nat.le_of_ble_eq_true rfl) ?_
  refine g_ic0 dX12_laysAside_0 ?_
  refine g_istore_2 rfl (Nat.le_of_ble_eq_true rfl) dX12_laysAside_1 ?_
  obtain ⟨μ1, q2, h⟩ := g_bind h
  refine g_less _ (g_subS (g_subS (g_subS g_sub0))) (k_X12_laysAside_L2 _ _ _ _ _ q2 ?_)
  obtain rfl := Option.some.inj h
  exact g_vret rfl (Nat.le_refl _) rfl dX12_laysAside_31 ⟨rfl, rfl⟩
set_option maxRecDepth 100000 in
set_option maxHeartbeats 4000000 in
theorem k_X12_laysBack_L2 {D : va_G} {cA : Nat → ClassId} {b k : Nat} {Q : Option Value → g_S → Prop} {N : Nat} : ∀ (n : Nat) (x_1 : Int32) (x_2 : Int32) (μ : g_M) (z_μ : g_M), f_X12_laysBack_L2 N n x_1 x_2 μ = some z_μ → g_V (g_XM D cA b) Y_X12_laysBack 1 0 0 Q k 0 0 31 [none, none, none] [] (z_μ, g_rfM) → g_V (g_XM D cA b) Y_X12_laysBack 1 0 0 Q k 0 0 2 [some (.ref 0), some (.int x_1), some (.int x_2)] [] (μ, g_rfM) := by
  intro n
  induction n with
  | zero =>
    intro x_1 x_2 μ z_μ h
    rw [f_X12_laysBack_L2] at h
    cases h
  | succ n ih =>
    intro x_1 x_2 μ z_μ h hc
    rw [f_X12_laysBack_L2] at h
    refine g_iload_n dX12_laysBack_2 rfl ?_
    refine g_bipush (v := 38) dX12_laysBack_3 (by decide) ?_
    refine g_icmp_ge 31 (by decide) dX12_laysBack_5 (fun c1 => ?_) (fun c1 => ?_)
    · have h := g_ifp c1 h
      obtain rfl := Option.some.inj h
      exact g_less _ (g_subN (g_subN (g_subN g_sub0))) hc
    · have h := g_ifn c1 h
      refine g_aload_n dX12_laysBack_8 rfl ?_
      refine m_getR fl_X12_7 rfl rfl rfl dX12_laysBack_9 ?_
      refine g_iload_n dX12_laysBack_12 rfl ?_
      refine g_aload_n dX12_laysBack_13 rfl ?_
      refine m_getR fl_X12_16 rfl rfl rfl dX12_laysBack_14 ?_
      refine g_bipush (v := 38) dX12_laysBack_17 (by decide) ?_
      refine g_iload_n dX12_laysBack_19 rfl ?_
      refine g_imul dX12_laysBack_20 ?_
      refine g_iload_n dX12_laysBack_21 rfl ?_
      refine g_iadd dX12_laysBack_22 ?_
      obtain ⟨x2, qx2, h⟩ := g_bind h
      refine m_iald rfl qx2 dX12_laysBack_23 ?_
      obtain ⟨μ3, qμ3, h⟩ := g_bind h
      refine m_iast rfl qμ3 dX12_laysBack_24 ?_
      refine g_iinc_2 (v := 1) rfl (by decide) (Nat.le_of_ble_eq_true rfl) dX12_laysBack_25 ?_
      refine g_goto 2 (by decide) dX12_laysBack_28 ?_
      exact g_less _ (g_subS (g_subS (g_subS g_sub0))) (ih _ _ _ _ h hc)
set_option maxRecDepth 100000 in
set_option maxHeartbeats 4000000 in
theorem k_X12_laysBack {D : va_G} {cA : Nat → ClassId} {b k : Nat} {N : Nat} {a1 : Int32} {μ : g_M} {z : g_M} (h : f_X12_laysBack N a1 μ = some z) : g_K (g_XM D cA b) yX12_laysBack Y_X12_laysBack 1 0 0 k [.ref 0, .int a1] (μ, g_rfM) (fun r1 σ1 => r1 = none ∧ σ1 = (z, g_rfM)) := by
  unfold f_X12_laysBack at h
  refine g_met 1 (by decide) rfl rfl (Nat.le_of_ble_eq_true rfl) ?_
  refine g_ic0 dX12_laysBack_0 ?_
  refine g_istore_2 rfl (Nat.le_of_ble_eq_true rfl) dX12_laysBack_1 ?_
  obtain ⟨μ1, q2, h⟩ := g_bind h
  refine g_less _ (g_subS (g_subS (g_subS g_sub0))) (k_X12_laysBack_L2 _ _ _ _ _ q2 ?_)
  obtain rfl := Option.some.inj h
  exact g_vret rfl (Nat.le_refl _) rfl dX12_laysBack_31 ⟨rfl, rfl⟩
set_option maxRecDepth 100000 in
set_option maxHeartbeats 4000000 in
theorem k_X12_isOver {D : va_G} {cA : Nat → ClassId} {b k : Nat} {μ : g_M} {z : Int32} (h : f_X12_isOver μ = z) : g_K (g_XM D cA b) yX12_isOver Y_X12_isOver 1 0 0 k [.ref 0] (μ, g_rfM) (fun r1 σ1 => r1 = some (.int z) ∧ σ1 = (μ, g_rfM)) := by
  unfold f_X12_isOver at h
  refine g_met 0 (by decide) rfl rfl (Nat.le_of_ble_eq_true rfl) ?_
  refine g_aload_n dX12_isOver_0 rfl ?_
  refine m_getR fl_X12_7 rfl rfl rfl dX12_isOver_1 ?_
  refine g_ic1 dX12_isOver_4 ?_
  refine m_ialdc 1 rfl rfl (by decide) (by decide) dX12_isOver_5 ?_
  refine g_aload_n dX12_isOver_6 rfl ?_
  refine m_getR fl_X12_7 rfl rfl rfl dX12_isOver_7 ?_
  refine g_ic2 dX12_isOver_10 ?_
  refine m_ialdc 2 rfl rfl (by decide) (by decide) dX12_isOver_11 ?_
  refine g_icmp_lt 19 (by decide) dX12_isOver_12 (fun c1 => ?_) (fun c1 => ?_)
  · have h := g_ifp c1 h
    refine g_ic0 dX12_isOver_19 ?_
    subst h
    exact g_zret rfl (Nat.le_refl _) rfl rfl dX12_isOver_20 ⟨rfl, rfl⟩
  · have h := g_ifn c1 h
    refine g_ic1 dX12_isOver_15 ?_
    refine g_goto 20 (by decide) dX12_isOver_16 ?_
    subst h
    exact g_zret rfl (Nat.le_refl _) rfl rfl dX12_isOver_20 ⟨rfl, rfl⟩
set_option maxRecDepth 100000 in
set_option maxHeartbeats 4000000 in
theorem zb_X12_isOver (μ : g_M) : narrow .boolean (.int (f_X12_isOver μ)) = .int (f_X12_isOver μ) := by
  unfold f_X12_isOver
  repeat' split
  all_goals first | rfl | rfl
set_option maxRecDepth 100000 in
set_option maxHeartbeats 4000000 in
theorem k_X12_oven {D : va_G} {cA : Nat → ClassId} {b k : Nat} {a1 : Int32} {a2 : Int32} {a3 : Int32} {a4 : Int32} {μ : g_M} {z : Int32 × g_M} (h : f_X12_oven a1 a2 a3 a4 μ = some z) : g_K (g_XM D cA b) yX12_oven Y_X12_oven 2 0 0 k [.ref 0, .int a1, .int a2, .int a3, .int a4] (μ, g_rfM) (fun r1 σ1 => r1 = some (.int z.1) ∧ σ1 = (z.2, g_rfM)) := by
  unfold f_X12_oven at h
  refine g_met 1 (by decide) rfl rfl (Nat.le_of_ble_eq_true rfl) ?_
  refine g_iload_n dX12_oven_0 rfl ?_
  refine g_i2l dX12_oven_1 ?_
  refine g_lc1 dX12_oven_2 ?_
  refine g_ldc2 kc_X12_64 dX12_oven_3 ?_
  refine m_cS mt_X12_isIn ml_X12_66 ms_X12_isIn dX12_oven_6 (k_X12_isIn rfl) rfl rfl (by decide) ⟨Nat.le_refl _, Nat.le_refl _⟩ (Nat.le_of_ble_eq_true rfl) ?_
  refine g_if_eq 49 (by decide) dX12_oven_9 (fun c1 => ?_) (fun c1 => ?_)
  · have h := g_ifp c1 h
    refine g_icm1 dX12_oven_49 ?_
    obtain rfl := Option.some.inj h
    exact g_iret rfl (Nat.le_refl _) rfl dX12_oven_50 ⟨rfl, rfl⟩
  · have h := g_ifn c1 h
    refine g_iload_n dX12_oven_12 rfl ?_
    refine g_i2l dX12_oven_13 ?_
    refine g_lc0 dX12_oven_14 ?_
    refine g_ldc2 kc_X12_70 dX12_oven_15 ?_
    refine m_cS mt_X12_isIn ml_X12_66 ms_X12_isIn dX12_oven_18 (k_X12_isIn rfl) rfl rfl (by decide) ⟨Nat.le_refl _, Nat.le_refl _⟩ (Nat.le_of_ble_eq_true rfl) ?_
    refine g_if_eq 49 (by decide) dX12_oven_21 (fun c2 => ?_) (fun c2 => ?_)
    · have h := g_ifp c2 h
      refine g_icm1 dX12_oven_49 ?_
      obtain rfl := Option.some.inj h
      exact g_iret rfl (Nat.le_refl _) rfl dX12_oven_50 ⟨rfl, rfl⟩
    · have h := g_ifn c2 h
      refine g_iload_n dX12_oven_24 rfl ?_
      refine g_i2l dX12_oven_25 ?_
      refine g_lc0 dX12_oven_26 ?_
      refine g_ldc2 kc_X12_72 dX12_oven_27 ?_
      refine m_cS mt_X12_isIn ml_X12_66 ms_X12_isIn dX12_oven_30 (k_X12_isIn rfl) rfl rfl (by decide) ⟨Nat.le_refl _, Nat.le_refl _⟩ (Nat.le_of_ble_eq_true rfl) ?_
      refine g_if_eq 49 (by decide) dX12_oven_33 (fun c3 => ?_) (fun c3 => ?_)
      · have h := g_ifp c3 h
        refine g_icm1 dX12_oven_49 ?_
        obtain rfl := Option.some.inj h
        exact g_iret rfl (Nat.le_refl _) rfl dX12_oven_50 ⟨rfl, rfl⟩
      · have h := g_ifn c3 h
        refine g_iload dX12_oven_36 rfl ?_
        refine g_i2l dX12_oven_38 ?_
        refine g_lc1 dX12_oven_39 ?_
        refine g_ldc2 kc_X12_70 dX12_oven_40 ?_
        refine m_cS mt_X12_isIn ml_X12_66 ms_X12_isIn dX12_oven_43 (k_X12_isIn rfl) rfl rfl (by decide) ⟨Nat.le_refl _, Nat.le_refl _⟩ (Nat.le_of_ble_eq_true rfl) ?_
        refine g_if_ne 51 (by decide) dX12_oven_46 (fun c4 => ?_) (fun c4 => ?_)
        · have h := g_ifn c4 h
          refine g_aload_n dX12_oven_51 rfl ?_
          refine m_getR fl_X12_7 rfl rfl rfl dX12_oven_52 ?_
          refine g_ic0 dX12_oven_55 ?_
          refine m_ialdc 0 rfl rfl (by decide) (by decide) dX12_oven_56 ?_
          refine g_bipush (v := 6) dX12_oven_57 (by decide) ?_
          refine g_icmp_ne 65 (by decide) dX12_oven_59 (fun c5 => ?_) (fun c5 => ?_)
          · have h := g_ifn c5 h
            refine g_bipush (v := 8) dX12_oven_65 (by decide) ?_
            refine g_ic5 dX12_oven_67 ?_
            refine g_aload_n dX12_oven_68 rfl ?_
            refine m_getR fl_X12_7 rfl rfl rfl dX12_oven_69 ?_
            refine g_ic0 dX12_oven_72 ?_
            refine m_ialdc 0 rfl rfl (by decide) (by decide) dX12_oven_73 ?_
            refine g_imul dX12_oven_74 ?_
            refine g_iadd dX12_oven_75 ?_
            obtain ⟨x6, ex6, h⟩ := g_let h
            refine g_top ex6 ?_
            refine g_istore_5 rfl (Nat.le_of_ble_eq_true rfl) dX12_oven_76 ?_
            refine g_aload_n dX12_oven_78 rfl ?_
            refine m_getR fl_X12_7 rfl rfl rfl dX12_oven_79 ?_
            refine g_iload dX12_oven_82 rfl ?_
            refine g_iload_n dX12_oven_84 rfl ?_
            obtain ⟨μ7, qμ7, h⟩ := g_bind h
            refine m_iast rfl qμ7 dX12_oven_85 ?_
            refine g_aload_n dX12_oven_86 rfl ?_
            refine m_getR fl_X12_7 rfl rfl rfl dX12_oven_87 ?_
            refine g_iload dX12_oven_90 rfl ?_
            refine g_ic1 dX12_oven_92 ?_
            refine g_iadd dX12_oven_93 ?_
            refine g_iload_n dX12_oven_94 rfl ?_
            obtain ⟨μ8, qμ8, h⟩ := g_bind h
            refine m_iast rfl qμ8 dX12_oven_95 ?_
            refine g_aload_n dX12_oven_96 rfl ?_
            refine m_getR fl_X12_7 rfl rfl rfl dX12_oven_97 ?_
            refine g_iload dX12_oven_100 rfl ?_
            refine g_ic2 dX12_oven_102 ?_
            refine g_iadd dX12_oven_103 ?_
            refine g_iload_n dX12_oven_104 rfl ?_
            obtain ⟨μ9, qμ9, h⟩ := g_bind h
            refine m_iast rfl qμ9 dX12_oven_105 ?_
            refine g_aload_n dX12_oven_106 rfl ?_
            refine m_getR fl_X12_7 rfl rfl rfl dX12_oven_107 ?_
            refine g_iload dX12_oven_110 rfl ?_
            refine g_ic3 dX12_oven_112 ?_
            refine g_iadd dX12_oven_113 ?_
            refine g_iload dX12_oven_114 rfl ?_
            obtain ⟨μ10, qμ10, h⟩ := g_bind h
            refine m_iast rfl qμ10 dX12_oven_116 ?_
            refine g_aload_n dX12_oven_117 rfl ?_
            refine m_getR fl_X12_7 rfl rfl rfl dX12_oven_118 ?_
            refine g_iload dX12_oven_121 rfl ?_
            refine g_ic4 dX12_oven_123 ?_
            refine g_iadd dX12_oven_124 ?_
            refine g_ic0 dX12_oven_125 ?_
            obtain ⟨μ11, qμ11, h⟩ := g_bind h
            refine m_iast rfl qμ11 dX12_oven_126 ?_
            refine g_aload_n dX12_oven_127 rfl ?_
            refine m_getR fl_X12_7 rfl rfl rfl dX12_oven_128 ?_
            refine g_ic0 dX12_oven_131 ?_
            refine g_dup2 dX12_oven_132 rfl rfl ?_
            refine m_ialdc 0 rfl rfl (by decide) (by decide) dX12_oven_133 ?_
            refine g_ic1 dX12_oven_134 ?_
            refine g_iadd dX12_oven_135 ?_
            obtain ⟨μ12, eμ12, h⟩ := g_let h
            refine m_iastc 0 rfl rfl (by decide) (by decide) dX12_oven_136 eμ12 ?_
            refine g_aload_n dX12_oven_137 rfl ?_
            refine m_getR fl_X12_7 rfl rfl rfl dX12_oven_138 ?_
            refine g_ic0 dX12_oven_141 ?_
            refine m_ialdc 0 rfl rfl (by decide) (by decide) dX12_oven_142 ?_
            refine g_ic1 dX12_oven_143 ?_
            refine g_isub dX12_oven_144 ?_
            obtain rfl := Option.some.inj h
            exact g_iret rfl (Nat.le_refl _) rfl dX12_oven_145 ⟨rfl, rfl⟩
          · have h := g_ifp c5 h
            refine g_bipush (v := (-2)) dX12_oven_62 (by decide) ?_
            obtain rfl := Option.some.inj h
            exact g_iret rfl (Nat.le_refl _) rfl dX12_oven_64 ⟨rfl, rfl⟩
        · have h := g_ifp c4 h
          refine g_icm1 dX12_oven_49 ?_
          obtain rfl := Option.some.inj h
          exact g_iret rfl (Nat.le_refl _) rfl dX12_oven_50 ⟨rfl, rfl⟩
set_option maxRecDepth 100000 in
set_option maxHeartbeats 4000000 in
theorem k_X12_apart {D : va_G} {cA : Nat → ClassId} {b k : Nat} {a1 : Int32} {a2 : Int32} {μ : g_M} {z : Int32} (h : f_X12_apart a1 a2 = z) : g_K (g_XM D cA b) yX12_apart Y_X12_apart 1 0 0 k [.int a1, .int a2] (μ, g_rfM) (fun r1 σ1 => r1 = some (.int z) ∧ σ1 = (μ, g_rfM)) := by
  unfold f_X12_apart at h
  refine g_met 0 (by decide) rfl rfl (Nat.le_of_ble_eq_true rfl) ?_
  refine g_iload_n dX12_apart_0 rfl ?_
  refine g_iload_n dX12_apart_1 rfl ?_
  refine g_icmp_ge 11 (by decide) dX12_apart_2 (fun c1 => ?_) (fun c1 => ?_)
  · have h := g_ifp c1 h
    refine g_iload_n dX12_apart_11 rfl ?_
    refine g_iload_n dX12_apart_12 rfl ?_
    refine g_isub dX12_apart_13 ?_
    subst h
    exact g_iret rfl (Nat.le_refl _) rfl dX12_apart_14 ⟨rfl, rfl⟩
  · have h := g_ifn c1 h
    refine g_iload_n dX12_apart_5 rfl ?_
    refine g_iload_n dX12_apart_6 rfl ?_
    refine g_isub dX12_apart_7 ?_
    refine g_goto 14 (by decide) dX12_apart_8 ?_
    subst h
    exact g_iret rfl (Nat.le_refl _) rfl dX12_apart_14 ⟨rfl, rfl⟩
set_option maxRecDepth 100000 in
set_option maxHeartbeats 4000000 in
theorem k_X12_longsBy {D : va_G} {cA : Nat → ClassId} {b k : Nat} {a1 : Int32} {a2 : Int32} {a3 : Int32} {a4 : Int32} {a5 : Int32} {a6 : Int32} {μ : g_M} {z : Int32} (h : f_X12_longsBy a1 a2 a3 a4 a5 a6 = z) : g_K (g_XM D cA b) yX12_longsBy Y_X12_longsBy 2 0 0 k [.int a1, .int a2, .int a3, .int a4, .int a5, .int a6] (μ, g_rfM) (fun r1 σ1 => r1 = some (.int z) ∧ σ1 = (μ, g_rfM)) := by
  unfold f_X12_longsBy at h
  refine g_met 1 (by decide) rfl rfl (Nat.le_of_ble_eq_true rfl) ?_
  refine g_iload_n dX12_longsBy_0 rfl ?_
  refine g_iload_n dX12_longsBy_1 rfl ?_
  refine g_iload dX12_longsBy_2 rfl ?_
  refine m_cS mt_X12_apart ml_X12_74 ms_X12_apart dX12_longsBy_4 (k_X12_apart rfl) rfl rfl (by decide) ⟨Nat.le_refl _, Nat.le_refl _⟩ (Nat.le_of_ble_eq_true rfl) ?_
  refine g_isub dX12_longsBy_7 ?_
  refine g_istore_6 rfl (Nat.le_of_ble_eq_true rfl) dX12_longsBy_8 ?_
  refine g_iload_n dX12_longsBy_10 rfl ?_
  by_cases c1 : a1 = 1
  · have h := g_ifp c1 h
    refine m_tab 1 40 c1 dX12_longsBy_11 (by decide) (by decide) rfl (by decide) ?_
    refine g_iload dX12_longsBy_40 rfl ?_
    refine g_ic3 dX12_longsBy_42 ?_
    refine g_isub dX12_longsBy_43 ?_
    subst h
    exact g_iret rfl (Nat.le_refl _) rfl dX12_longsBy_44 ⟨rfl, rfl⟩
  have h := g_ifn c1 h
  by_cases c2 : a1 = 2
  · have h := g_ifp c2 h
    refine m_tab 2 45 c2 dX12_longsBy_11 (by decide) (by decide) rfl (by decide) ?_
    refine g_iload_n dX12_longsBy_45 rfl ?_
    refine g_iload_n dX12_longsBy_46 rfl ?_
    refine g_icmp_lt 55 (by decide) dX12_longsBy_47 (fun c3 => ?_) (fun c3 => ?_)
    · have h := g_ifp c3 h
      refine g_icm1 dX12_longsBy_55 ?_
      subst h
      exact g_iret rfl (Nat.le_refl _) rfl dX12_longsBy_56 ⟨rfl, rfl⟩
    · have h := g_ifn c3 h
      refine g_iload dX12_longsBy_50 rfl ?_
      refine g_goto 56 (by decide) dX12_longsBy_52 ?_
      subst h
      exact g_iret rfl (Nat.le_refl _) rfl dX12_longsBy_56 ⟨rfl, rfl⟩
  have h := g_ifn c2 h
  by_cases c4 : a1 = 3
  · have h := g_ifp c4 h
    refine m_tab 3 57 c4 dX12_longsBy_11 (by decide) (by decide) rfl (by decide) ?_
    refine g_icm1 dX12_longsBy_57 ?_
    subst h
    exact g_iret rfl (Nat.le_refl _) rfl dX12_longsBy_58 ⟨rfl, rfl⟩
  have h := g_ifn c4 h
  by_cases c5 : a1 = 4
  · have h := g_ifp c5 h
    refine m_tab 4 59 c5 dX12_longsBy_11 (by decide) (by decide) rfl (by decide) ?_
    refine g_iload_n dX12_longsBy_59 rfl ?_
    subst h
    exact g_iret rfl (Nat.le_refl _) rfl dX12_longsBy_60 ⟨rfl, rfl⟩
  have h := g_ifn c5 h
  refine g_tabOut 61 dX12_longsBy_11 (by have nc1 := m_ne 1 1 c1 (by decide); have nc2 := m_ne 2 2 c2 (by decide); have nc4 := m_ne 3 3 c4 (by decide); have nc5 := m_ne 4 4 c5 (by decide); omega) (by decide) ?_
  refine g_iload dX12_longsBy_61 rfl ?_
  refine g_if_eq 72 (by decide) dX12_longsBy_63 (fun c6 => ?_) (fun c6 => ?_)
  · have h := g_ifp c6 h
    refine g_iload_n dX12_longsBy_72 rfl ?_
    subst h
    exact g_iret rfl (Nat.le_refl _) rfl dX12_longsBy_73 ⟨rfl, rfl⟩
  · have h := g_ifn c6 h
    refine g_iload_n dX12_longsBy_66 rfl ?_
    refine g_ic2 dX12_longsBy_67 ?_
    refine g_iadd dX12_longsBy_68 ?_
    refine g_goto 73 (by decide) dX12_longsBy_69 ?_
    subst h
    exact g_iret rfl (Nat.le_refl _) rfl dX12_longsBy_73 ⟨rfl, rfl⟩
set_option maxRecDepth 100000 in
set_option maxHeartbeats 4000000 in
theorem k_X12_longs {D : va_G} {cA : Nat → ClassId} {b k : Nat} {a1 : Int32} {a2 : Int32} {μ : g_M} {z : Int32} (h : f_X12_longs a1 a2 μ = some z) : g_K (g_XM D cA b) yX12_longs Y_X12_longs 3 0 0 k [.ref 0, .int a1, .int a2] (μ, g_rfM) (fun r1 σ1 => r1 = some (.int z) ∧ σ1 = (μ, g_rfM)) := by
  unfold f_X12_longs at h
  refine g_met 0 (by decide) rfl rfl (Nat.le_of_ble_eq_true rfl) ?_
  refine g_aload_n dX12_longs_0 rfl ?_
  refine g_iload_n dX12_longs_1 rfl ?_
  refine g_ic0 dX12_longs_2 ?_
  obtain ⟨x1, q2, h⟩ := g_bind h
  refine m_cV mt_X12_its ml_X12_78 mv_X12_its dX12_longs_3 (k_X12_its q2) rfl rfl rfl rfl (by decide) ⟨Nat.le_refl _, Nat.le_refl _⟩ (Nat.le_of_ble_eq_true rfl) ?_
  refine g_aload_n dX12_longs_6 rfl ?_
  refine g_iload_n dX12_longs_7 rfl ?_
  refine g_ic1 dX12_longs_8 ?_
  obtain ⟨x3, q4, h⟩ := g_bind h
  refine m_cV mt_X12_its ml_X12_78 mv_X12_its dX12_longs_9 (k_X12_its q4) rfl rfl rfl rfl (by decide) ⟨Nat.le_refl _, Nat.le_refl _⟩ (Nat.le_of_ble_eq_true rfl) ?_
  refine g_aload_n dX12_longs_12 rfl ?_
  refine g_iload_n dX12_longs_13 rfl ?_
  refine g_ic2 dX12_longs_14 ?_
  obtain ⟨x5, q6, h⟩ := g_bind h
  refine m_cV mt_X12_its ml_X12_78 mv_X12_its dX12_longs_15 (k_X12_its q6) rfl rfl rfl rfl (by decide) ⟨Nat.le_refl _, Nat.le_refl _⟩ (Nat.le_of_ble_eq_true rfl) ?_
  refine g_aload_n dX12_longs_18 rfl ?_
  refine g_iload_n dX12_longs_19 rfl ?_
  refine g_ic1 dX12_longs_20 ?_
  obtain ⟨x7, q8, h⟩ := g_bind h
  refine m_cV mt_X12_its ml_X12_78 mv_X12_its dX12_longs_21 (k_X12_its q8) rfl rfl rfl rfl (by decide) ⟨Nat.le_refl _, Nat.le_refl _⟩ (Nat.le_of_ble_eq_true rfl) ?_
  refine g_aload_n dX12_longs_24 rfl ?_
  refine g_iload_n dX12_longs_25 rfl ?_
  refine g_ic2 dX12_longs_26 ?_
  obtain ⟨x9, q10, h⟩ := g_bind h
  refine m_cV mt_X12_its ml_X12_78 mv_X12_its dX12_longs_27 (k_X12_its q10) rfl rfl rfl rfl (by decide) ⟨Nat.le_refl _, Nat.le_refl _⟩ (Nat.le_of_ble_eq_true rfl) ?_
  refine g_iload_n dX12_longs_30 rfl ?_
  refine g_iload_n dX12_longs_31 rfl ?_
  refine g_icmp_le 39 (by decide) dX12_longs_32 (fun c11 => ?_) (fun c11 => ?_)
  · have h := g_ifp c11 h
    refine g_ic0 dX12_longs_39 ?_
    refine m_cS mt_X12_longsBy ml_X12_81 ms_X12_longsBy dX12_longs_40 (k_X12_longsBy rfl) rfl rfl (by decide) ⟨Nat.le_refl _, Nat.le_refl _⟩ (Nat.le_of_ble_eq_true rfl) ?_
    obtain rfl := Option.some.inj h
    exact g_iret rfl (Nat.le_refl _) rfl dX12_longs_43 ⟨rfl, rfl⟩
  · have h := g_ifn c11 h
    refine g_ic1 dX12_longs_35 ?_
    refine g_goto 40 (by decide) dX12_longs_36 ?_
    refine m_cS mt_X12_longsBy ml_X12_81 ms_X12_longsBy dX12_longs_40 (k_X12_longsBy rfl) rfl rfl (by decide) ⟨Nat.le_refl _, Nat.le_refl _⟩ (Nat.le_of_ble_eq_true rfl) ?_
    obtain rfl := Option.some.inj h
    exact g_iret rfl (Nat.le_refl _) rfl dX12_longs_43 ⟨rfl, rfl⟩
set_option maxRecDepth 100000 in
set_option maxHeartbeats 4000000 in
theorem k_X12_bakes {D : va_G} {cA : Nat → ClassId} {b k : Nat} {a1 : Int32} {μ : g_M} {z : Int32} (h : f_X12_bakes a1 μ = some z) : g_K (g_XM D cA b) yX12_bakes Y_X12_bakes 2 0 0 k [.ref 0, .int a1] (μ, g_rfM) (fun r1 σ1 => r1 = some (.int z) ∧ σ1 = (μ, g_rfM)) := by
  unfold f_X12_bakes at h
  refine g_met 1 (by decide) rfl rfl (Nat.le_of_ble_eq_true rfl) ?_
  refine g_aload_n dX12_bakes_0 rfl ?_
  refine g_iload_n dX12_bakes_1 rfl ?_
  refine g_ic3 dX12_bakes_2 ?_
  obtain ⟨x1, q2, h⟩ := g_bind h
  refine m_cV mt_X12_its ml_X12_78 mv_X12_its dX12_bakes_3 (k_X12_its q2) rfl rfl rfl rfl (by decide) ⟨Nat.le_refl _, Nat.le_refl _⟩ (Nat.le_of_ble_eq_true rfl) ?_
  refine g_istore_2 rfl (Nat.le_of_ble_eq_true rfl) dX12_bakes_6 ?_
  refine g_aload_n dX12_bakes_7 rfl ?_
  refine g_iload_n dX12_bakes_8 rfl ?_
  refine g_ic0 dX12_bakes_9 ?_
  obtain ⟨x3, q4, h⟩ := g_bind h
  refine m_cV mt_X12_its ml_X12_78 mv_X12_its dX12_bakes_10 (k_X12_its q4) rfl rfl rfl rfl (by decide) ⟨Nat.le_refl _, Nat.le_refl _⟩ (Nat.le_of_ble_eq_true rfl) ?_
  by_cases c5 : x3 = 1
  · have h := g_ifp c5 h
    refine m_tab 1 48 c5 dX12_bakes_13 (by decide) (by decide) rfl (by decide) ?_
    refine g_iload_n dX12_bakes_48 rfl ?_
    refine g_ic2 dX12_bakes_49 ?_
    refine g_idiv dX12_bakes_50 (by decide) ?_
    obtain rfl := Option.some.inj h
    exact g_iret rfl (Nat.le_refl _) rfl dX12_bakes_51 ⟨rfl, rfl⟩
  have h := g_ifn c5 h
  by_cases c6 : x3 = 2
  · have h := g_ifp c6 h
    refine m_tab 2 52 c6 dX12_bakes_13 (by decide) (by decide) rfl (by decide) ?_
    refine g_ic2 dX12_bakes_52 ?_
    refine g_iload_n dX12_bakes_53 rfl ?_
    refine g_imul dX12_bakes_54 ?_
    obtain rfl := Option.some.inj h
    exact g_iret rfl (Nat.le_refl _) rfl dX12_bakes_55 ⟨rfl, rfl⟩
  have h := g_ifn c6 h
  by_cases c7 : x3 = 3
  · have h := g_ifp c7 h
    refine m_tab 3 56 c7 dX12_bakes_13 (by decide) (by decide) rfl (by decide) ?_
    refine g_ic2 dX12_bakes_56 ?_
    refine g_iload_n dX12_bakes_57 rfl ?_
    refine g_imul dX12_bakes_58 ?_
    refine g_ic1 dX12_bakes_59 ?_
    refine g_iadd dX12_bakes_60 ?_
    obtain rfl := Option.some.inj h
    exact g_iret rfl (Nat.le_refl _) rfl dX12_bakes_61 ⟨rfl, rfl⟩
  have h := g_ifn c7 h
  by_cases c8 : x3 = 4
  · have h := g_ifp c8 h
    refine m_tab 4 80 c8 dX12_bakes_13 (by decide) (by decide) rfl (by decide) ?_
    refine g_iload_n dX12_bakes_80 rfl ?_
    obtain rfl := Option.some.inj h
    exact g_iret rfl (Nat.le_refl _) rfl dX12_bakes_81 ⟨rfl, rfl⟩
  have h := g_ifn c8 h
  by_cases c9 : x3 = 5
  · have h := g_ifp c9 h
    refine m_tab 5 62 c9 dX12_bakes_13 (by decide) (by decide) rfl (by decide) ?_
    refine g_aload_n dX12_bakes_62 rfl ?_
    refine m_getR fl_X12_7 rfl rfl rfl dX12_bakes_63 ?_
    refine g_ic1 dX12_bakes_66 ?_
    refine m_ialdc 1 rfl rfl (by decide) (by decide) dX12_bakes_67 ?_
    refine g_ic2 dX12_bakes_68 ?_
    refine g_irem dX12_bakes_69 (by decide) ?_
    refine g_ic1 dX12_bakes_70 ?_
    refine g_icmp_ne 78 (by decide) dX12_bakes_71 (fun c10 => ?_) (fun c10 => ?_)
    · have h := g_ifn c10 h
      refine g_iload_n dX12_bakes_78 rfl ?_
      obtain rfl := Option.some.inj h
      exact g_iret rfl (Nat.le_refl _) rfl dX12_bakes_79 ⟨rfl, rfl⟩
    · have h := g_ifp c10 h
      refine g_ic0 dX12_bakes_74 ?_
      refine g_goto 79 (by decide) dX12_bakes_75 ?_
      obtain rfl := Option.some.inj h
      exact g_iret rfl (Nat.le_refl _) rfl dX12_bakes_79 ⟨rfl, rfl⟩
  have h := g_ifn c9 h
  refine g_tabOut 80 dX12_bakes_13 (by have nc5 := m_ne 1 1 c5 (by decide); have nc6 := m_ne 2 2 c6 (by decide); have nc7 := m_ne 3 3 c7 (by decide); have nc8 := m_ne 4 4 c8 (by decide); have nc9 := m_ne 5 5 c9 (by decide); omega) (by decide) ?_
  refine g_iload_n dX12_bakes_80 rfl ?_
  obtain rfl := Option.some.inj h
  exact g_iret rfl (Nat.le_refl _) rfl dX12_bakes_81 ⟨rfl, rfl⟩
set_option maxRecDepth 100000 in
set_option maxHeartbeats 4000000 in
theorem k_X12_isUnder {D : va_G} {cA : Nat → ClassId} {b k : Nat} {a1 : Int32} {a2 : Int32} {μ : g_M} {z : Int32} (h : f_X12_isUnder a1 a2 = z) : g_K (g_XM D cA b) yX12_isUnder Y_X12_isUnder 1 0 0 k [.int a1, .int a2] (μ, g_rfM) (fun r1 σ1 => r1 = some (.int z) ∧ σ1 = (μ, g_rfM)) := by
  unfold f_X12_isUnder at h
  refine g_met 0 (by decide) rfl rfl (Nat.le_of_ble_eq_true rfl) ?_
  refine g_iload_n dX12_isUnder_0 rfl ?_
  refine g_if_eq 29 (by decide) dX12_isUnder_1 (fun c1 => ?_) (fun c1 => ?_)
  · have h := g_ifp c1 h
    refine g_ic1 dX12_isUnder_29 ?_
    refine g_goto 34 (by decide) dX12_isUnder_30 ?_
    subst h
    exact g_zret rfl (Nat.le_refl _) rfl rfl dX12_isUnder_34 ⟨rfl, rfl⟩
  · have h := g_ifn c1 h
    refine g_iload_n dX12_isUnder_4 rfl ?_
    refine g_iload_n dX12_isUnder_5 rfl ?_
    refine g_icmp_eq 29 (by decide) dX12_isUnder_6 (fun c2 => ?_) (fun c2 => ?_)
    · have h := g_ifp c2 h
      refine g_ic1 dX12_isUnder_29 ?_
      refine g_goto 34 (by decide) dX12_isUnder_30 ?_
      subst h
      exact g_zret rfl (Nat.le_refl _) rfl rfl dX12_isUnder_34 ⟨rfl, rfl⟩
    · have h := g_ifn c2 h
      refine g_iload_n dX12_isUnder_9 rfl ?_
      refine g_ic2 dX12_isUnder_10 ?_
      refine g_icmp_ne 19 (by decide) dX12_isUnder_11 (fun c3 => ?_) (fun c3 => ?_)
      · have h := g_ifn c3 h
        refine g_iload_n dX12_isUnder_19 rfl ?_
        refine g_ic4 dX12_isUnder_20 ?_
        refine g_icmp_ne 33 (by decide) dX12_isUnder_21 (fun c4 => ?_) (fun c4 => ?_)
        · have h := g_ifn c4 h
          refine g_ic0 dX12_isUnder_33 ?_
          subst h
          exact g_zret rfl (Nat.le_refl _) rfl rfl dX12_isUnder_34 ⟨rfl, rfl⟩
        · have h := g_ifp c4 h
          refine g_iload_n dX12_isUnder_24 rfl ?_
          refine g_ic5 dX12_isUnder_25 ?_
          refine g_icmp_ne 33 (by decide) dX12_isUnder_26 (fun c5 => ?_) (fun c5 => ?_)
          · have h := g_ifn c5 h
            refine g_ic0 dX12_isUnder_33 ?_
            subst h
            exact g_zret rfl (Nat.le_refl _) rfl rfl dX12_isUnder_34 ⟨rfl, rfl⟩
          · have h := g_ifp c5 h
            refine g_ic1 dX12_isUnder_29 ?_
            refine g_goto 34 (by decide) dX12_isUnder_30 ?_
            subst h
            exact g_zret rfl (Nat.le_refl _) rfl rfl dX12_isUnder_34 ⟨rfl, rfl⟩
      · have h := g_ifp c3 h
        refine g_iload_n dX12_isUnder_14 rfl ?_
        refine g_ic3 dX12_isUnder_15 ?_
        refine g_icmp_eq 29 (by decide) dX12_isUnder_16 (fun c6 => ?_) (fun c6 => ?_)
        · have h := g_ifp c6 h
          refine g_ic1 dX12_isUnder_29 ?_
          refine g_goto 34 (by decide) dX12_isUnder_30 ?_
          subst h
          exact g_zret rfl (Nat.le_refl _) rfl rfl dX12_isUnder_34 ⟨rfl, rfl⟩
        · have h := g_ifn c6 h
          refine g_iload_n dX12_isUnder_19 rfl ?_
          refine g_ic4 dX12_isUnder_20 ?_
          refine g_icmp_ne 33 (by decide) dX12_isUnder_21 (fun c7 => ?_) (fun c7 => ?_)
          · have h := g_ifn c7 h
            refine g_ic0 dX12_isUnder_33 ?_
            subst h
            exact g_zret rfl (Nat.le_refl _) rfl rfl dX12_isUnder_34 ⟨rfl, rfl⟩
          · have h := g_ifp c7 h
            refine g_iload_n dX12_isUnder_24 rfl ?_
            refine g_ic5 dX12_isUnder_25 ?_
            refine g_icmp_ne 33 (by decide) dX12_isUnder_26 (fun c8 => ?_) (fun c8 => ?_)
            · have h := g_ifn c8 h
              refine g_ic0 dX12_isUnder_33 ?_
              subst h
              exact g_zret rfl (Nat.le_refl _) rfl rfl dX12_isUnder_34 ⟨rfl, rfl⟩
            · have h := g_ifp c8 h
              refine g_ic1 dX12_isUnder_29 ?_
              refine g_goto 34 (by decide) dX12_isUnder_30 ?_
              subst h
              exact g_zret rfl (Nat.le_refl _) rfl rfl dX12_isUnder_34 ⟨rfl, rfl⟩
set_option maxRecDepth 100000 in
set_option maxHeartbeats 4000000 in
theorem zb_X12_isUnder (a1 : Int32) (a2 : Int32) : narrow .boolean (.int (f_X12_isUnder a1 a2)) = .int (f_X12_isUnder a1 a2) := by
  unfold f_X12_isUnder
  repeat' split
  all_goals first | rfl | rfl
set_option maxRecDepth 100000 in
set_option maxHeartbeats 4000000 in
theorem k_X12_valueOf {D : va_G} {cA : Nat → ClassId} {b k : Nat} {a1 : Int32} {a2 : Int32} {μ : g_M} {z : Int32} (h : f_X12_valueOf a1 a2 μ = some z) : g_K (g_XM D cA b) yX12_valueOf Y_X12_valueOf 2 0 0 k [.ref 0, .int a1, .int a2] (μ, g_rfM) (fun r1 σ1 => r1 = some (.int z) ∧ σ1 = (μ, g_rfM)) := by
  unfold f_X12_valueOf at h
  refine g_met 0 (by decide) rfl rfl (Nat.le_of_ble_eq_true rfl) ?_
  refine g_iload_n dX12_valueOf_0 rfl ?_
  refine g_sipush (v := 10000) dX12_valueOf_1 (by decide) ?_
  refine g_isub dX12_valueOf_4 ?_
  by_cases c1 : (a1 - 10000) = 0
  · have h := g_ifp c1 h
    refine m_tab 0 40 c1 dX12_valueOf_5 (by decide) (by decide) rfl (by decide) ?_
    refine g_aload_n dX12_valueOf_40 rfl ?_
    refine m_getR fl_X12_7 rfl rfl rfl dX12_valueOf_41 ?_
    refine g_ic1 dX12_valueOf_44 ?_
    refine m_ialdc 1 rfl rfl (by decide) (by decide) dX12_valueOf_45 ?_
    obtain rfl := Option.some.inj h
    exact g_iret rfl (Nat.le_refl _) rfl dX12_valueOf_46 ⟨rfl, rfl⟩
  have h := g_ifn c1 h
  by_cases c2 : (a1 - 10000) = 1
  · have h := g_ifp c2 h
    refine m_tab 1 47 c2 dX12_valueOf_5 (by decide) (by decide) rfl (by decide) ?_
    refine g_aload_n dX12_valueOf_47 rfl ?_
    refine g_iload_n dX12_valueOf_48 rfl ?_
    refine g_ic1 dX12_valueOf_49 ?_
    obtain ⟨x3, q4, h⟩ := g_bind h
    refine m_cV mt_X12_its ml_X12_78 mv_X12_its dX12_valueOf_50 (k_X12_its q4) rfl rfl rfl rfl (by decide) ⟨Nat.le_refl _, Nat.le_refl _⟩ (Nat.le_of_ble_eq_true rfl) ?_
    obtain rfl := Option.some.inj h
    exact g_iret rfl (Nat.le_refl _) rfl dX12_valueOf_53 ⟨rfl, rfl⟩
  have h := g_ifn c2 h
  by_cases c5 : (a1 - 10000) = 2
  · have h := g_ifp c5 h
    refine m_tab 2 54 c5 dX12_valueOf_5 (by decide) (by decide) rfl (by decide) ?_
    refine g_aload_n dX12_valueOf_54 rfl ?_
    refine g_iload_n dX12_valueOf_55 rfl ?_
    refine g_ic2 dX12_valueOf_56 ?_
    obtain ⟨x6, q7, h⟩ := g_bind h
    refine m_cV mt_X12_its ml_X12_78 mv_X12_its dX12_valueOf_57 (k_X12_its q7) rfl rfl rfl rfl (by decide) ⟨Nat.le_refl _, Nat.le_refl _⟩ (Nat.le_of_ble_eq_true rfl) ?_
    obtain rfl := Option.some.inj h
    exact g_iret rfl (Nat.le_refl _) rfl dX12_valueOf_60 ⟨rfl, rfl⟩
  have h := g_ifn c5 h
  by_cases c8 : (a1 - 10000) = 3
  · have h := g_ifp c8 h
    refine m_tab 3 61 c8 dX12_valueOf_5 (by decide) (by decide) rfl (by decide) ?_
    refine g_aload_n dX12_valueOf_61 rfl ?_
    refine g_iload_n dX12_valueOf_62 rfl ?_
    refine g_ic3 dX12_valueOf_63 ?_
    obtain ⟨x9, q10, h⟩ := g_bind h
    refine m_cV mt_X12_its ml_X12_78 mv_X12_its dX12_valueOf_64 (k_X12_its q10) rfl rfl rfl rfl (by decide) ⟨Nat.le_refl _, Nat.le_refl _⟩ (Nat.le_of_ble_eq_true rfl) ?_
    obtain rfl := Option.some.inj h
    exact g_iret rfl (Nat.le_refl _) rfl dX12_valueOf_67 ⟨rfl, rfl⟩
  have h := g_ifn c8 h
  by_cases c11 : (a1 - 10000) = 4
  · have h := g_ifp c11 h
    refine m_tab 4 68 c11 dX12_valueOf_5 (by decide) (by decide) rfl (by decide) ?_
    refine g_iload_n dX12_valueOf_68 rfl ?_
    obtain rfl := Option.some.inj h
    exact g_iret rfl (Nat.le_refl _) rfl dX12_valueOf_69 ⟨rfl, rfl⟩
  have h := g_ifn c11 h
  refine g_tabOut 70 dX12_valueOf_5 (by have nc1 := m_ne 0 0 c1 (by decide); have nc2 := m_ne 1 1 c2 (by decide); have nc5 := m_ne 2 2 c5 (by decide); have nc8 := m_ne 3 3 c8 (by decide); have nc11 := m_ne 4 4 c11 (by decide); omega) (by decide) ?_
  refine g_iload_n dX12_valueOf_70 rfl ?_
  obtain rfl := Option.some.inj h
  exact g_iret rfl (Nat.le_refl _) rfl dX12_valueOf_71 ⟨rfl, rfl⟩
set_option maxRecDepth 100000 in
set_option maxHeartbeats 4000000 in
theorem k_X12_holds_L17 {D : va_G} {cA : Nat → ClassId} {b k : Nat} {Q : Option Value → g_S → Prop} {N : Nat} : ∀ (n : Nat) (x_1 : Int32) (x_2 : Int32) (x_3 : Int64) (x_5 : Int32) (μ : g_M) (z_3 : Int64), f_X12_holds_L17 N n x_1 x_2 x_3 x_5 μ = some z_3 → g_V (g_XM D cA b) Y_X12_holds 3 0 0 Q k 0 0 232 [none, none, none, some (.long z_3), none, none, none, none, none, none] [] (μ, g_rfM) → g_V (g_XM D cA b) Y_X12_holds 3 0 0 Q k 0 0 17 [some (.ref 0), some (.int x_1), some (.int x_2), some (.long x_3), none, some (.int x_5), none, none, none, none] [] (μ, g_rfM) := by
  intro n
  induction n with
  | zero =>
    intro x_1 x_2 x_3 x_5 μ z_3 h
    rw [f_X12_holds_L17] at h
    cases h
  | succ n ih =>
    intro x_1 x_2 x_3 x_5 μ z_3 h hc
    rw [f_X12_holds_L17] at h
    refine g_iload dX12_holds_17 rfl ?_
    refine g_aload_n dX12_holds_19 rfl ?_
    refine m_getR fl_X12_7 rfl rfl rfl dX12_holds_20 ?_
    refine g_bipush (v := 38) dX12_holds_23 (by decide) ?_
    refine g_ic4 dX12_holds_25 ?_
    refine g_iload_n dX12_holds_26 rfl ?_
    refine g_imul dX12_holds_27 ?_
    refine g_iadd dX12_holds_28 ?_
    refine g_ic3 dX12_holds_29 ?_
    refine g_iadd dX12_holds_30 ?_
    obtain ⟨x2, qx2, h⟩ := g_bind h
    refine m_iald rfl qx2 dX12_holds_31 ?_
    refine g_icmp_ge 232 (by decide) dX12_holds_32 (fun c3 => ?_) (fun c3 => ?_)
    · have h := g_ifp c3 h
      obtain rfl := Option.some.inj h
      exact g_less _ (g_subN (g_subN (g_subN (g_subS (g_subN (g_subN (g_subN (g_subN (g_subN (g_subN g_sub0)))))))))) hc
    · have h := g_ifn c3 h
      refine g_aload_n dX12_holds_35 rfl ?_
      refine m_getR fl_X12_7 rfl rfl rfl dX12_holds_36 ?_
      refine g_bipush (v := 94) dX12_holds_39 (by decide) ?_
      refine g_ic3 dX12_holds_41 ?_
      refine g_iload dX12_holds_42 rfl ?_
      refine g_imul dX12_holds_44 ?_
      refine g_iadd dX12_holds_45 ?_
      obtain ⟨x4, qx4, h⟩ := g_bind h
      refine m_iald rfl qx4 dX12_holds_46 ?_
      refine g_istore_6 rfl (Nat.le_of_ble_eq_true rfl) dX12_holds_47 ?_
      refine g_iload dX12_holds_49 rfl ?_
      refine g_ic3 dX12_holds_51 ?_
      refine g_icmp_ge 172 (by decide) dX12_holds_52 (fun c5 => ?_) (fun c5 => ?_)
      · have h := g_ifp c5 h
        refine g_iload dX12_holds_172 rfl ?_
        refine g_ic3 dX12_holds_174 ?_
        refine g_icmp_ne 185 (by decide) dX12_holds_175 (fun c6 => ?_) (fun c6 => ?_)
        · have h := g_ifn c6 h
          refine g_lload_n dX12_holds_185 rfl ?_
          refine g_lc1 dX12_holds_186 ?_
          refine g_land dX12_holds_187 ?_
          obtain ⟨x7, ex7, h⟩ := g_let h
          refine g_topl ex7 ?_
          refine g_lstore_7 rfl (Nat.le_of_ble_eq_true rfl) dX12_holds_188 ?_
          refine g_lload_n dX12_holds_190 rfl ?_
          refine g_ldc2 kc_X12_88 dX12_holds_191 ?_
          refine g_ldiv dX12_holds_194 (by decide) ?_
          obtain ⟨x8, ex8, h⟩ := g_let h
          refine g_topl ex8 ?_
          refine g_lstore_3 rfl (Nat.le_of_ble_eq_true rfl) dX12_holds_195 ?_
          refine g_iload dX12_holds_196 rfl ?_
          refine g_ic4 dX12_holds_198 ?_
          refine g_icmp_eq 209 (by decide) dX12_holds_199 (fun c9 => ?_) (fun c9 => ?_)
          · have h := g_ifp c9 h
            refine g_lload dX12_holds_209 rfl ?_
            refine g_lc1 dX12_holds_211 ?_
            refine g_lcmp dX12_holds_212 ?_
            refine g_if_ne 220 (by decide) dX12_holds_213 (fun c10 => ?_) (fun c10 => ?_)
            · have h := g_ifn c10 h
              refine g_lload_n dX12_holds_220 rfl ?_
              refine g_ldc2 kc_X12_90 dX12_holds_221 ?_
              refine g_land dX12_holds_224 ?_
              obtain ⟨x11, ex11, h⟩ := g_let h
              refine g_topl ex11 ?_
              refine g_lstore_3 rfl (Nat.le_of_ble_eq_true rfl) dX12_holds_225 ?_
              refine g_iinc_5 (v := 1) rfl (by decide) (Nat.le_of_ble_eq_true rfl) dX12_holds_226 ?_
              refine g_goto 17 (by decide) dX12_holds_229 ?_
              exact g_less _ (g_subS (g_subS (g_subS (g_subS (g_subN (g_subS (g_subN (g_subN (g_subN (g_subN g_sub0)))))))))) (ih _ _ _ _ _ _ h hc)
            · have h := g_ifp c10 h
              refine g_lload_n dX12_holds_216 rfl ?_
              refine g_goto 225 (by decide) dX12_holds_217 ?_
              refine g_lstore_3 rfl (Nat.le_of_ble_eq_true rfl) dX12_holds_225 ?_
              refine g_iinc_5 (v := 1) rfl (by decide) (Nat.le_of_ble_eq_true rfl) dX12_holds_226 ?_
              refine g_goto 17 (by decide) dX12_holds_229 ?_
              exact g_less _ (g_subS (g_subS (g_subS (g_subS (g_subN (g_subS (g_subN (g_subN (g_subN (g_subN g_sub0)))))))))) (ih _ _ _ _ _ _ h hc)
          · have h := g_ifn c9 h
            refine g_lload_n dX12_holds_202 rfl ?_
            refine g_lload dX12_holds_203 rfl ?_
            refine g_lor dX12_holds_205 ?_
            refine g_goto 225 (by decide) dX12_holds_206 ?_
            obtain ⟨x12, ex12, h⟩ := g_let h
            refine g_topl ex12 ?_
            refine g_lstore_3 rfl (Nat.le_of_ble_eq_true rfl) dX12_holds_225 ?_
            refine g_iinc_5 (v := 1) rfl (by decide) (Nat.le_of_ble_eq_true rfl) dX12_holds_226 ?_
            refine g_goto 17 (by decide) dX12_holds_229 ?_
            exact g_less _ (g_subS (g_subS (g_subS (g_subS (g_subN (g_subS (g_subN (g_subN (g_subN (g_subN g_sub0)))))))))) (ih _ _ _ _ _ _ h hc)
        · have h := g_ifp c6 h
          refine g_lload_n dX12_holds_178 rfl ?_
          refine g_lc1 dX12_holds_179 ?_
          refine g_lxor dX12_holds_180 ?_
          obtain ⟨x13, ex13, h⟩ := g_let h
          refine g_topl ex13 ?_
          refine g_lstore_3 rfl (Nat.le_of_ble_eq_true rfl) dX12_holds_181 ?_
          refine g_goto 226 (by decide) dX12_holds_182 ?_
          refine g_iinc_5 (v := 1) rfl (by decide) (Nat.le_of_ble_eq_true rfl) dX12_holds_226 ?_
          refine g_goto 17 (by decide) dX12_holds_229 ?_
          exact g_less _ (g_subS (g_subS (g_subS (g_subS (g_subN (g_subS (g_subN (g_subN (g_subN (g_subN g_sub0)))))))))) (ih _ _ _ _ _ _ h hc)
      · have h := g_ifn c5 h
        refine g_aload_n dX12_holds_55 rfl ?_
        refine g_aload_n dX12_holds_56 rfl ?_
        refine m_getR fl_X12_7 rfl rfl rfl dX12_holds_57 ?_
        refine g_bipush (v := 94) dX12_holds_60 (by decide) ?_
        refine g_ic3 dX12_holds_62 ?_
        refine g_iload dX12_holds_63 rfl ?_
        refine g_imul dX12_holds_65 ?_
        refine g_iadd dX12_holds_66 ?_
        refine g_ic1 dX12_holds_67 ?_
        refine g_iadd dX12_holds_68 ?_
        obtain ⟨x14, qx14, h⟩ := g_bind h
        refine m_iald rfl qx14 dX12_holds_69 ?_
        refine g_iload_n dX12_holds_70 rfl ?_
        obtain ⟨x15, q16, h⟩ := g_bind h
        refine m_cV mt_X12_valueOf ml_X12_85 mv_X12_valueOf dX12_holds_71 (k_X12_valueOf q16) rfl rfl rfl rfl (by decide) ⟨Nat.le_refl _, Nat.le_refl _⟩ (Nat.le_of_ble_eq_true rfl) ?_
        refine g_istore_7 rfl (Nat.le_of_ble_eq_true rfl) dX12_holds_74 ?_
        refine g_aload_n dX12_holds_76 rfl ?_
        refine g_aload_n dX12_holds_77 rfl ?_
        refine m_getR fl_X12_7 rfl rfl rfl dX12_holds_78 ?_
        refine g_bipush (v := 94) dX12_holds_81 (by decide) ?_
        refine g_ic3 dX12_holds_83 ?_
        refine g_iload dX12_holds_84 rfl ?_
        refine g_imul dX12_holds_86 ?_
        refine g_iadd dX12_holds_87 ?_
        refine g_ic2 dX12_holds_88 ?_
        refine g_iadd dX12_holds_89 ?_
        obtain ⟨x17, qx17, h⟩ := g_bind h
        refine m_iald rfl qx17 dX12_holds_90 ?_
        refine g_iload_n dX12_holds_91 rfl ?_
        obtain ⟨x18, q19, h⟩ := g_bind h
        refine m_cV mt_X12_valueOf ml_X12_85 mv_X12_valueOf dX12_holds_92 (k_X12_valueOf q19) rfl rfl rfl rfl (by decide) ⟨Nat.le_refl _, Nat.le_refl _⟩ (Nat.le_of_ble_eq_true rfl) ?_
        refine g_istore_8 rfl (Nat.le_of_ble_eq_true rfl) dX12_holds_95 ?_
        refine g_iload dX12_holds_97 rfl ?_
        refine g_if_ne 117 (by decide) dX12_holds_99 (fun c20 => ?_) (fun c20 => ?_)
        · have h := g_ifn c20 h
          refine g_iload dX12_holds_117 rfl ?_
          refine g_ic1 dX12_holds_119 ?_
          refine g_icmp_ne 138 (by decide) dX12_holds_120 (fun c21 => ?_) (fun c21 => ?_)
          · have h := g_ifn c21 h
            refine g_iload dX12_holds_138 rfl ?_
            refine g_iload dX12_holds_140 rfl ?_
            refine g_icmp_le 149 (by decide) dX12_holds_142 (fun c22 => ?_) (fun c22 => ?_)
            · have h := g_ifp c22 h
              refine g_ic0 dX12_holds_149 ?_
              refine g_istore_9 rfl (Nat.le_of_ble_eq_true rfl) dX12_holds_150 ?_
              refine g_ldc2 kc_X12_88 dX12_holds_152 ?_
              refine g_lload_n dX12_holds_155 rfl ?_
              refine g_lmul dX12_holds_156 ?_
              refine g_iload dX12_holds_157 rfl ?_
              refine g_if_eq 166 (by decide) dX12_holds_159 (fun c9 => ?_) (fun cd => absurd (by decide) cd)
              refine g_lc0 dX12_holds_166 ?_
              refine g_ladd dX12_holds_167 ?_
              obtain ⟨x23, ex23, h⟩ := g_let h
              refine g_topl ex23 ?_
              refine g_lstore_3 rfl (Nat.le_of_ble_eq_true rfl) dX12_holds_168 ?_
              refine g_goto 226 (by decide) dX12_holds_169 ?_
              refine g_iinc_5 (v := 1) rfl (by decide) (Nat.le_of_ble_eq_true rfl) dX12_holds_226 ?_
              refine g_goto 17 (by decide) dX12_holds_229 ?_
              exact g_less _ (g_subS (g_subS (g_subS (g_subS (g_subN (g_subS (g_subN (g_subN (g_subN (g_subN g_sub0)))))))))) (ih _ _ _ _ _ _ h hc)
            · have h := g_ifn c22 h
              refine g_ic1 dX12_holds_145 ?_
              refine g_goto 150 (by decide) dX12_holds_146 ?_
              refine g_istore_9 rfl (Nat.le_of_ble_eq_true rfl) dX12_holds_150 ?_
              refine g_ldc2 kc_X12_88 dX12_holds_152 ?_
              refine g_lload_n dX12_holds_155 rfl ?_
              refine g_lmul dX12_holds_156 ?_
              refine g_iload dX12_holds_157 rfl ?_
              refine g_if_eq 166 (by decide) dX12_holds_159 (fun cd => absurd cd (by decide)) (fun c9 => ?_)
              refine g_lc1 dX12_holds_162 ?_
              refine g_goto 167 (by decide) dX12_holds_163 ?_
              refine g_ladd dX12_holds_167 ?_
              obtain ⟨x24, ex24, h⟩ := g_let h
              refine g_topl ex24 ?_
              refine g_lstore_3 rfl (Nat.le_of_ble_eq_true rfl) dX12_holds_168 ?_
              refine g_goto 226 (by decide) dX12_holds_169 ?_
              refine g_iinc_5 (v := 1) rfl (by decide) (Nat.le_of_ble_eq_true rfl) dX12_holds_226 ?_
              refine g_goto 17 (by decide) dX12_holds_229 ?_
              exact g_less _ (g_subS (g_subS (g_subS (g_subS (g_subN (g_subS (g_subN (g_subN (g_subN (g_subN g_sub0)))))))))) (ih _ _ _ _ _ _ h hc)
          · have h := g_ifp c21 h
            refine g_iload dX12_holds_123 rfl ?_
            refine g_iload dX12_holds_125 rfl ?_
            refine g_icmp_ne 134 (by decide) dX12_holds_127 (fun c25 => ?_) (fun c25 => ?_)
            · have h := g_ifn c25 h
              refine g_ic0 dX12_holds_134 ?_
              refine g_goto 150 (by decide) dX12_holds_135 ?_
              refine g_istore_9 rfl (Nat.le_of_ble_eq_true rfl) dX12_holds_150 ?_
              refine g_ldc2 kc_X12_88 dX12_holds_152 ?_
              refine g_lload_n dX12_holds_155 rfl ?_
              refine g_lmul dX12_holds_156 ?_
              refine g_iload dX12_holds_157 rfl ?_
              refine g_if_eq 166 (by decide) dX12_holds_159 (fun c9 => ?_) (fun cd => absurd (by decide) cd)
              refine g_lc0 dX12_holds_166 ?_
              refine g_ladd dX12_holds_167 ?_
              obtain ⟨x26, ex26, h⟩ := g_let h
              refine g_topl ex26 ?_
              refine g_lstore_3 rfl (Nat.le_of_ble_eq_true rfl) dX12_holds_168 ?_
              refine g_goto 226 (by decide) dX12_holds_169 ?_
              refine g_iinc_5 (v := 1) rfl (by decide) (Nat.le_of_ble_eq_true rfl) dX12_holds_226 ?_
              refine g_goto 17 (by decide) dX12_holds_229 ?_
              exact g_less _ (g_subS (g_subS (g_subS (g_subS (g_subN (g_subS (g_subN (g_subN (g_subN (g_subN g_sub0)))))))))) (ih _ _ _ _ _ _ h hc)
            · have h := g_ifp c25 h
              refine g_ic1 dX12_holds_130 ?_
              refine g_goto 150 (by decide) dX12_holds_131 ?_
              refine g_istore_9 rfl (Nat.le_of_ble_eq_true rfl) dX12_holds_150 ?_
              refine g_ldc2 kc_X12_88 dX12_holds_152 ?_
              refine g_lload_n dX12_holds_155 rfl ?_
              refine g_lmul dX12_holds_156 ?_
              refine g_iload dX12_holds_157 rfl ?_
              refine g_if_eq 166 (by decide) dX12_holds_159 (fun cd => absurd cd (by decide)) (fun c9 => ?_)
              refine g_lc1 dX12_holds_162 ?_
              refine g_goto 167 (by decide) dX12_holds_163 ?_
              refine g_ladd dX12_holds_167 ?_
              obtain ⟨x27, ex27, h⟩ := g_let h
              refine g_topl ex27 ?_
              refine g_lstore_3 rfl (Nat.le_of_ble_eq_true rfl) dX12_holds_168 ?_
              refine g_goto 226 (by decide) dX12_holds_169 ?_
              refine g_iinc_5 (v := 1) rfl (by decide) (Nat.le_of_ble_eq_true rfl) dX12_holds_226 ?_
              refine g_goto 17 (by decide) dX12_holds_229 ?_
              exact g_less _ (g_subS (g_subS (g_subS (g_subS (g_subN (g_subS (g_subN (g_subN (g_subN (g_subN g_sub0)))))))))) (ih _ _ _ _ _ _ h hc)
        · have h := g_ifp c20 h
          refine g_iload dX12_holds_102 rfl ?_
          refine g_iload dX12_holds_104 rfl ?_
          refine g_icmp_ge 113 (by decide) dX12_holds_106 (fun c28 => ?_) (fun c28 => ?_)
          · have h := g_ifp c28 h
            refine g_ic0 dX12_holds_113 ?_
            refine g_goto 150 (by decide) dX12_holds_114 ?_
            refine g_istore_9 rfl (Nat.le_of_ble_eq_true rfl) dX12_holds_150 ?_
            refine g_ldc2 kc_X12_88 dX12_holds_152 ?_
            refine g_lload_n dX12_holds_155 rfl ?_
            refine g_lmul dX12_holds_156 ?_
            refine g_iload dX12_holds_157 rfl ?_
            refine g_if_eq 166 (by decide) dX12_holds_159 (fun c9 => ?_) (fun cd => absurd (by decide) cd)
            refine g_lc0 dX12_holds_166 ?_
            refine g_ladd dX12_holds_167 ?_
            obtain ⟨x29, ex29, h⟩ := g_let h
            refine g_topl ex29 ?_
            refine g_lstore_3 rfl (Nat.le_of_ble_eq_true rfl) dX12_holds_168 ?_
            refine g_goto 226 (by decide) dX12_holds_169 ?_
            refine g_iinc_5 (v := 1) rfl (by decide) (Nat.le_of_ble_eq_true rfl) dX12_holds_226 ?_
            refine g_goto 17 (by decide) dX12_holds_229 ?_
            exact g_less _ (g_subS (g_subS (g_subS (g_subS (g_subN (g_subS (g_subN (g_subN (g_subN (g_subN g_sub0)))))))))) (ih _ _ _ _ _ _ h hc)
          · have h := g_ifn c28 h
            refine g_ic1 dX12_holds_109 ?_
            refine g_goto 150 (by decide) dX12_holds_110 ?_
            refine g_istore_9 rfl (Nat.le_of_ble_eq_true rfl) dX12_holds_150 ?_
            refine g_ldc2 kc_X12_88 dX12_holds_152 ?_
            refine g_lload_n dX12_holds_155 rfl ?_
            refine g_lmul dX12_holds_156 ?_
            refine g_iload dX12_holds_157 rfl ?_
            refine g_if_eq 166 (by decide) dX12_holds_159 (fun cd => absurd cd (by decide)) (fun c9 => ?_)
            refine g_lc1 dX12_holds_162 ?_
            refine g_goto 167 (by decide) dX12_holds_163 ?_
            refine g_ladd dX12_holds_167 ?_
            obtain ⟨x30, ex30, h⟩ := g_let h
            refine g_topl ex30 ?_
            refine g_lstore_3 rfl (Nat.le_of_ble_eq_true rfl) dX12_holds_168 ?_
            refine g_goto 226 (by decide) dX12_holds_169 ?_
            refine g_iinc_5 (v := 1) rfl (by decide) (Nat.le_of_ble_eq_true rfl) dX12_holds_226 ?_
            refine g_goto 17 (by decide) dX12_holds_229 ?_
            exact g_less _ (g_subS (g_subS (g_subS (g_subS (g_subN (g_subS (g_subN (g_subN (g_subN (g_subN g_sub0)))))))))) (ih _ _ _ _ _ _ h hc)
set_option maxRecDepth 100000 in
set_option maxHeartbeats 4000000 in
theorem k_X12_holds {D : va_G} {cA : Nat → ClassId} {b k : Nat} {N : Nat} {a1 : Int32} {a2 : Int32} {μ : g_M} {z : Int32} (h : f_X12_holds N a1 a2 μ = some z) : g_K (g_XM D cA b) yX12_holds Y_X12_holds 3 0 0 k [.ref 0, .int a1, .int a2] (μ, g_rfM) (fun r1 σ1 => r1 = some (.int z) ∧ σ1 = (μ, g_rfM)) := by
  unfold f_X12_holds at h
  refine g_met 7 (by decide) rfl rfl (Nat.le_of_ble_eq_true rfl) ?_
  refine g_lc1 dX12_holds_0 ?_
  refine g_lstore_3 rfl (Nat.le_of_ble_eq_true rfl) dX12_holds_1 ?_
  refine g_aload_n dX12_holds_2 rfl ?_
  refine m_getR fl_X12_7 rfl rfl rfl dX12_holds_3 ?_
  refine g_bipush (v := 38) dX12_holds_6 (by decide) ?_
  refine g_ic4 dX12_holds_8 ?_
  refine g_iload_n dX12_holds_9 rfl ?_
  refine g_imul dX12_holds_10 ?_
  refine g_iadd dX12_holds_11 ?_
  refine g_ic2 dX12_holds_12 ?_
  refine g_iadd dX12_holds_13 ?_
  obtain ⟨x1, qx1, h⟩ := g_bind h
  refine m_iald rfl qx1 dX12_holds_14 ?_
  refine g_istore_5 rfl (Nat.le_of_ble_eq_true rfl) dX12_holds_15 ?_
  obtain ⟨x2, q3, h⟩ := g_bind h
  refine g_less _ (g_subS (g_subS (g_subS (g_subS (g_subN (g_subS (g_subN (g_subN (g_subN (g_subN g_sub0)))))))))) (k_X12_holds_L17 _ _ _ _ _ _ _ q3 ?_)
  refine g_lload_n dX12_holds_232 rfl ?_
  refine g_ldc2 kc_X12_88 dX12_holds_233 ?_
  refine g_lrem dX12_holds_236 (by decide) ?_
  refine g_lc1 dX12_holds_237 ?_
  refine g_lcmp dX12_holds_238 ?_
  refine g_if_ne 246 (by decide) dX12_holds_239 (fun c4 => ?_) (fun c4 => ?_)
  · have h := g_ifn c4 h
    refine g_ic0 dX12_holds_246 ?_
    obtain rfl := Option.some.inj h
    exact g_zret rfl (Nat.le_refl _) rfl rfl dX12_holds_247 ⟨rfl, rfl⟩
  · have h := g_ifp c4 h
    refine g_ic1 dX12_holds_242 ?_
    refine g_goto 247 (by decide) dX12_holds_243 ?_
    obtain rfl := Option.some.inj h
    exact g_zret rfl (Nat.le_refl _) rfl rfl dX12_holds_247 ⟨rfl, rfl⟩
set_option maxRecDepth 100000 in
set_option maxHeartbeats 4000000 in
theorem k_X12_will_L2 {D : va_G} {cA : Nat → ClassId} {b k : Nat} {Q : Option Value → g_S → Prop} {N : Nat} : ∀ (n : Nat) (x_1 : Int32) (x_2 : Int32) (μ : g_M) (z : (Int32) ⊕ (Unit)), f_X12_will_L2 N n x_1 x_2 μ = some z → (∀ q : Int32, z = .inl q → Q (some (.int q)) (μ, g_rfM)) → (z = .inr () → g_V (g_XM D cA b) Y_X12_will 4 0 0 Q k 0 0 64 [none, none, none] [] (μ, g_rfM)) → g_V (g_XM D cA b) Y_X12_will 4 0 0 Q k 0 0 2 [some (.ref 0), some (.int x_1), some (.int x_2)] [] (μ, g_rfM) := by
  intro n
  induction n with
  | zero =>
    intro x_1 x_2 μ z h
    rw [f_X12_will_L2] at h
    cases h
  | succ n ih =>
    intro x_1 x_2 μ z h hr hc
    rw [f_X12_will_L2] at h
    refine g_iload_n dX12_will_2 rfl ?_
    refine g_aload_n dX12_will_3 rfl ?_
    refine m_getR fl_X12_7 rfl rfl rfl dX12_will_4 ?_
    refine g_ic5 dX12_will_7 ?_
    refine m_ialdc 5 rfl rfl (by decide) (by decide) dX12_will_8 ?_
    refine g_icmp_ge 64 (by decide) dX12_will_9 (fun c1 => ?_) (fun c1 => ?_)
    · have h := g_ifp c1 h
      obtain rfl := Option.some.inj h
      exact g_less _ (g_subN (g_subN (g_subN g_sub0))) (hc  rfl)
    · have h := g_ifn c1 h
      refine g_aload_n dX12_will_12 rfl ?_
      refine g_iload_n dX12_will_13 rfl ?_
      refine g_ic0 dX12_will_14 ?_
      obtain ⟨x2, q3, h⟩ := g_bind h
      refine m_cV mt_X12_its ml_X12_78 mv_X12_its dX12_will_15 (k_X12_its q3) rfl rfl rfl rfl (by decide) ⟨Nat.le_refl _, Nat.le_refl _⟩ (Nat.le_of_ble_eq_true rfl) ?_
      refine g_aload_n dX12_will_18 rfl ?_
      refine m_getR fl_X12_7 rfl rfl rfl dX12_will_19 ?_
      refine g_bipush (v := 38) dX12_will_22 (by decide) ?_
      refine g_ic4 dX12_will_24 ?_
      refine g_iload_n dX12_will_25 rfl ?_
      refine g_imul dX12_will_26 ?_
      refine g_iadd dX12_will_27 ?_
      obtain ⟨x4, qx4, h⟩ := g_bind h
      refine m_iald rfl qx4 dX12_will_28 ?_
      refine m_cS mt_X12_isUnder ml_X12_92 ms_X12_isUnder dX12_will_29 (k_X12_isUnder rfl) rfl rfl (by decide) ⟨Nat.le_refl _, Nat.le_refl _⟩ (Nat.le_of_ble_eq_true rfl) ?_
      refine g_if_eq 58 (by decide) dX12_will_32 (fun c5 => ?_) (fun c5 => ?_)
      · have h := g_ifp c5 h
        refine g_iinc_2 (v := 1) rfl (by decide) (Nat.le_of_ble_eq_true rfl) dX12_will_58 ?_
        refine g_goto 2 (by decide) dX12_will_61 ?_
        exact g_less _ (g_subS (g_subS (g_subS g_sub0))) (ih _ _ _ _ h hr hc)
      · have h := g_ifn c5 h
        refine g_aload_n dX12_will_35 rfl ?_
        refine g_iload_n dX12_will_36 rfl ?_
        refine g_iload_n dX12_will_37 rfl ?_
        obtain ⟨x6, q7, h⟩ := g_bind h
        refine m_cV mt_X12_holds ml_X12_96 mv_X12_holds dX12_will_38 (k_X12_holds q7) rfl rfl rfl rfl (by decide) ⟨Nat.le_refl _, Nat.le_refl _⟩ (Nat.le_of_ble_eq_true rfl) ?_
        refine g_if_eq 58 (by decide) dX12_will_41 (fun c8 => ?_) (fun c8 => ?_)
        · have h := g_ifp c8 h
          refine g_iinc_2 (v := 1) rfl (by decide) (Nat.le_of_ble_eq_true rfl) dX12_will_58 ?_
          refine g_goto 2 (by decide) dX12_will_61 ?_
          exact g_less _ (g_subS (g_subS (g_subS g_sub0))) (ih _ _ _ _ h hr hc)
        · have h := g_ifn c8 h
          refine g_aload_n dX12_will_44 rfl ?_
          refine m_getR fl_X12_7 rfl rfl rfl dX12_will_45 ?_
          refine g_bipush (v := 38) dX12_will_48 (by decide) ?_
          refine g_ic4 dX12_will_50 ?_
          refine g_iload_n dX12_will_51 rfl ?_
          refine g_imul dX12_will_52 ?_
          refine g_iadd dX12_will_53 ?_
          refine g_ic1 dX12_will_54 ?_
          refine g_iadd dX12_will_55 ?_
          obtain ⟨x9, qx9, h⟩ := g_bind h
          refine m_iald rfl qx9 dX12_will_56 ?_
          obtain rfl := Option.some.inj h
          exact g_iret rfl (Nat.le_refl _) rfl dX12_will_57 (hr _ rfl)
set_option maxRecDepth 100000 in
set_option maxHeartbeats 4000000 in
theorem k_X12_will {D : va_G} {cA : Nat → ClassId} {b k : Nat} {N : Nat} {a1 : Int32} {μ : g_M} {z : Int32} (h : f_X12_will N a1 μ = some z) : g_K (g_XM D cA b) yX12_will Y_X12_will 4 0 0 k [.ref 0, .int a1] (μ, g_rfM) (fun r1 σ1 => r1 = some (.int z) ∧ σ1 = (μ, g_rfM)) := by
  unfold f_X12_will at h
  refine g_met 1 (by decide) rfl rfl (Nat.le_of_ble_eq_true rfl) ?_
  refine g_ic0 dX12_will_0 ?_
  refine g_istore_2 rfl (Nat.le_of_ble_eq_true rfl) dX12_will_1 ?_
  obtain ⟨w2, q1, h⟩ := g_bind h
  refine g_less _ (g_subS (g_subS (g_subS g_sub0))) (k_X12_will_L2 _ _ _ _ _ q1 ?_ ?_)
  · intro q0 e0
    subst e0
    cases h
    exact ⟨rfl, rfl⟩
  · intro  e0
    subst e0
    try dsimp only at h
    refine g_ic0 dX12_will_64 ?_
    obtain rfl := Option.some.inj h
    exact g_iret rfl (Nat.le_refl _) rfl dX12_will_65 ⟨rfl, rfl⟩
set_option maxRecDepth 100000 in
set_option maxHeartbeats 4000000 in
theorem k_X12_looks_L7 {D : va_G} {cA : Nat → ClassId} {b k : Nat} {Q : Option Value → g_S → Prop} {N : Nat} : ∀ (n : Nat) (x_1 : Int32) (x_2 : Int32) (μ : g_M) (z_μ : g_M), f_X12_looks_L7 N n x_1 x_2 μ = some z_μ → g_V (g_XM D cA b) Y_X12_looks 5 0 0 Q k 0 0 77 [none, none, none] [] (z_μ, g_rfM) → g_V (g_XM D cA b) Y_X12_looks 5 0 0 Q k 0 0 7 [some (.ref 0), some (.int x_1), some (.int x_2)] [] (μ, g_rfM) := by
  intro n
  induction n with
  | zero =>
    intro x_1 x_2 μ z_μ h
    rw [f_X12_looks_L7] at h
    cases h
  | succ n ih =>
    intro x_1 x_2 μ z_μ h hc
    rw [f_X12_looks_L7] at h
    refine g_iload_n dX12_looks_7 rfl ?_
    refine g_aload_n dX12_looks_8 rfl ?_
    refine m_getR fl_X12_7 rfl rfl rfl dX12_looks_9 ?_
    refine g_ic0 dX12_looks_12 ?_
    refine m_ialdc 0 rfl rfl (by decide) (by decide) dX12_looks_13 ?_
    refine g_icmp_ge 77 (by decide) dX12_looks_14 (fun c2 => ?_) (fun c2 => ?_)
    · have h := g_ifp c2 h
      obtain rfl := Option.some.inj h
      exact g_less _ (g_subN (g_subN (g_subN g_sub0))) hc
    · have h := g_ifn c2 h
      refine g_aload_n dX12_looks_17 rfl ?_
      refine m_getR fl_X12_22 rfl rfl rfl dX12_looks_18 ?_
      refine g_iload_n dX12_looks_21 rfl ?_
      refine g_aload_n dX12_looks_22 rfl ?_
      refine g_iload_n dX12_looks_23 rfl ?_
      obtain ⟨x3, q4, h⟩ := g_bind h
      refine m_cV mt_X12_will ml_X12_103 mv_X12_will dX12_looks_24 (k_X12_will q4) rfl rfl rfl rfl (by decide) ⟨Nat.le_refl _, Nat.le_refl _⟩ (Nat.le_of_ble_eq_true rfl) ?_
      obtain ⟨μ5, qμ5, h⟩ := g_bind h
      refine m_iast rfl qμ5 dX12_looks_27 ?_
      refine g_aload_n dX12_looks_28 rfl ?_
      refine g_dup dX12_looks_29 rfl ?_
      refine m_getI fl_X12_99 rfl rfl dX12_looks_30 ?_
      refine g_aload_n dX12_looks_33 rfl ?_
      refine g_iload_n dX12_looks_34 rfl ?_
      refine g_ic4 dX12_looks_35 ?_
      obtain ⟨x6, q7, h⟩ := g_bind h
      refine m_cV mt_X12_its ml_X12_78 mv_X12_its dX12_looks_36 (k_X12_its q7) rfl rfl rfl rfl (by decide) ⟨Nat.le_refl _, Nat.le_refl _⟩ (Nat.le_of_ble_eq_true rfl) ?_
      refine g_if_ne 66 (by decide) dX12_looks_39 (fun c8 => ?_) (fun c8 => ?_)
      · have h := g_ifn c8 h
        refine g_ic0 dX12_looks_66 ?_
        refine g_ior dX12_looks_67 ?_
        obtain ⟨μ9, eμ9, h⟩ := g_let h
        refine m_putI fl_X12_99 fw_12_7 rfl rfl rfl rfl dX12_looks_68 eμ9 ?_
        refine g_iinc_2 (v := 1) rfl (by decide) (Nat.le_of_ble_eq_true rfl) dX12_looks_71 ?_
        refine g_goto 7 (by decide) dX12_looks_74 ?_
        exact g_less _ (g_subS (g_subS (g_subS g_sub0))) (ih _ _ _ _ h hc)
      · have h := g_ifp c8 h
        refine g_iload_n dX12_looks_42 rfl ?_
        refine g_iload_n dX12_looks_43 rfl ?_
        refine g_ishr dX12_looks_44 ?_
        refine g_ic1 dX12_looks_45 ?_
        refine g_iand dX12_looks_46 ?_
        refine g_if_ne 66 (by decide) dX12_looks_47 (fun c10 => ?_) (fun c10 => ?_)
        · have h := g_ifn c10 h
          refine g_ic0 dX12_looks_66 ?_
          refine g_ior dX12_looks_67 ?_
          obtain ⟨μ11, eμ11, h⟩ := g_let h
          refine m_putI fl_X12_99 fw_12_7 rfl rfl rfl rfl dX12_looks_68 eμ11 ?_
          refine g_iinc_2 (v := 1) rfl (by decide) (Nat.le_of_ble_eq_true rfl) dX12_looks_71 ?_
          refine g_goto 7 (by decide) dX12_looks_74 ?_
          exact g_less _ (g_subS (g_subS (g_subS g_sub0))) (ih _ _ _ _ h hc)
        · have h := g_ifp c10 h
          refine g_aload_n dX12_looks_50 rfl ?_
          refine m_getR fl_X12_22 rfl rfl rfl dX12_looks_51 ?_
          refine g_iload_n dX12_looks_54 rfl ?_
          obtain ⟨x12, qx12, h⟩ := g_bind h
          refine m_iald rfl qx12 dX12_looks_55 ?_
          refine g_ic1 dX12_looks_56 ?_
          refine g_icmp_eq 66 (by decide) dX12_looks_57 (fun c13 => ?_) (fun c13 => ?_)
          · have h := g_ifp c13 h
            refine g_ic0 dX12_looks_66 ?_
            refine g_ior dX12_looks_67 ?_
            obtain ⟨μ14, eμ14, h⟩ := g_let h
            refine m_putI fl_X12_99 fw_12_7 rfl rfl rfl rfl dX12_looks_68 eμ14 ?_
            refine g_iinc_2 (v := 1) rfl (by decide) (Nat.le_of_ble_eq_true rfl) dX12_looks_71 ?_
            refine g_goto 7 (by decide) dX12_looks_74 ?_
            exact g_less _ (g_subS (g_subS (g_subS g_sub0))) (ih _ _ _ _ h hc)
          · have h := g_ifn c13 h
            refine g_ic1 dX12_looks_60 ?_
            refine g_iload_n dX12_looks_61 rfl ?_
            refine g_ishl dX12_looks_62 ?_
            refine g_goto 67 (by decide) dX12_looks_63 ?_
            refine g_ior dX12_looks_67 ?_
            obtain ⟨μ15, eμ15, h⟩ := g_let h
            refine m_putI fl_X12_99 fw_12_7 rfl rfl rfl rfl dX12_looks_68 eμ15 ?_
            refine g_iinc_2 (v := 1) rfl (by decide) (Nat.le_of_ble_eq_true rfl) dX12_looks_71 ?_
            refine g_goto 7 (by decide) dX12_looks_74 ?_
            exact g_less _ (g_subS (g_subS (g_subS g_sub0))) (ih _ _ _ _ h hc)
set_option maxRecDepth 100000 in
set_option maxHeartbeats 4000000 in
theorem k_X12_looks {D : va_G} {cA : Nat → ClassId} {b k : Nat} {N : Nat} {a1 : Int32} {μ : g_M} {z : g_M} (h : f_X12_looks N a1 μ = some z) : g_K (g_XM D cA b) yX12_looks Y_X12_looks 5 0 0 k [.ref 0, .int a1] (μ, g_rfM) (fun r1 σ1 => r1 = none ∧ σ1 = (z, g_rfM)) := by
  unfold f_X12_looks at h
  refine g_met 1 (by decide) rfl rfl (Nat.le_of_ble_eq_true rfl) ?_
  refine g_aload_n dX12_looks_0 rfl ?_
  refine g_ic0 dX12_looks_1 ?_
  obtain ⟨μ1, eμ1, h⟩ := g_let h
  refine m_putI fl_X12_99 fw_12_7 rfl rfl rfl rfl dX12_looks_2 eμ1 ?_
  refine g_ic0 dX12_looks_5 ?_
  refine g_istore_2 rfl (Nat.le_of_ble_eq_true rfl) dX12_looks_6 ?_
  obtain ⟨μ2, q3, h⟩ := g_bind h
  refine g_less _ (g_subS (g_subS (g_subS g_sub0))) (k_X12_looks_L7 _ _ _ _ _ q3 ?_)
  obtain rfl := Option.some.inj h
  exact g_vret rfl (Nat.le_refl _) rfl dX12_looks_77 ⟨rfl, rfl⟩
set_option maxRecDepth 100000 in
set_option maxHeartbeats 4000000 in
theorem k_X12_choice_L22 {D : va_G} {cA : Nat → ClassId} {b k : Nat} {Q : Option Value → g_S → Prop} {N : Nat} : ∀ (n : Nat) (x_1 : Int32) (x_2 : Int32) (x_3 : Int32) (x_4 : Int32) (μ : g_M) (z_2 : Int32), f_X12_choice_L22 N n x_1 x_2 x_3 x_4 μ = some z_2 → g_V (g_XM D cA b) Y_X12_choice 4 0 0 Q k 0 0 92 [none, none, some (.int z_2), none, none] [] (μ, g_rfM) → g_V (g_XM D cA b) Y_X12_choice 4 0 0 Q k 0 0 22 [some (.ref 0), some (.int x_1), some (.int x_2), some (.int x_3), some (.int x_4)] [] (μ, g_rfM) := by
  intro n
  induction n with
  | zero =>
    intro x_1 x_2 x_3 x_4 μ z_2 h
    rw [f_X12_choice_L22] at h
    cases h
  | succ n ih =>
    intro x_1 x_2 x_3 x_4 μ z_2 h hc
    rw [f_X12_choice_L22] at h
    refine g_iload dX12_choice_22 rfl ?_
    refine g_aload_n dX12_choice_24 rfl ?_
    refine m_getR fl_X12_7 rfl rfl rfl dX12_choice_25 ?_
    refine g_ic0 dX12_choice_28 ?_
    refine m_ialdc 0 rfl rfl (by decide) (by decide) dX12_choice_29 ?_
    refine g_icmp_ge 92 (by decide) dX12_choice_30 (fun c3 => ?_) (fun c3 => ?_)
    · have h := g_ifp c3 h
      obtain rfl := Option.some.inj h
      exact g_less _ (g_subN (g_subN (g_subS (g_subN (g_subN g_sub0))))) hc
    · have h := g_ifn c3 h
      refine g_aload_n dX12_choice_33 rfl ?_
      refine m_getI fl_X12_99 rfl rfl dX12_choice_34 ?_
      refine g_iload_n dX12_choice_37 rfl ?_
      refine g_ishr dX12_choice_38 ?_
      refine g_ic1 dX12_choice_39 ?_
      refine g_iand dX12_choice_40 ?_
      refine g_ic1 dX12_choice_41 ?_
      refine g_icmp_ne 92 (by decide) dX12_choice_42 (fun c4 => ?_) (fun c4 => ?_)
      · have h := g_ifn c4 h
        obtain rfl := Option.some.inj h
        exact g_less _ (g_subN (g_subN (g_subS (g_subN (g_subN g_sub0))))) hc
      · have h := g_ifp c4 h
        refine g_iload dX12_choice_45 rfl ?_
        refine g_iload_n dX12_choice_47 rfl ?_
        refine g_icmp_eq 86 (by decide) dX12_choice_48 (fun c5 => ?_) (fun c5 => ?_)
        · have h := g_ifp c5 h
          refine g_iinc_4 (v := 1) rfl (by decide) (Nat.le_of_ble_eq_true rfl) dX12_choice_86 ?_
          refine g_goto 22 (by decide) dX12_choice_89 ?_
          exact g_less _ (g_subS (g_subS (g_subS (g_subS (g_subS g_sub0))))) (ih _ _ _ _ _ _ h hc)
        · have h := g_ifn c5 h
          refine g_aload_n dX12_choice_51 rfl ?_
          refine m_getI fl_X12_99 rfl rfl dX12_choice_52 ?_
          refine g_iload dX12_choice_55 rfl ?_
          refine g_ishr dX12_choice_57 ?_
          refine g_ic1 dX12_choice_58 ?_
          refine g_iand dX12_choice_59 ?_
          refine g_ic1 dX12_choice_60 ?_
          refine g_icmp_ne 86 (by decide) dX12_choice_61 (fun c6 => ?_) (fun c6 => ?_)
          · have h := g_ifn c6 h
            refine g_iinc_4 (v := 1) rfl (by decide) (Nat.le_of_ble_eq_true rfl) dX12_choice_86 ?_
            refine g_goto 22 (by decide) dX12_choice_89 ?_
            exact g_less _ (g_subS (g_subS (g_subS (g_subS (g_subS g_sub0))))) (ih _ _ _ _ _ _ h hc)
          · have h := g_ifp c6 h
            refine g_aload_n dX12_choice_64 rfl ?_
            refine g_iload_n dX12_choice_65 rfl ?_
            refine g_iload dX12_choice_66 rfl ?_
            obtain ⟨x7, q8, h⟩ := g_bind h
            refine m_cV mt_X12_longs ml_X12_107 mv_X12_longs dX12_choice_68 (k_X12_longs q8) rfl rfl rfl rfl (by decide) ⟨Nat.le_refl _, Nat.le_refl _⟩ (Nat.le_of_ble_eq_true rfl) ?_
            refine g_iload_n dX12_choice_71 rfl ?_
            refine g_icmp_le 86 (by decide) dX12_choice_72 (fun c9 => ?_) (fun c9 => ?_)
            · have h := g_ifp c9 h
              refine g_iinc_4 (v := 1) rfl (by decide) (Nat.le_of_ble_eq_true rfl) dX12_choice_86 ?_
              refine g_goto 22 (by decide) dX12_choice_89 ?_
              exact g_less _ (g_subS (g_subS (g_subS (g_subS (g_subS g_sub0))))) (ih _ _ _ _ _ _ h hc)
            · have h := g_ifn c9 h
              refine g_iload dX12_choice_75 rfl ?_
              refine g_istore_2 rfl (Nat.le_of_ble_eq_true rfl) dX12_choice_77 ?_
              refine g_aload_n dX12_choice_78 rfl ?_
              refine g_iload_n dX12_choice_79 rfl ?_
              refine g_iload dX12_choice_80 rfl ?_
              obtain ⟨x10, q11, h⟩ := g_bind h
              refine m_cV mt_X12_longs ml_X12_107 mv_X12_longs dX12_choice_82 (k_X12_longs q11) rfl rfl rfl rfl (by decide) ⟨Nat.le_refl _, Nat.le_refl _⟩ (Nat.le_of_ble_eq_true rfl) ?_
              refine g_istore_3 rfl (Nat.le_of_ble_eq_true rfl) dX12_choice_85 ?_
              refine g_iinc_4 (v := 1) rfl (by decide) (Nat.le_of_ble_eq_true rfl) dX12_choice_86 ?_
              refine g_goto 22 (by decide) dX12_choice_89 ?_
              exact g_less _ (g_subS (g_subS (g_subS (g_subS (g_subS g_sub0))))) (ih _ _ _ _ _ _ h hc)
set_option maxRecDepth 100000 in
set_option maxHeartbeats 4000000 in
theorem k_X12_choice {D : va_G} {cA : Nat → ClassId} {b k : Nat} {N : Nat} {a1 : Int32} {μ : g_M} {z : Int32} (h : f_X12_choice N a1 μ = some z) : g_K (g_XM D cA b) yX12_choice Y_X12_choice 4 0 0 k [.ref 0, .int a1] (μ, g_rfM) (fun r1 σ1 => r1 = some (.int z) ∧ σ1 = (μ, g_rfM)) := by
  unfold f_X12_choice at h
  refine g_met 3 (by decide) rfl rfl (Nat.le_of_ble_eq_true rfl) ?_
  refine g_bipush (v := 6) dX12_choice_0 (by decide) ?_
  refine g_istore_2 rfl (Nat.le_of_ble_eq_true rfl) dX12_choice_2 ?_
  refine g_aload_n dX12_choice_3 rfl ?_
  refine m_getR fl_X12_22 rfl rfl rfl dX12_choice_4 ?_
  refine g_iload_n dX12_choice_7 rfl ?_
  obtain ⟨x1, qx1, h⟩ := g_bind h
  refine m_iald rfl qx1 dX12_choice_8 ?_
  refine g_ic2 dX12_choice_9 ?_
  refine g_icmp_ne 17 (by decide) dX12_choice_10 (fun c2 => ?_) (fun c2 => ?_)
  · have h := g_ifn c2 h
    refine g_ic0 dX12_choice_17 ?_
    refine g_istore_3 rfl (Nat.le_of_ble_eq_true rfl) dX12_choice_18 ?_
    refine g_ic0 dX12_choice_19 ?_
    refine g_istore_4 rfl (Nat.le_of_ble_eq_true rfl) dX12_choice_20 ?_
    obtain ⟨x3, q4, h⟩ := g_bind h
    refine g_less _ (g_subS (g_subS (g_subS (g_subS (g_subS g_sub0))))) (k_X12_choice_L22 _ _ _ _ _ _ _ q4 ?_)
    refine g_iload_n dX12_choice_92 rfl ?_
    obtain rfl := Option.some.inj h
    exact g_iret rfl (Nat.le_refl _) rfl dX12_choice_93 ⟨rfl, rfl⟩
  · have h := g_ifp c2 h
    refine g_ic3 dX12_choice_13 ?_
    refine g_goto 18 (by decide) dX12_choice_14 ?_
    refine g_istore_3 rfl (Nat.le_of_ble_eq_true rfl) dX12_choice_18 ?_
    refine g_ic0 dX12_choice_19 ?_
    refine g_istore_4 rfl (Nat.le_of_ble_eq_true rfl) dX12_choice_20 ?_
    obtain ⟨x5, q6, h⟩ := g_bind h
    refine g_less _ (g_subS (g_subS (g_subS (g_subS (g_subS g_sub0))))) (k_X12_choice_L22 _ _ _ _ _ _ _ q6 ?_)
    refine g_iload_n dX12_choice_92 rfl ?_
    obtain rfl := Option.some.inj h
    exact g_iret rfl (Nat.le_refl _) rfl dX12_choice_93 ⟨rfl, rfl⟩
set_option maxRecDepth 100000 in
set_option maxHeartbeats 4000000 in
theorem k_X12_ovenOf {D : va_G} {cA : Nat → ClassId} {b k : Nat} {N : Nat} {a1 : Int32} {a2 : Int32} {μ : g_M} {z : Int32 × g_M} (h : f_X12_ovenOf N a1 a2 μ = some z) : g_K (g_XM D cA b) yX12_ovenOf Y_X12_ovenOf 6 0 0 k [.ref 0, .int a1, .int a2] (μ, g_rfM) (fun r1 σ1 => r1 = some (.int z.1) ∧ σ1 = (z.2, g_rfM)) := by
  unfold f_X12_ovenOf at h
  refine g_met 0 (by decide) rfl rfl (Nat.le_of_ble_eq_true rfl) ?_
  refine g_aload_n dX12_ovenOf_0 rfl ?_
  refine g_iload_n dX12_ovenOf_1 rfl ?_
  refine m_cV mt_X12_isOven ml_X12_110 mv_X12_isOven dX12_ovenOf_2 (k_X12_isOven rfl) rfl rfl rfl rfl (by decide) ⟨Nat.le_refl _, Nat.le_refl _⟩ (Nat.le_of_ble_eq_true rfl) ?_
  refine g_if_eq 20 (by decide) dX12_ovenOf_5 (fun c1 => ?_) (fun c1 => ?_)
  · have h := g_ifp c1 h
    refine g_icm1 dX12_ovenOf_20 ?_
    obtain rfl := Option.some.inj h
    exact g_iret rfl (Nat.le_refl _) rfl dX12_ovenOf_21 ⟨rfl, rfl⟩
  · have h := g_ifn c1 h
    refine g_iload_n dX12_ovenOf_8 rfl ?_
    refine g_i2l dX12_ovenOf_9 ?_
    refine g_lc0 dX12_ovenOf_10 ?_
    refine g_ldc2 kc_X12_114 dX12_ovenOf_11 ?_
    refine m_cS mt_X12_isIn ml_X12_66 ms_X12_isIn dX12_ovenOf_14 (k_X12_isIn rfl) rfl rfl (by decide) ⟨Nat.le_refl _, Nat.le_refl _⟩ (Nat.le_of_ble_eq_true rfl) ?_
    refine g_if_ne 22 (by decide) dX12_ovenOf_17 (fun c2 => ?_) (fun c2 => ?_)
    · have h := g_ifn c2 h
      refine g_aload_n dX12_ovenOf_22 rfl ?_
      refine g_ic0 dX12_ovenOf_23 ?_
      obtain ⟨μ5, q4, h⟩ := g_bind h
      refine m_cVv mt_X12_looks ml_X12_116 mv_X12_looks dX12_ovenOf_24 (k_X12_looks q4) rfl rfl rfl rfl (by decide) ⟨Nat.le_refl _, Nat.le_refl _⟩ (Nat.le_of_ble_eq_true rfl) ?_
      refine g_iload_n dX12_ovenOf_27 rfl ?_
      refine g_ic5 dX12_ovenOf_28 ?_
      refine g_icmp_ge 41 (by decide) dX12_ovenOf_29 (fun c6 => ?_) (fun c6 => ?_)
      · have h := g_ifp c6 h
        refine g_iload_n dX12_ovenOf_41 rfl ?_
        refine g_ic5 dX12_ovenOf_42 ?_
        refine g_icmp_ne 54 (by decide) dX12_ovenOf_43 (fun c7 => ?_) (fun c7 => ?_)
        · have h := g_ifn c7 h
          refine g_iload_n dX12_ovenOf_54 rfl ?_
          refine g_bipush (v := 6) dX12_ovenOf_55 (by decide) ?_
          refine g_icmp_ne 69 (by decide) dX12_ovenOf_57 (fun c8 => ?_) (fun c8 => ?_)
          · have h := g_ifn c8 h
            refine g_aload_n dX12_ovenOf_69 rfl ?_
            refine g_iload_n dX12_ovenOf_70 rfl ?_
            obtain ⟨x9, q10, h⟩ := g_bind h
            refine m_cV mt_X12_choice ml_X12_123 mv_X12_choice dX12_ovenOf_71 (k_X12_choice q10) rfl rfl rfl rfl (by decide) ⟨Nat.le_refl _, Nat.le_refl _⟩ (Nat.le_of_ble_eq_true rfl) ?_
            obtain rfl := Option.some.inj h
            exact g_iret rfl (Nat.le_refl _) rfl dX12_ovenOf_74 ⟨rfl, rfl⟩
          · have h := g_ifp c8 h
            refine g_aload_n dX12_ovenOf_60 rfl ?_
            refine m_getR fl_X12_22 rfl rfl rfl dX12_ovenOf_61 ?_
            refine g_iload_n dX12_ovenOf_64 rfl ?_
            obtain ⟨x11, qx11, h⟩ := g_bind h
            refine m_iald rfl qx11 dX12_ovenOf_65 ?_
            refine g_goto 74 (by decide) dX12_ovenOf_66 ?_
            obtain rfl := Option.some.inj h
            exact g_iret rfl (Nat.le_refl _) rfl dX12_ovenOf_74 ⟨rfl, rfl⟩
        · have h := g_ifp c7 h
          refine g_aload_n dX12_ovenOf_46 rfl ?_
          refine g_iload_n dX12_ovenOf_47 rfl ?_
          obtain ⟨x12, q13, h⟩ := g_bind h
          refine m_cV mt_X12_bakes ml_X12_120 mv_X12_bakes dX12_ovenOf_48 (k_X12_bakes q13) rfl rfl rfl rfl (by decide) ⟨Nat.le_refl _, Nat.le_refl _⟩ (Nat.le_of_ble_eq_true rfl) ?_
          refine g_goto 74 (by decide) dX12_ovenOf_51 ?_
          obtain rfl := Option.some.inj h
          exact g_iret rfl (Nat.le_refl _) rfl dX12_ovenOf_74 ⟨rfl, rfl⟩
      · have h := g_ifn c6 h
        refine g_aload_n dX12_ovenOf_32 rfl ?_
        refine g_iload_n dX12_ovenOf_33 rfl ?_
        refine g_iload_n dX12_ovenOf_34 rfl ?_
        obtain ⟨x14, q15, h⟩ := g_bind h
        refine m_cV mt_X12_its ml_X12_78 mv_X12_its dX12_ovenOf_35 (k_X12_its q15) rfl rfl rfl rfl (by decide) ⟨Nat.le_refl _, Nat.le_refl _⟩ (Nat.le_of_ble_eq_true rfl) ?_
        refine g_goto 74 (by decide) dX12_ovenOf_38 ?_
        obtain rfl := Option.some.inj h
        exact g_iret rfl (Nat.le_refl _) rfl dX12_ovenOf_74 ⟨rfl, rfl⟩
    · have h := g_ifp c2 h
      refine g_icm1 dX12_ovenOf_20 ?_
      obtain rfl := Option.some.inj h
      exact g_iret rfl (Nat.le_refl _) rfl dX12_ovenOf_21 ⟨rfl, rfl⟩
set_option maxRecDepth 100000 in
set_option maxHeartbeats 4000000 in
theorem k_X12_change {D : va_G} {cA : Nat → ClassId} {b k : Nat} {a1 : Int32} {a2 : Int32} {a3 : Int32} {μ : g_M} {z : Int32 × g_M} (h : f_X12_change a1 a2 a3 μ = some z) : g_K (g_XM D cA b) yX12_change Y_X12_change 2 0 0 k [.ref 0, .int a1, .int a2, .int a3] (μ, g_rfM) (fun r1 σ1 => r1 = some (.int z.1) ∧ σ1 = (z.2, g_rfM)) := by
  unfold f_X12_change at h
  refine g_met 1 (by decide) rfl rfl (Nat.le_of_ble_eq_true rfl) ?_
  refine g_aload_n dX12_change_0 rfl ?_
  refine g_iload_n dX12_change_1 rfl ?_
  refine m_cV mt_X12_isOven ml_X12_110 mv_X12_isOven dX12_change_2 (k_X12_isOven rfl) rfl rfl rfl rfl (by decide) ⟨Nat.le_refl _, Nat.le_refl _⟩ (Nat.le_of_ble_eq_true rfl) ?_
  refine g_if_eq 56 (by decide) dX12_change_5 (fun c1 => ?_) (fun c1 => ?_)
  · have h := g_ifp c1 h
    refine g_ic0 dX12_change_56 ?_
    refine g_istore_4 rfl (Nat.le_of_ble_eq_true rfl) dX12_change_57 ?_
    refine g_iload dX12_change_59 rfl ?_
    refine g_if_eq 80 (by decide) dX12_change_61 (fun c9 => ?_) (fun cd => absurd (by decide) cd)
    refine g_icm1 dX12_change_80 ?_
    obtain rfl := Option.some.inj h
    exact g_iret rfl (Nat.le_refl _) rfl dX12_change_81 ⟨rfl, rfl⟩
  · have h := g_ifn c1 h
    refine g_iload_n dX12_change_8 rfl ?_
    refine g_i2l dX12_change_9 ?_
    refine g_lc1 dX12_change_10 ?_
    refine g_ldc2 kc_X12_126 dX12_change_11 ?_
    refine m_cS mt_X12_isIn ml_X12_66 ms_X12_isIn dX12_change_14 (k_X12_isIn rfl) rfl rfl (by decide) ⟨Nat.le_refl _, Nat.le_refl _⟩ (Nat.le_of_ble_eq_true rfl) ?_
    refine g_if_eq 56 (by decide) dX12_change_17 (fun c2 => ?_) (fun c2 => ?_)
    · have h := g_ifp c2 h
      refine g_ic0 dX12_change_56 ?_
      refine g_istore_4 rfl (Nat.le_of_ble_eq_true rfl) dX12_change_57 ?_
      refine g_iload dX12_change_59 rfl ?_
      refine g_if_eq 80 (by decide) dX12_change_61 (fun c9 => ?_) (fun cd => absurd (by decide) cd)
      refine g_icm1 dX12_change_80 ?_
      obtain rfl := Option.some.inj h
      exact g_iret rfl (Nat.le_refl _) rfl dX12_change_81 ⟨rfl, rfl⟩
    · have h := g_ifn c2 h
      refine g_iload_n dX12_change_20 rfl ?_
      refine g_i2l dX12_change_21 ?_
      refine g_iload_n dX12_change_22 rfl ?_
      refine g_ic3 dX12_change_23 ?_
      refine g_icmp_ne 31 (by decide) dX12_change_24 (fun c3 => ?_) (fun c3 => ?_)
      · have h := g_ifn c3 h
        refine g_lc0 dX12_change_31 ?_
        refine g_iload_n dX12_change_32 rfl ?_
        refine g_ic2 dX12_change_33 ?_
        refine g_icmp_ne 43 (by decide) dX12_change_34 (fun c4 => ?_) (fun c4 => ?_)
        · have h := g_ifn c4 h
          refine g_ldc2 kc_X12_70 dX12_change_43 ?_
          refine m_cS mt_X12_isIn ml_X12_66 ms_X12_isIn dX12_change_46 (k_X12_isIn rfl) rfl rfl (by decide) ⟨Nat.le_refl _, Nat.le_refl _⟩ (Nat.le_of_ble_eq_true rfl) ?_
          refine g_if_eq 56 (by decide) dX12_change_49 (fun c5 => ?_) (fun c5 => ?_)
          · have h := g_ifp c5 h
            refine g_ic0 dX12_change_56 ?_
            refine g_istore_4 rfl (Nat.le_of_ble_eq_true rfl) dX12_change_57 ?_
            refine g_iload dX12_change_59 rfl ?_
            refine g_if_eq 80 (by decide) dX12_change_61 (fun c9 => ?_) (fun cd => absurd (by decide) cd)
            refine g_icm1 dX12_change_80 ?_
            obtain rfl := Option.some.inj h
            exact g_iret rfl (Nat.le_refl _) rfl dX12_change_81 ⟨rfl, rfl⟩
          · have h := g_ifn c5 h
            refine g_ic1 dX12_change_52 ?_
            refine g_goto 57 (by decide) dX12_change_53 ?_
            refine g_istore_4 rfl (Nat.le_of_ble_eq_true rfl) dX12_change_57 ?_
            refine g_iload dX12_change_59 rfl ?_
            refine g_if_eq 80 (by decide) dX12_change_61 (fun cd => absurd cd (by decide)) (fun c9 => ?_)
            refine g_aload_n dX12_change_64 rfl ?_
            refine g_bipush (v := 8) dX12_change_65 (by decide) ?_
            refine g_ic5 dX12_change_67 ?_
            refine g_iload_n dX12_change_68 rfl ?_
            refine g_imul dX12_change_69 ?_
            refine g_iadd dX12_change_70 ?_
            refine g_iload_n dX12_change_71 rfl ?_
            refine g_iadd dX12_change_72 ?_
            refine g_iload_n dX12_change_73 rfl ?_
            obtain ⟨⟨x6, μ8⟩, q7, h⟩ := g_bind h
            refine m_cV mt_X12_becomes ml_X12_128 mv_X12_becomes dX12_change_74 (k_X12_becomes q7) rfl rfl rfl rfl (by decide) ⟨Nat.le_refl _, Nat.le_refl _⟩ (Nat.le_of_ble_eq_true rfl) ?_
            refine g_goto 81 (by decide) dX12_change_77 ?_
            obtain rfl := Option.some.inj h
            exact g_iret rfl (Nat.le_refl _) rfl dX12_change_81 ⟨rfl, rfl⟩
        · have h := g_ifp c4 h
          refine g_ldc2 kc_X12_72 dX12_change_37 ?_
          refine g_goto 46 (by decide) dX12_change_40 ?_
          refine m_cS mt_X12_isIn ml_X12_66 ms_X12_isIn dX12_change_46 (k_X12_isIn rfl) rfl rfl (by decide) ⟨Nat.le_refl _, Nat.le_refl _⟩ (Nat.le_of_ble_eq_true rfl) ?_
          refine g_if_eq 56 (by decide) dX12_change_49 (fun c9 => ?_) (fun c9 => ?_)
          · have h := g_ifp c9 h
            refine g_ic0 dX12_change_56 ?_
            refine g_istore_4 rfl (Nat.le_of_ble_eq_true rfl) dX12_change_57 ?_
            refine g_iload dX12_change_59 rfl ?_
            refine g_if_eq 80 (by decide) dX12_change_61 (fun c9 => ?_) (fun cd => absurd (by decide) cd)
            refine g_icm1 dX12_change_80 ?_
            obtain rfl := Option.some.inj h
            exact g_iret rfl (Nat.le_refl _) rfl dX12_change_81 ⟨rfl, rfl⟩
          · have h := g_ifn c9 h
            refine g_ic1 dX12_change_52 ?_
            refine g_goto 57 (by decide) dX12_change_53 ?_
            refine g_istore_4 rfl (Nat.le_of_ble_eq_true rfl) dX12_change_57 ?_
            refine g_iload dX12_change_59 rfl ?_
            refine g_if_eq 80 (by decide) dX12_change_61 (fun cd => absurd cd (by decide)) (fun c9 => ?_)
            refine g_aload_n dX12_change_64 rfl ?_
            refine g_bipush (v := 8) dX12_change_65 (by decide) ?_
            refine g_ic5 dX12_change_67 ?_
            refine g_iload_n dX12_change_68 rfl ?_
            refine g_imul dX12_change_69 ?_
            refine g_iadd dX12_change_70 ?_
            refine g_iload_n dX12_change_71 rfl ?_
            refine g_iadd dX12_change_72 ?_
            refine g_iload_n dX12_change_73 rfl ?_
            obtain ⟨⟨x10, μ12⟩, q11, h⟩ := g_bind h
            refine m_cV mt_X12_becomes ml_X12_128 mv_X12_becomes dX12_change_74 (k_X12_becomes q11) rfl rfl rfl rfl (by decide) ⟨Nat.le_refl _, Nat.le_refl _⟩ (Nat.le_of_ble_eq_true rfl) ?_
            refine g_goto 81 (by decide) dX12_change_77 ?_
            obtain rfl := Option.some.inj h
            exact g_iret rfl (Nat.le_refl _) rfl dX12_change_81 ⟨rfl, rfl⟩
      · have h := g_ifp c3 h
        refine g_lc1 dX12_change_27 ?_
        refine g_goto 32 (by decide) dX12_change_28 ?_
        refine g_iload_n dX12_change_32 rfl ?_
        refine g_ic2 dX12_change_33 ?_
        refine g_icmp_ne 43 (by decide) dX12_change_34 (fun c13 => ?_) (fun c13 => ?_)
        · have h := g_ifn c13 h
          refine g_ldc2 kc_X12_70 dX12_change_43 ?_
          refine m_cS mt_X12_isIn ml_X12_66 ms_X12_isIn dX12_change_46 (k_X12_isIn rfl) rfl rfl (by decide) ⟨Nat.le_refl _, Nat.le_refl _⟩ (Nat.le_of_ble_eq_true rfl) ?_
          refine g_if_eq 56 (by decide) dX12_change_49 (fun c14 => ?_) (fun c14 => ?_)
          · have h := g_ifp c14 h
            refine g_ic0 dX12_change_56 ?_
            refine g_istore_4 rfl (Nat.le_of_ble_eq_true rfl) dX12_change_57 ?_
            refine g_iload dX12_change_59 rfl ?_
            refine g_if_eq 80 (by decide) dX12_change_61 (fun c9 => ?_) (fun cd => absurd (by decide) cd)
            refine g_icm1 dX12_change_80 ?_
            obtain rfl := Option.some.inj h
            exact g_iret rfl (Nat.le_refl _) rfl dX12_change_81 ⟨rfl, rfl⟩
          · have h := g_ifn c14 h
            refine g_ic1 dX12_change_52 ?_
            refine g_goto 57 (by decide) dX12_change_53 ?_
            refine g_istore_4 rfl (Nat.le_of_ble_eq_true rfl) dX12_change_57 ?_
            refine g_iload dX12_change_59 rfl ?_
            refine g_if_eq 80 (by decide) dX12_change_61 (fun cd => absurd cd (by decide)) (fun c9 => ?_)
            refine g_aload_n dX12_change_64 rfl ?_
            refine g_bipush (v := 8) dX12_change_65 (by decide) ?_
            refine g_ic5 dX12_change_67 ?_
            refine g_iload_n dX12_change_68 rfl ?_
            refine g_imul dX12_change_69 ?_
            refine g_iadd dX12_change_70 ?_
            refine g_iload_n dX12_change_71 rfl ?_
            refine g_iadd dX12_change_72 ?_
            refine g_iload_n dX12_change_73 rfl ?_
            obtain ⟨⟨x15, μ17⟩, q16, h⟩ := g_bind h
            refine m_cV mt_X12_becomes ml_X12_128 mv_X12_becomes dX12_change_74 (k_X12_becomes q16) rfl rfl rfl rfl (by decide) ⟨Nat.le_refl _, Nat.le_refl _⟩ (Nat.le_of_ble_eq_true rfl) ?_
            refine g_goto 81 (by decide) dX12_change_77 ?_
            obtain rfl := Option.some.inj h
            exact g_iret rfl (Nat.le_refl _) rfl dX12_change_81 ⟨rfl, rfl⟩
        · have h := g_ifp c13 h
          refine g_ldc2 kc_X12_72 dX12_change_37 ?_
          refine g_goto 46 (by decide) dX12_change_40 ?_
          refine m_cS mt_X12_isIn ml_X12_66 ms_X12_isIn dX12_change_46 (k_X12_isIn rfl) rfl rfl (by decide) ⟨Nat.le_refl _, Nat.le_refl _⟩ (Nat.le_of_ble_eq_true rfl) ?_
          refine g_if_eq 56 (by decide) dX12_change_49 (fun c18 => ?_) (fun c18 => ?_)
          · have h := g_ifp c18 h
            refine g_ic0 dX12_change_56 ?_
            refine g_istore_4 rfl (Nat.le_of_ble_eq_true rfl) dX12_change_57 ?_
            refine g_iload dX12_change_59 rfl ?_
            refine g_if_eq 80 (by decide) dX12_change_61 (fun c9 => ?_) (fun cd => absurd (by decide) cd)
            refine g_icm1 dX12_change_80 ?_
            obtain rfl := Option.some.inj h
            exact g_iret rfl (Nat.le_refl _) rfl dX12_change_81 ⟨rfl, rfl⟩
          · have h := g_ifn c18 h
            refine g_ic1 dX12_change_52 ?_
            refine g_goto 57 (by decide) dX12_change_53 ?_
            refine g_istore_4 rfl (Nat.le_of_ble_eq_true rfl) dX12_change_57 ?_
            refine g_iload dX12_change_59 rfl ?_
            refine g_if_eq 80 (by decide) dX12_change_61 (fun cd => absurd cd (by decide)) (fun c9 => ?_)
            refine g_aload_n dX12_change_64 rfl ?_
            refine g_bipush (v := 8) dX12_change_65 (by decide) ?_
            refine g_ic5 dX12_change_67 ?_
            refine g_iload_n dX12_change_68 rfl ?_
            refine g_imul dX12_change_69 ?_
            refine g_iadd dX12_change_70 ?_
            refine g_iload_n dX12_change_71 rfl ?_
            refine g_iadd dX12_change_72 ?_
            refine g_iload_n dX12_change_73 rfl ?_
            obtain ⟨⟨x19, μ21⟩, q20, h⟩ := g_bind h
            refine m_cV mt_X12_becomes ml_X12_128 mv_X12_becomes dX12_change_74 (k_X12_becomes q20) rfl rfl rfl rfl (by decide) ⟨Nat.le_refl _, Nat.le_refl _⟩ (Nat.le_of_ble_eq_true rfl) ?_
            refine g_goto 81 (by decide) dX12_change_77 ?_
            obtain rfl := Option.some.inj h
            exact g_iret rfl (Nat.le_refl _) rfl dX12_change_81 ⟨rfl, rfl⟩
set_option maxRecDepth 100000 in
set_option maxHeartbeats 4000000 in
theorem k_X12_remake {D : va_G} {cA : Nat → ClassId} {b k : Nat} {a1 : Int32} {a2 : Int32} {μ : g_M} {z : Int32 × g_M} (h : f_X12_remake a1 a2 μ = some z) : g_K (g_XM D cA b) yX12_remake Y_X12_remake 2 0 0 k [.ref 0, .int a1, .int a2] (μ, g_rfM) (fun r1 σ1 => r1 = some (.int z.1) ∧ σ1 = (z.2, g_rfM)) := by
  unfold f_X12_remake at h
  refine g_met 0 (by decide) rfl rfl (Nat.le_of_ble_eq_true rfl) ?_
  refine g_aload_n dX12_remake_0 rfl ?_
  refine g_iload_n dX12_remake_1 rfl ?_
  refine m_cV mt_X12_isOven ml_X12_110 mv_X12_isOven dX12_remake_2 (k_X12_isOven rfl) rfl rfl rfl rfl (by decide) ⟨Nat.le_refl _, Nat.le_refl _⟩ (Nat.le_of_ble_eq_true rfl) ?_
  refine g_if_eq 34 (by decide) dX12_remake_5 (fun c1 => ?_) (fun c1 => ?_)
  · have h := g_ifp c1 h
    refine g_icm1 dX12_remake_34 ?_
    obtain rfl := Option.some.inj h
    exact g_iret rfl (Nat.le_refl _) rfl dX12_remake_35 ⟨rfl, rfl⟩
  · have h := g_ifn c1 h
    refine g_iload_n dX12_remake_8 rfl ?_
    refine g_i2l dX12_remake_9 ?_
    refine g_lc1 dX12_remake_10 ?_
    refine g_ldc2 kc_X12_64 dX12_remake_11 ?_
    refine m_cS mt_X12_isIn ml_X12_66 ms_X12_isIn dX12_remake_14 (k_X12_isIn rfl) rfl rfl (by decide) ⟨Nat.le_refl _, Nat.le_refl _⟩ (Nat.le_of_ble_eq_true rfl) ?_
    refine g_if_eq 34 (by decide) dX12_remake_17 (fun c2 => ?_) (fun c2 => ?_)
    · have h := g_ifp c2 h
      refine g_icm1 dX12_remake_34 ?_
      obtain rfl := Option.some.inj h
      exact g_iret rfl (Nat.le_refl _) rfl dX12_remake_35 ⟨rfl, rfl⟩
    · have h := g_ifn c2 h
      refine g_aload_n dX12_remake_20 rfl ?_
      refine g_bipush (v := 8) dX12_remake_21 (by decide) ?_
      refine g_ic5 dX12_remake_23 ?_
      refine g_iload_n dX12_remake_24 rfl ?_
      refine g_imul dX12_remake_25 ?_
      refine g_iadd dX12_remake_26 ?_
      refine g_iload_n dX12_remake_27 rfl ?_
      obtain ⟨⟨x3, μ5⟩, q4, h⟩ := g_bind h
      refine m_cV mt_X12_becomes ml_X12_128 mv_X12_becomes dX12_remake_28 (k_X12_becomes q4) rfl rfl rfl rfl (by decide) ⟨Nat.le_refl _, Nat.le_refl _⟩ (Nat.le_of_ble_eq_true rfl) ?_
      refine g_goto 35 (by decide) dX12_remake_31 ?_
      obtain rfl := Option.some.inj h
      exact g_iret rfl (Nat.le_refl _) rfl dX12_remake_35 ⟨rfl, rfl⟩
set_option maxRecDepth 100000 in
set_option maxHeartbeats 4000000 in
theorem k_X12_longing {D : va_G} {cA : Nat → ClassId} {b k : Nat} {a1 : Int32} {a2 : Int32} {μ : g_M} {z : Int32} (h : f_X12_longing a1 a2 μ = some z) : g_K (g_XM D cA b) yX12_longing Y_X12_longing 4 0 0 k [.ref 0, .int a1, .int a2] (μ, g_rfM) (fun r1 σ1 => r1 = some (.int z) ∧ σ1 = (μ, g_rfM)) := by
  unfold f_X12_longing at h
  refine g_met 0 (by decide) rfl rfl (Nat.le_of_ble_eq_true rfl) ?_
  refine g_aload_n dX12_longing_0 rfl ?_
  refine g_iload_n dX12_longing_1 rfl ?_
  refine m_cV mt_X12_isOven ml_X12_110 mv_X12_isOven dX12_longing_2 (k_X12_isOven rfl) rfl rfl rfl rfl (by decide) ⟨Nat.le_refl _, Nat.le_refl _⟩ (Nat.le_of_ble_eq_true rfl) ?_
  refine g_if_eq 33 (by decide) dX12_longing_5 (fun c1 => ?_) (fun c1 => ?_)
  · have h := g_ifp c1 h
    refine g_icm1 dX12_longing_33 ?_
    obtain rfl := Option.some.inj h
    exact g_iret rfl (Nat.le_refl _) rfl dX12_longing_34 ⟨rfl, rfl⟩
  · have h := g_ifn c1 h
    refine g_aload_n dX12_longing_8 rfl ?_
    refine g_iload_n dX12_longing_9 rfl ?_
    refine m_cV mt_X12_isOven ml_X12_110 mv_X12_isOven dX12_longing_10 (k_X12_isOven rfl) rfl rfl rfl rfl (by decide) ⟨Nat.le_refl _, Nat.le_refl _⟩ (Nat.le_of_ble_eq_true rfl) ?_
    refine g_if_eq 33 (by decide) dX12_longing_13 (fun c2 => ?_) (fun c2 => ?_)
    · have h := g_ifp c2 h
      refine g_icm1 dX12_longing_33 ?_
      obtain rfl := Option.some.inj h
      exact g_iret rfl (Nat.le_refl _) rfl dX12_longing_34 ⟨rfl, rfl⟩
    · have h := g_ifn c2 h
      refine g_iload_n dX12_longing_16 rfl ?_
      refine g_iload_n dX12_longing_17 rfl ?_
      refine g_icmp_eq 33 (by decide) dX12_longing_18 (fun c3 => ?_) (fun c3 => ?_)
      · have h := g_ifp c3 h
        refine g_icm1 dX12_longing_33 ?_
        obtain rfl := Option.some.inj h
        exact g_iret rfl (Nat.le_refl _) rfl dX12_longing_34 ⟨rfl, rfl⟩
      · have h := g_ifn c3 h
        refine g_aload_n dX12_longing_21 rfl ?_
        refine g_iload_n dX12_longing_22 rfl ?_
        refine g_iload_n dX12_longing_23 rfl ?_
        obtain ⟨x4, q5, h⟩ := g_bind h
        refine m_cV mt_X12_longs ml_X12_107 mv_X12_longs dX12_longing_24 (k_X12_longs q5) rfl rfl rfl rfl (by decide) ⟨Nat.le_refl _, Nat.le_refl _⟩ (Nat.le_of_ble_eq_true rfl) ?_
        refine g_bipush (v := 100) dX12_longing_27 (by decide) ?_
        refine g_iadd dX12_longing_29 ?_
        refine g_goto 34 (by decide) dX12_longing_30 ?_
        obtain rfl := Option.some.inj h
        exact g_iret rfl (Nat.le_refl _) rfl dX12_longing_34 ⟨rfl, rfl⟩
set_option maxRecDepth 100000 in
set_option maxHeartbeats 4000000 in
theorem k_X12_ends {D : va_G} {cA : Nat → ClassId} {b k : Nat} {a1 : Int32} {μ : g_M} {z : Int32 × g_M} (h : f_X12_ends a1 μ = some z) : g_K (g_XM D cA b) yX12_ends Y_X12_ends 2 0 0 k [.ref 0, .int a1] (μ, g_rfM) (fun r1 σ1 => r1 = some (.int z.1) ∧ σ1 = (z.2, g_rfM)) := by
  unfold f_X12_ends at h
  refine g_met 0 (by decide) rfl rfl (Nat.le_of_ble_eq_true rfl) ?_
  refine g_iload_n dX12_ends_0 rfl ?_
  refine g_i2l dX12_ends_1 ?_
  refine g_lc1 dX12_ends_2 ?_
  refine g_ldc2 kc_X12_131 dX12_ends_3 ?_
  refine m_cS mt_X12_isIn ml_X12_66 ms_X12_isIn dX12_ends_6 (k_X12_isIn rfl) rfl rfl (by decide) ⟨Nat.le_refl _, Nat.le_refl _⟩ (Nat.le_of_ble_eq_true rfl) ?_
  refine g_if_ne 14 (by decide) dX12_ends_9 (fun c1 => ?_) (fun c1 => ?_)
  · have h := g_ifn c1 h
    refine g_iload_n dX12_ends_14 rfl ?_
    refine g_aload_n dX12_ends_15 rfl ?_
    refine m_getR fl_X12_7 rfl rfl rfl dX12_ends_16 ?_
    refine g_ic1 dX12_ends_19 ?_
    refine m_ialdc 1 rfl rfl (by decide) (by decide) dX12_ends_20 ?_
    refine g_icmp_ge 29 (by decide) dX12_ends_21 (fun c2 => ?_) (fun c2 => ?_)
    · have h := g_ifp c2 h
      refine g_aload_n dX12_ends_29 rfl ?_
      refine g_ic2 dX12_ends_30 ?_
      refine g_iload_n dX12_ends_31 rfl ?_
      obtain ⟨⟨x3, μ5⟩, q4, h⟩ := g_bind h
      refine m_cV mt_X12_becomes ml_X12_128 mv_X12_becomes dX12_ends_32 (k_X12_becomes q4) rfl rfl rfl rfl (by decide) ⟨Nat.le_refl _, Nat.le_refl _⟩ (Nat.le_of_ble_eq_true rfl) ?_
      obtain rfl := Option.some.inj h
      exact g_iret rfl (Nat.le_refl _) rfl dX12_ends_35 ⟨rfl, rfl⟩
    · have h := g_ifn c2 h
      refine g_bipush (v := (-4)) dX12_ends_24 (by decide) ?_
      refine g_goto 35 (by decide) dX12_ends_26 ?_
      obtain rfl := Option.some.inj h
      exact g_iret rfl (Nat.le_refl _) rfl dX12_ends_35 ⟨rfl, rfl⟩
  · have h := g_ifp c1 h
    refine g_icm1 dX12_ends_12 ?_
    obtain rfl := Option.some.inj h
    exact g_iret rfl (Nat.le_refl _) rfl dX12_ends_13 ⟨rfl, rfl⟩
set_option maxRecDepth 100000 in
set_option maxHeartbeats 4000000 in
theorem k_X12_anew_L2 {D : va_G} {cA : Nat → ClassId} {b k : Nat} {Q : Option Value → g_S → Prop} {N : Nat} : ∀ (n : Nat) (x_1 : Int32) (μ : g_M) (z_μ : g_M), f_X12_anew_L2 N n x_1 μ = some z_μ → g_V (g_XM D cA b) Y_X12_anew 2 0 0 Q k 0 0 32 [some (.ref 0), none] [] (z_μ, g_rfM) → g_V (g_XM D cA b) Y_X12_anew 2 0 0 Q k 0 0 2 [some (.ref 0), some (.int x_1)] [] (μ, g_rfM) := by
  intro n
  induction n with
  | zero =>
    intro x_1 μ z_μ h
    rw [f_X12_anew_L2] at h
    cases h
  | succ n ih =>
    intro x_1 μ z_μ h hc
    rw [f_X12_anew_L2] at h
    refine g_iload_n dX12_anew_2 rfl ?_
    refine g_aload_n dX12_anew_3 rfl ?_
    refine m_getR fl_X12_7 rfl rfl rfl dX12_anew_4 ?_
    refine g_ic0 dX12_anew_7 ?_
    refine m_ialdc 0 rfl rfl (by decide) (by decide) dX12_anew_8 ?_
    refine g_icmp_ge 32 (by decide) dX12_anew_9 (fun c1 => ?_) (fun c1 => ?_)
    · have h := g_ifp c1 h
      obtain rfl := Option.some.inj h
      exact g_less _ (g_subS (g_subN g_sub0)) hc
    · have h := g_ifn c1 h
      refine g_aload_n dX12_anew_12 rfl ?_
      refine m_getR fl_X12_7 rfl rfl rfl dX12_anew_13 ?_
      refine g_bipush (v := 8) dX12_anew_16 (by decide) ?_
      refine g_ic5 dX12_anew_18 ?_
      refine g_iload_n dX12_anew_19 rfl ?_
      refine g_imul dX12_anew_20 ?_
      refine g_iadd dX12_anew_21 ?_
      refine g_ic4 dX12_anew_22 ?_
      refine g_iadd dX12_anew_23 ?_
      refine g_ic0 dX12_anew_24 ?_
      obtain ⟨μ2, qμ2, h⟩ := g_bind h
      refine m_iast rfl qμ2 dX12_anew_25 ?_
      refine g_iinc_1 (v := 1) rfl (by decide) (Nat.le_of_ble_eq_true rfl) dX12_anew_26 ?_
      refine g_goto 2 (by decide) dX12_anew_29 ?_
      exact g_less _ (g_subS (g_subS g_sub0)) (ih _ _ _ h hc)
set_option maxRecDepth 100000 in
set_option maxHeartbeats 4000000 in
theorem k_X12_anew {D : va_G} {cA : Nat → ClassId} {b k : Nat} {N : Nat} {μ : g_M} {z : Int32 × g_M} (h : f_X12_anew N μ = some z) : g_K (g_XM D cA b) yX12_anew Y_X12_anew 2 0 0 k [.ref 0] (μ, g_rfM) (fun r1 σ1 => r1 = some (.int z.1) ∧ σ1 = (z.2, g_rfM)) := by
  unfold f_X12_anew at h
  refine g_met 1 (by decide) rfl rfl (Nat.le_of_ble_eq_true rfl) ?_
  refine g_ic0 dX12_anew_0 ?_
  refine g_istore_1 rfl (Nat.le_of_ble_eq_true rfl) dX12_anew_1 ?_
  obtain ⟨μ1, q2, h⟩ := g_bind h
  refine g_less _ (g_subS (g_subS g_sub0)) (k_X12_anew_L2 _ _ _ _ q2 ?_)
  refine g_aload_n dX12_anew_32 rfl ?_
  refine m_getR fl_X12_7 rfl rfl rfl dX12_anew_33 ?_
  refine g_ic3 dX12_anew_36 ?_
  refine g_ic0 dX12_anew_37 ?_
  obtain ⟨μ3, eμ3, h⟩ := g_let h
  refine m_iastc 3 rfl rfl (by decide) (by decide) dX12_anew_38 eμ3 ?_
  refine g_aload_n dX12_anew_39 rfl ?_
  refine g_ic1 dX12_anew_40 ?_
  refine g_ic0 dX12_anew_41 ?_
  obtain ⟨⟨x4, μ6⟩, q5, h⟩ := g_bind h
  refine m_cV mt_X12_becomes ml_X12_128 mv_X12_becomes dX12_anew_42 (k_X12_becomes q5) rfl rfl rfl rfl (by decide) ⟨Nat.le_refl _, Nat.le_refl _⟩ (Nat.le_of_ble_eq_true rfl) ?_
  obtain rfl := Option.some.inj h
  exact g_iret rfl (Nat.le_refl _) rfl dX12_anew_45 ⟨rfl, rfl⟩
set_option maxRecDepth 100000 in
set_option maxHeartbeats 4000000 in
theorem k_X12_home_L4 {D : va_G} {cA : Nat → ClassId} {b k : Nat} {Q : Option Value → g_S → Prop} {N : Nat} : ∀ (n : Nat) (x_1 : Int32) (x_2 : Int32) (μ : g_M) (z_1 : Int32), f_X12_home_L4 N n x_1 x_2 μ = some z_1 → g_V (g_XM D cA b) Y_X12_home 2 0 0 Q k 0 0 39 [none, some (.int z_1), none] [] (μ, g_rfM) → g_V (g_XM D cA b) Y_X12_home 2 0 0 Q k 0 0 4 [some (.ref 0), some (.int x_1), some (.int x_2)] [] (μ, g_rfM) := by
  intro n
  induction n with
  | zero =>
    intro x_1 x_2 μ z_1 h
    rw [f_X12_home_L4] at h
    cases h
  | succ n ih =>
    intro x_1 x_2 μ z_1 h hc
    rw [f_X12_home_L4] at h
    refine g_iload_n dX12_home_4 rfl ?_
    refine g_aload_n dX12_home_5 rfl ?_
    refine m_getR fl_X12_7 rfl rfl rfl dX12_home_6 ?_
    refine g_ic0 dX12_home_9 ?_
    refine m_ialdc 0 rfl rfl (by decide) (by decide) dX12_home_10 ?_
    refine g_icmp_ge 39 (by decide) dX12_home_11 (fun c1 => ?_) (fun c1 => ?_)
    · have h := g_ifp c1 h
      obtain rfl := Option.some.inj h
      exact g_less _ (g_subN (g_subS (g_subN g_sub0))) hc
    · have h := g_ifn c1 h
      refine g_iload_n dX12_home_14 rfl ?_
      refine g_aload_n dX12_home_15 rfl ?_
      refine g_iload_n dX12_home_16 rfl ?_
      refine g_ic4 dX12_home_17 ?_
      obtain ⟨x2, q3, h⟩ := g_bind h
      refine m_cV mt_X12_its ml_X12_78 mv_X12_its dX12_home_18 (k_X12_its q3) rfl rfl rfl rfl (by decide) ⟨Nat.le_refl _, Nat.le_refl _⟩ (Nat.le_of_ble_eq_true rfl) ?_
      refine g_if_ne 30 (by decide) dX12_home_21 (fun c4 => ?_) (fun c4 => ?_)
      · have h := g_ifn c4 h
        refine g_ic0 dX12_home_30 ?_
        refine g_ior dX12_home_31 ?_
        obtain ⟨x5, ex5, h⟩ := g_let h
        refine g_top ex5 ?_
        refine g_istore_1 rfl (Nat.le_of_ble_eq_true rfl) dX12_home_32 ?_
        refine g_iinc_2 (v := 1) rfl (by decide) (Nat.le_of_ble_eq_true rfl) dX12_home_33 ?_
        refine g_goto 4 (by decide) dX12_home_36 ?_
        exact g_less _ (g_subS (g_subS (g_subS g_sub0))) (ih _ _ _ _ h hc)
      · have h := g_ifp c4 h
        refine g_ic1 dX12_home_24 ?_
        refine g_iload_n dX12_home_25 rfl ?_
        refine g_ishl dX12_home_26 ?_
        refine g_goto 31 (by decide) dX12_home_27 ?_
        refine g_ior dX12_home_31 ?_
        obtain ⟨x6, ex6, h⟩ := g_let h
        refine g_top ex6 ?_
        refine g_istore_1 rfl (Nat.le_of_ble_eq_true rfl) dX12_home_32 ?_
        refine g_iinc_2 (v := 1) rfl (by decide) (Nat.le_of_ble_eq_true rfl) dX12_home_33 ?_
        refine g_goto 4 (by decide) dX12_home_36 ?_
        exact g_less _ (g_subS (g_subS (g_subS g_sub0))) (ih _ _ _ _ h hc)
set_option maxRecDepth 100000 in
set_option maxHeartbeats 4000000 in
theorem k_X12_home {D : va_G} {cA : Nat → ClassId} {b k : Nat} {N : Nat} {μ : g_M} {z : Int32} (h : f_X12_home N μ = some z) : g_K (g_XM D cA b) yX12_home Y_X12_home 2 0 0 k [.ref 0] (μ, g_rfM) (fun r1 σ1 => r1 = some (.int z) ∧ σ1 = (μ, g_rfM)) := by
  unfold f_X12_home at h
  refine g_met 2 (by decide) rfl rfl (Nat.le_of_ble_eq_true rfl) ?_
  refine g_ic0 dX12_home_0 ?_
  refine g_istore_1 rfl (Nat.le_of_ble_eq_true rfl) dX12_home_1 ?_
  refine g_ic0 dX12_home_2 ?_
  refine g_istore_2 rfl (Nat.le_of_ble_eq_true rfl) dX12_home_3 ?_
  obtain ⟨x1, q2, h⟩ := g_bind h
  refine g_less _ (g_subS (g_subS (g_subS g_sub0))) (k_X12_home_L4 _ _ _ _ _ q2 ?_)
  refine g_iload_n dX12_home_39 rfl ?_
  obtain rfl := Option.some.inj h
  exact g_iret rfl (Nat.le_refl _) rfl dX12_home_40 ⟨rfl, rfl⟩
set_option maxRecDepth 100000 in
set_option maxHeartbeats 4000000 in
theorem k_X12_state {D : va_G} {cA : Nat → ClassId} {b k : Nat} {N : Nat} {a1 : Int32} {μ : g_M} {z : Int32} (h : f_X12_state N a1 μ = some z) : g_K (g_XM D cA b) yX12_state Y_X12_state 3 0 0 k [.ref 0, .int a1] (μ, g_rfM) (fun r1 σ1 => r1 = some (.int z) ∧ σ1 = (μ, g_rfM)) := by
  unfold f_X12_state at h
  refine g_met 0 (by decide) rfl rfl (Nat.le_of_ble_eq_true rfl) ?_
  refine g_iload_n dX12_state_0 rfl ?_
  by_cases c1 : a1 = 0
  · have h := g_ifp c1 h
    refine m_tab 0 36 c1 dX12_state_1 (by decide) (by decide) rfl (by decide) ?_
    refine g_aload_n dX12_state_36 rfl ?_
    refine m_getR fl_X12_7 rfl rfl rfl dX12_state_37 ?_
    refine g_ic1 dX12_state_40 ?_
    refine g_iload_n dX12_state_41 rfl ?_
    refine g_iadd dX12_state_42 ?_
    obtain ⟨x2, qx2, h⟩ := g_bind h
    refine m_iald rfl qx2 dX12_state_43 ?_
    obtain rfl := Option.some.inj h
    exact g_iret rfl (Nat.le_refl _) rfl dX12_state_44 ⟨rfl, rfl⟩
  have h := g_ifn c1 h
  by_cases c3 : a1 = 1
  · have h := g_ifp c3 h
    refine m_tab 1 36 c3 dX12_state_1 (by decide) (by decide) rfl (by decide) ?_
    refine g_aload_n dX12_state_36 rfl ?_
    refine m_getR fl_X12_7 rfl rfl rfl dX12_state_37 ?_
    refine g_ic1 dX12_state_40 ?_
    refine g_iload_n dX12_state_41 rfl ?_
    refine g_iadd dX12_state_42 ?_
    obtain ⟨x4, qx4, h⟩ := g_bind h
    refine m_iald rfl qx4 dX12_state_43 ?_
    obtain rfl := Option.some.inj h
    exact g_iret rfl (Nat.le_refl _) rfl dX12_state_44 ⟨rfl, rfl⟩
  have h := g_ifn c3 h
  by_cases c5 : a1 = 2
  · have h := g_ifp c5 h
    refine m_tab 2 36 c5 dX12_state_1 (by decide) (by decide) rfl (by decide) ?_
    refine g_aload_n dX12_state_36 rfl ?_
    refine m_getR fl_X12_7 rfl rfl rfl dX12_state_37 ?_
    refine g_ic1 dX12_state_40 ?_
    refine g_iload_n dX12_state_41 rfl ?_
    refine g_iadd dX12_state_42 ?_
    obtain ⟨x6, qx6, h⟩ := g_bind h
    refine m_iald rfl qx6 dX12_state_43 ?_
    obtain rfl := Option.some.inj h
    exact g_iret rfl (Nat.le_refl _) rfl dX12_state_44 ⟨rfl, rfl⟩
  have h := g_ifn c5 h
  by_cases c7 : a1 = 3
  · have h := g_ifp c7 h
    refine m_tab 3 45 c7 dX12_state_1 (by decide) (by decide) rfl (by decide) ?_
    refine g_aload_n dX12_state_45 rfl ?_
    refine m_cV mt_X12_isOver ml_X12_133 mv_X12_isOver dX12_state_46 (k_X12_isOver rfl) rfl rfl rfl rfl (by decide) ⟨Nat.le_refl _, Nat.le_refl _⟩ (Nat.le_of_ble_eq_true rfl) ?_
    refine g_if_eq 56 (by decide) dX12_state_49 (fun c8 => ?_) (fun c8 => ?_)
    · have h := g_ifp c8 h
      refine g_ic0 dX12_state_56 ?_
      obtain rfl := Option.some.inj h
      exact g_iret rfl (Nat.le_refl _) rfl dX12_state_57 ⟨rfl, rfl⟩
    · have h := g_ifn c8 h
      refine g_ic1 dX12_state_52 ?_
      refine g_goto 57 (by decide) dX12_state_53 ?_
      obtain rfl := Option.some.inj h
      exact g_iret rfl (Nat.le_refl _) rfl dX12_state_57 ⟨rfl, rfl⟩
  have h := g_ifn c7 h
  by_cases c9 : a1 = 4
  · have h := g_ifp c9 h
    refine m_tab 4 58 c9 dX12_state_1 (by decide) (by decide) rfl (by decide) ?_
    refine g_aload_n dX12_state_58 rfl ?_
    obtain ⟨x10, q11, h⟩ := g_bind h
    refine m_cV mt_X12_home ml_X12_137 mv_X12_home dX12_state_59 (k_X12_home q11) rfl rfl rfl rfl (by decide) ⟨Nat.le_refl _, Nat.le_refl _⟩ (Nat.le_of_ble_eq_true rfl) ?_
    obtain rfl := Option.some.inj h
    exact g_iret rfl (Nat.le_refl _) rfl dX12_state_62 ⟨rfl, rfl⟩
  have h := g_ifn c9 h
  refine g_tabOut 63 dX12_state_1 (by have nc1 := m_ne 0 0 c1 (by decide); have nc3 := m_ne 1 1 c3 (by decide); have nc5 := m_ne 2 2 c5 (by decide); have nc7 := m_ne 3 3 c7 (by decide); have nc9 := m_ne 4 4 c9 (by decide); omega) (by decide) ?_
  refine g_icm1 dX12_state_63 ?_
  obtain rfl := Option.some.inj h
  exact g_iret rfl (Nat.le_refl _) rfl dX12_state_64 ⟨rfl, rfl⟩
set_option maxRecDepth 100000 in
set_option maxHeartbeats 4000000 in
theorem k_X12_feed_L32 {D : va_G} {cA : Nat → ClassId} {b k : Nat} {Q : Option Value → g_S → Prop} {N : Nat} : ∀ (n : Nat) (x_1 : Int64) (x_3 : Int32) (x_4 : Int32) (μ : g_M) (z_μ : g_M), f_X12_feed_L32 N n x_1 x_3 x_4 μ = some z_μ → g_V (g_XM D cA b) Y_X12_feed 2 0 0 Q k 0 0 75 [some (.ref 0), none, none, none, none] [] (z_μ, g_rfM) → g_V (g_XM D cA b) Y_X12_feed 2 0 0 Q k 0 0 32 [some (.ref 0), some (.long x_1), none, some (.int x_3), some (.int x_4)] [] (μ, g_rfM) := by
  intro n
  induction n with
  | zero =>
    intro x_1 x_3 x_4 μ z_μ h
    rw [f_X12_feed_L32] at h
    cases h
  | succ n ih =>
    intro x_1 x_3 x_4 μ z_μ h hc
    rw [f_X12_feed_L32] at h
    refine g_iload dX12_feed_32 rfl ?_
    refine g_iload_n dX12_feed_34 rfl ?_
    refine g_icmp_ge 75 (by decide) dX12_feed_35 (fun c3 => ?_) (fun c3 => ?_)
    · have h := g_ifp c3 h
      obtain rfl := Option.some.inj h
      exact g_less _ (g_subS (g_subN (g_subN (g_subN (g_subN g_sub0))))) hc
    · have h := g_ifn c3 h
      refine g_aload_n dX12_feed_38 rfl ?_
      refine m_getR fl_X12_19 rfl rfl rfl dX12_feed_39 ?_
      refine g_aload_n dX12_feed_42 rfl ?_
      refine m_getI fl_X12_143 rfl rfl dX12_feed_43 ?_
      refine g_lload_n dX12_feed_46 rfl ?_
      refine g_bipush (v := 8) dX12_feed_47 (by decide) ?_
      refine g_iload dX12_feed_49 rfl ?_
      refine g_imul dX12_feed_51 ?_
      refine g_lshr dX12_feed_52 ?_
      refine g_ldc2 kc_X12_146 dX12_feed_53 ?_
      refine g_land dX12_feed_56 ?_
      refine g_l2i dX12_feed_57 ?_
      obtain ⟨μ4, qμ4, h⟩ := g_bind h
      refine m_iast rfl qμ4 dX12_feed_58 ?_
      refine g_aload_n dX12_feed_59 rfl ?_
      refine g_dup dX12_feed_60 rfl ?_
      refine m_getI fl_X12_143 rfl rfl dX12_feed_61 ?_
      refine g_ic1 dX12_feed_64 ?_
      refine g_iadd dX12_feed_65 ?_
      obtain ⟨μ5, eμ5, h⟩ := g_let h
      refine m_putI fl_X12_143 fw_12_5 rfl rfl rfl rfl dX12_feed_66 eμ5 ?_
      refine g_iinc_4 (v := 1) rfl (by decide) (Nat.le_of_ble_eq_true rfl) dX12_feed_69 ?_
      refine g_goto 32 (by decide) dX12_feed_72 ?_
      exact g_less _ (g_subS (g_subS (g_subN (g_subS (g_subS g_sub0))))) (ih _ _ _ _ _ h hc)
set_option maxRecDepth 100000 in
set_option maxHeartbeats 4000000 in
theorem k_X12_feed {D : va_G} {cA : Nat → ClassId} {b k : Nat} {N : Nat} {a1 : Int64} {a2 : Int32} {μ : g_M} {z : Int32 × g_M} (h : f_X12_feed N a1 a2 μ = some z) : g_K (g_XM D cA b) yX12_feed Y_X12_feed 2 0 0 k [.ref 0, .long a1, .int a2] (μ, g_rfM) (fun r1 σ1 => r1 = some (.int z.1) ∧ σ1 = (z.2, g_rfM)) := by
  unfold f_X12_feed at h
  refine g_met 1 (by decide) rfl rfl (Nat.le_of_ble_eq_true rfl) ?_
  refine g_iload_n dX12_feed_0 rfl ?_
  refine g_i2l dX12_feed_1 ?_
  refine g_lc1 dX12_feed_2 ?_
  refine g_ldc2 kc_X12_141 dX12_feed_3 ?_
  refine m_cS mt_X12_isIn ml_X12_66 ms_X12_isIn dX12_feed_6 (k_X12_isIn rfl) rfl rfl (by decide) ⟨Nat.le_refl _, Nat.le_refl _⟩ (Nat.le_of_ble_eq_true rfl) ?_
  refine g_if_ne 14 (by decide) dX12_feed_9 (fun c1 => ?_) (fun c1 => ?_)
  · have h := g_ifn c1 h
    refine g_aload_n dX12_feed_14 rfl ?_
    refine m_getI fl_X12_143 rfl rfl dX12_feed_15 ?_
    refine g_iload_n dX12_feed_18 rfl ?_
    refine g_iadd dX12_feed_19 ?_
    refine g_sipush (v := 200) dX12_feed_20 (by decide) ?_
    refine g_icmp_le 29 (by decide) dX12_feed_23 (fun c2 => ?_) (fun c2 => ?_)
    · have h := g_ifp c2 h
      refine g_ic0 dX12_feed_29 ?_
      refine g_istore_4 rfl (Nat.le_of_ble_eq_true rfl) dX12_feed_30 ?_
      obtain ⟨μ3, q4, h⟩ := g_bind h
      refine g_less _ (g_subS (g_subS (g_subN (g_subS (g_subS g_sub0))))) (k_X12_feed_L32 _ _ _ _ _ _ q4 ?_)
      refine g_aload_n dX12_feed_75 rfl ?_
      refine m_getI fl_X12_143 rfl rfl dX12_feed_76 ?_
      obtain rfl := Option.some.inj h
      exact g_iret rfl (Nat.le_refl _) rfl dX12_feed_79 ⟨rfl, rfl⟩
    · have h := g_ifn c2 h
      refine g_bipush (v := (-2)) dX12_feed_26 (by decide) ?_
      obtain rfl := Option.some.inj h
      exact g_iret rfl (Nat.le_refl _) rfl dX12_feed_28 ⟨rfl, rfl⟩
  · have h := g_ifp c1 h
    refine g_icm1 dX12_feed_12 ?_
    obtain rfl := Option.some.inj h
    exact g_iret rfl (Nat.le_refl _) rfl dX12_feed_13 ⟨rfl, rfl⟩
set_option maxRecDepth 100000 in
set_option maxHeartbeats 4000000 in
theorem k_X12_isAlpha {D : va_G} {cA : Nat → ClassId} {b k : Nat} {a1 : Int32} {μ : g_M} {z : Int32} (h : f_X12_isAlpha a1 = z) : g_K (g_XM D cA b) yX12_isAlpha Y_X12_isAlpha 1 0 0 k [.int a1] (μ, g_rfM) (fun r1 σ1 => r1 = some (.int z) ∧ σ1 = (μ, g_rfM)) := by
  unfold f_X12_isAlpha at h
  refine g_met 0 (by decide) rfl rfl (Nat.le_of_ble_eq_true rfl) ?_
  refine g_iload_n dX12_isAlpha_0 rfl ?_
  refine g_bipush (v := 97) dX12_isAlpha_1 (by decide) ?_
  refine g_icmp_lt 16 (by decide) dX12_isAlpha_3 (fun c1 => ?_) (fun c1 => ?_)
  · have h := g_ifp c1 h
    refine g_ic0 dX12_isAlpha_16 ?_
    subst h
    exact g_zret rfl (Nat.le_refl _) rfl rfl dX12_isAlpha_17 ⟨rfl, rfl⟩
  · have h := g_ifn c1 h
    refine g_iload_n dX12_isAlpha_6 rfl ?_
    refine g_bipush (v := 122) dX12_isAlpha_7 (by decide) ?_
    refine g_icmp_gt 16 (by decide) dX12_isAlpha_9 (fun c2 => ?_) (fun c2 => ?_)
    · have h := g_ifp c2 h
      refine g_ic0 dX12_isAlpha_16 ?_
      subst h
      exact g_zret rfl (Nat.le_refl _) rfl rfl dX12_isAlpha_17 ⟨rfl, rfl⟩
    · have h := g_ifn c2 h
      refine g_ic1 dX12_isAlpha_12 ?_
      refine g_goto 17 (by decide) dX12_isAlpha_13 ?_
      subst h
      exact g_zret rfl (Nat.le_refl _) rfl rfl dX12_isAlpha_17 ⟨rfl, rfl⟩
set_option maxRecDepth 100000 in
set_option maxHeartbeats 4000000 in
theorem zb_X12_isAlpha (a1 : Int32) : narrow .boolean (.int (f_X12_isAlpha a1)) = .int (f_X12_isAlpha a1) := by
  unfold f_X12_isAlpha
  repeat' split
  all_goals first | rfl | rfl
set_option maxRecDepth 100000 in
set_option maxHeartbeats 4000000 in
theorem k_X12_isDigit {D : va_G} {cA : Nat → ClassId} {b k : Nat} {a1 : Int32} {μ : g_M} {z : Int32} (h : f_X12_isDigit a1 = z) : g_K (g_XM D cA b) yX12_isDigit Y_X12_isDigit 1 0 0 k [.int a1] (μ, g_rfM) (fun r1 σ1 => r1 = some (.int z) ∧ σ1 = (μ, g_rfM)) := by
  unfold f_X12_isDigit at h
  refine g_met 0 (by decide) rfl rfl (Nat.le_of_ble_eq_true rfl) ?_
  refine g_iload_n dX12_isDigit_0 rfl ?_
  refine g_bipush (v := 48) dX12_isDigit_1 (by decide) ?_
  refine g_icmp_lt 16 (by decide) dX12_isDigit_3 (fun c1 => ?_) (fun c1 => ?_)
  · have h := g_ifp c1 h
    refine g_ic0 dX12_isDigit_16 ?_
    subst h
    exact g_zret rfl (Nat.le_refl _) rfl rfl dX12_isDigit_17 ⟨rfl, rfl⟩
  · have h := g_ifn c1 h
    refine g_iload_n dX12_isDigit_6 rfl ?_
    refine g_bipush (v := 57) dX12_isDigit_7 (by decide) ?_
    refine g_icmp_gt 16 (by decide) dX12_isDigit_9 (fun c2 => ?_) (fun c2 => ?_)
    · have h := g_ifp c2 h
      refine g_ic0 dX12_isDigit_16 ?_
      subst h
      exact g_zret rfl (Nat.le_refl _) rfl rfl dX12_isDigit_17 ⟨rfl, rfl⟩
    · have h := g_ifn c2 h
      refine g_ic1 dX12_isDigit_12 ?_
      refine g_goto 17 (by decide) dX12_isDigit_13 ?_
      subst h
      exact g_zret rfl (Nat.le_refl _) rfl rfl dX12_isDigit_17 ⟨rfl, rfl⟩
set_option maxRecDepth 100000 in
set_option maxHeartbeats 4000000 in
theorem zb_X12_isDigit (a1 : Int32) : narrow .boolean (.int (f_X12_isDigit a1)) = .int (f_X12_isDigit a1) := by
  unfold f_X12_isDigit
  repeat' split
  all_goals first | rfl | rfl
set_option maxRecDepth 100000 in
set_option maxHeartbeats 4000000 in
theorem k_X12_byteAt {D : va_G} {cA : Nat → ClassId} {b k : Nat} {a1 : Int32} {μ : g_M} {z : Int32} (h : f_X12_byteAt a1 μ = some z) : g_K (g_XM D cA b) yX12_byteAt Y_X12_byteAt 1 0 0 k [.ref 0, .int a1] (μ, g_rfM) (fun r1 σ1 => r1 = some (.int z) ∧ σ1 = (μ, g_rfM)) := by
  unfold f_X12_byteAt at h
  refine g_met 0 (by decide) rfl rfl (Nat.le_of_ble_eq_true rfl) ?_
  refine g_iload_n dX12_byteAt_0 rfl ?_
  refine g_aload_n dX12_byteAt_1 rfl ?_
  refine m_getI fl_X12_143 rfl rfl dX12_byteAt_2 ?_
  refine g_icmp_ge 17 (by decide) dX12_byteAt_5 (fun c1 => ?_) (fun c1 => ?_)
  · have h := g_ifp c1 h
    refine g_icm1 dX12_byteAt_17 ?_
    obtain rfl := Option.some.inj h
    exact g_iret rfl (Nat.le_refl _) rfl dX12_byteAt_18 ⟨rfl, rfl⟩
  · have h := g_ifn c1 h
    refine g_aload_n dX12_byteAt_8 rfl ?_
    refine m_getR fl_X12_19 rfl rfl rfl dX12_byteAt_9 ?_
    refine g_iload_n dX12_byteAt_12 rfl ?_
    obtain ⟨x2, qx2, h⟩ := g_bind h
    refine m_iald rfl qx2 dX12_byteAt_13 ?_
    refine g_goto 18 (by decide) dX12_byteAt_14 ?_
    obtain rfl := Option.some.inj h
    exact g_iret rfl (Nat.le_refl _) rfl dX12_byteAt_18 ⟨rfl, rfl⟩
set_option maxRecDepth 100000 in
set_option maxHeartbeats 4000000 in
theorem k_X12_nextToken_L8 {D : va_G} {cA : Nat → ClassId} {b k : Nat} {Q : Option Value → g_S → Prop} {N : Nat} : ∀ (n : Nat) (μ : g_M) (z_μ : g_M), f_X12_nextToken_L8 N n μ = some z_μ → g_V (g_XM D cA b) Y_X12_nextToken 2 0 0 Q k 0 0 34 [some (.ref 0), none] [] (z_μ, g_rfM) → g_V (g_XM D cA b) Y_X12_nextToken 2 0 0 Q k 0 0 8 [some (.ref 0), none] [] (μ, g_rfM) := by
  intro n
  induction n with
  | zero =>
    intro μ z_μ h
    rw [f_X12_nextToken_L8] at h
    cases h
  | succ n ih =>
    intro μ z_μ h hc
    rw [f_X12_nextToken_L8] at h
    refine g_aload_n dX12_nextToken_8 rfl ?_
    refine g_aload_n dX12_nextToken_9 rfl ?_
    refine m_getI fl_X12_151 rfl rfl dX12_nextToken_10 ?_
    obtain ⟨x2, q3, h⟩ := g_bind h
    refine m_cV mt_X12_byteAt ml_X12_154 mv_X12_byteAt dX12_nextToken_13 (k_X12_byteAt q3) rfl rfl rfl rfl (by decide) ⟨Nat.le_refl _, Nat.le_refl _⟩ (Nat.le_of_ble_eq_true rfl) ?_
    refine g_bipush (v := 32) dX12_nextToken_16 (by decide) ?_
    refine g_icmp_ne 34 (by decide) dX12_nextToken_18 (fun c4 => ?_) (fun c4 => ?_)
    · have h := g_ifn c4 h
      obtain rfl := Option.some.inj h
      exact g_less _ (g_subS (g_subN g_sub0)) hc
    · have h := g_ifp c4 h
      refine g_aload_n dX12_nextToken_21 rfl ?_
      refine g_dup dX12_nextToken_22 rfl ?_
      refine m_getI fl_X12_151 rfl rfl dX12_nextToken_23 ?_
      refine g_ic1 dX12_nextToken_26 ?_
      refine g_iadd dX12_nextToken_27 ?_
      obtain ⟨μ5, eμ5, h⟩ := g_let h
      refine m_putI fl_X12_151 fw_12_9 rfl rfl rfl rfl dX12_nextToken_28 eμ5 ?_
      refine g_goto 8 (by decide) dX12_nextToken_31 ?_
      exact g_less _ (g_subS (g_subN g_sub0)) (ih _ _ h hc)
set_option maxRecDepth 100000 in
set_option maxHeartbeats 4000000 in
theorem k_X12_nextToken_L91 {D : va_G} {cA : Nat → ClassId} {b k : Nat} {Q : Option Value → g_S → Prop} {N : Nat} : ∀ (n : Nat) (μ : g_M) (z_μ : g_M), f_X12_nextToken_L91 N n μ = some z_μ → g_V (g_XM D cA b) Y_X12_nextToken 2 0 0 Q k 0 0 126 [some (.ref 0), none] [] (z_μ, g_rfM) → g_V (g_XM D cA b) Y_X12_nextToken 2 0 0 Q k 0 0 91 [some (.ref 0), none] [] (μ, g_rfM) := by
  intro n
  induction n with
  | zero =>
    intro μ z_μ h
    rw [f_X12_nextToken_L91] at h
    cases h
  | succ n ih =>
    intro μ z_μ h hc
    rw [f_X12_nextToken_L91] at h
    refine g_aload_n dX12_nextToken_91 rfl ?_
    refine m_getI fl_X12_163 rfl rfl dX12_nextToken_92 ?_
    refine g_ic1 dX12_nextToken_95 ?_
    refine g_icmp_ne 126 (by decide) dX12_nextToken_96 (fun c12 => ?_) (fun c12 => ?_)
    · have h := g_ifn c12 h
      obtain rfl := Option.some.inj h
      exact g_less _ (g_subS (g_subN g_sub0)) hc
    · have h := g_ifp c12 h
      refine g_aload_n dX12_nextToken_99 rfl ?_
      refine g_aload_n dX12_nextToken_100 rfl ?_
      refine m_getI fl_X12_148 rfl rfl dX12_nextToken_101 ?_
      obtain ⟨x13, q14, h⟩ := g_bind h
      refine m_cV mt_X12_byteAt ml_X12_154 mv_X12_byteAt dX12_nextToken_104 (k_X12_byteAt q14) rfl rfl rfl rfl (by decide) ⟨Nat.le_refl _, Nat.le_refl _⟩ (Nat.le_of_ble_eq_true rfl) ?_
      refine m_cS mt_X12_isAlpha ml_X12_157 ms_X12_isAlpha dX12_nextToken_107 (k_X12_isAlpha rfl) rfl rfl (by decide) ⟨Nat.le_refl _, Nat.le_refl _⟩ (Nat.le_of_ble_eq_true rfl) ?_
      refine g_if_eq 126 (by decide) dX12_nextToken_110 (fun c15 => ?_) (fun c15 => ?_)
      · have h := g_ifp c15 h
        obtain rfl := Option.some.inj h
        exact g_less _ (g_subS (g_subN g_sub0)) hc
      · have h := g_ifn c15 h
        refine g_aload_n dX12_nextToken_113 rfl ?_
        refine g_dup dX12_nextToken_114 rfl ?_
        refine m_getI fl_X12_148 rfl rfl dX12_nextToken_115 ?_
        refine g_ic1 dX12_nextToken_118 ?_
        refine g_iadd dX12_nextToken_119 ?_
        obtain ⟨μ16, eμ16, h⟩ := g_let h
        refine m_putI fl_X12_148 fw_12_10 rfl rfl rfl rfl dX12_nextToken_120 eμ16 ?_
        refine g_goto 91 (by decide) dX12_nextToken_123 ?_
        exact g_less _ (g_subS (g_subN g_sub0)) (ih _ _ h hc)
set_option maxRecDepth 100000 in
set_option maxHeartbeats 4000000 in
theorem k_X12_nextToken_L126 {D : va_G} {cA : Nat → ClassId} {b k : Nat} {Q : Option Value → g_S → Prop} {N : Nat} : ∀ (n : Nat) (μ : g_M) (z_μ : g_M), f_X12_nextToken_L126 N n μ = some z_μ → g_V (g_XM D cA b) Y_X12_nextToken 2 0 0 Q k 0 0 201 [some (.ref 0), none] [] (z_μ, g_rfM) → g_V (g_XM D cA b) Y_X12_nextToken 2 0 0 Q k 0 0 126 [some (.ref 0), none] [] (μ, g_rfM) := by
  intro n
  induction n with
  | zero =>
    intro μ z_μ h
    rw [f_X12_nextToken_L126] at h
    cases h
  | succ n ih =>
    intro μ z_μ h hc
    rw [f_X12_nextToken_L126] at h
    refine g_aload_n dX12_nextToken_126 rfl ?_
    refine m_getI fl_X12_163 rfl rfl dX12_nextToken_127 ?_
    refine g_ic2 dX12_nextToken_130 ?_
    refine g_icmp_ne 201 (by decide) dX12_nextToken_131 (fun c14 => ?_) (fun c14 => ?_)
    · have h := g_ifn c14 h
      obtain rfl := Option.some.inj h
      exact g_less _ (g_subS (g_subN g_sub0)) hc
    · have h := g_ifp c14 h
      refine g_aload_n dX12_nextToken_134 rfl ?_
      refine g_aload_n dX12_nextToken_135 rfl ?_
      refine m_getI fl_X12_148 rfl rfl dX12_nextToken_136 ?_
      obtain ⟨x15, q16, h⟩ := g_bind h
      refine m_cV mt_X12_byteAt ml_X12_154 mv_X12_byteAt dX12_nextToken_139 (k_X12_byteAt q16) rfl rfl rfl rfl (by decide) ⟨Nat.le_refl _, Nat.le_refl _⟩ (Nat.le_of_ble_eq_true rfl) ?_
      refine m_cS mt_X12_isDigit ml_X12_160 ms_X12_isDigit dX12_nextToken_142 (k_X12_isDigit rfl) rfl rfl (by decide) ⟨Nat.le_refl _, Nat.le_refl _⟩ (Nat.le_of_ble_eq_true rfl) ?_
      refine g_if_eq 201 (by decide) dX12_nextToken_145 (fun c17 => ?_) (fun c17 => ?_)
      · have h := g_ifp c17 h
        obtain rfl := Option.some.inj h
        exact g_less _ (g_subS (g_subN g_sub0)) hc
      · have h := g_ifn c17 h
        refine g_aload_n dX12_nextToken_148 rfl ?_
        refine g_aload_n dX12_nextToken_149 rfl ?_
        refine m_getI fl_X12_166 rfl rfl dX12_nextToken_150 ?_
        refine g_sipush (v := 9999) dX12_nextToken_153 (by decide) ?_
        refine g_icmp_le 166 (by decide) dX12_nextToken_156 (fun c18 => ?_) (fun c18 => ?_)
        · have h := g_ifp c18 h
          refine g_bipush (v := 10) dX12_nextToken_166 (by decide) ?_
          refine g_aload_n dX12_nextToken_168 rfl ?_
          refine m_getI fl_X12_166 rfl rfl dX12_nextToken_169 ?_
          refine g_imul dX12_nextToken_172 ?_
          refine g_aload_n dX12_nextToken_173 rfl ?_
          refine g_aload_n dX12_nextToken_174 rfl ?_
          refine m_getI fl_X12_148 rfl rfl dX12_nextToken_175 ?_
          obtain ⟨x19, q20, h⟩ := g_bind h
          refine m_cV mt_X12_byteAt ml_X12_154 mv_X12_byteAt dX12_nextToken_178 (k_X12_byteAt q20) rfl rfl rfl rfl (by decide) ⟨Nat.le_refl _, Nat.le_refl _⟩ (Nat.le_of_ble_eq_true rfl) ?_
          refine g_iadd dX12_nextToken_181 ?_
          refine g_bipush (v := 48) dX12_nextToken_182 (by decide) ?_
          refine g_isub dX12_nextToken_184 ?_
          obtain ⟨μ21, eμ21, h⟩ := g_let h
          refine m_putI fl_X12_166 fw_12_11 rfl rfl rfl rfl dX12_nextToken_185 eμ21 ?_
          refine g_aload_n dX12_nextToken_188 rfl ?_
          refine g_dup dX12_nextToken_189 rfl ?_
          refine m_getI fl_X12_148 rfl rfl dX12_nextToken_190 ?_
          refine g_ic1 dX12_nextToken_193 ?_
          refine g_iadd dX12_nextToken_194 ?_
          obtain ⟨μ22, eμ22, h⟩ := g_let h
          refine m_putI fl_X12_148 fw_12_10 rfl rfl rfl rfl dX12_nextToken_195 eμ22 ?_
          refine g_goto 126 (by decide) dX12_nextToken_198 ?_
          exact g_less _ (g_subS (g_subN g_sub0)) (ih _ _ h hc)
        · have h := g_ifn c18 h
          refine g_aload_n dX12_nextToken_159 rfl ?_
          refine m_getI fl_X12_166 rfl rfl dX12_nextToken_160 ?_
          refine g_goto 185 (by decide) dX12_nextToken_163 ?_
          obtain ⟨μ23, eμ23, h⟩ := g_let h
          refine m_putI fl_X12_166 fw_12_11 rfl rfl rfl rfl dX12_nextToken_185 eμ23 ?_
          refine g_aload_n dX12_nextToken_188 rfl ?_
          refine g_dup dX12_nextToken_189 rfl ?_
          refine m_getI fl_X12_148 rfl rfl dX12_nextToken_190 ?_
          refine g_ic1 dX12_nextToken_193 ?_
          refine g_iadd dX12_nextToken_194 ?_
          obtain ⟨μ24, eμ24, h⟩ := g_let h
          refine m_putI fl_X12_148 fw_12_10 rfl rfl rfl rfl dX12_nextToken_195 eμ24 ?_
          refine g_goto 126 (by decide) dX12_nextToken_198 ?_
          exact g_less _ (g_subS (g_subN g_sub0)) (ih _ _ h hc)
set_option maxRecDepth 100000 in
set_option maxHeartbeats 4000000 in
theorem k_X12_nextToken {D : va_G} {cA : Nat → ClassId} {b k : Nat} {N : Nat} {μ : g_M} {z : g_M} (h : f_X12_nextToken N μ = some z) : g_K (g_XM D cA b) yX12_nextToken Y_X12_nextToken 2 0 0 k [.ref 0] (μ, g_rfM) (fun r1 σ1 => r1 = none ∧ σ1 = (z, g_rfM)) := by
  unfold f_X12_nextToken at h
  refine g_met 1 (by decide) rfl rfl (Nat.le_of_ble_eq_true rfl) ?_
  refine g_aload_n dX12_nextToken_0 rfl ?_
  refine g_aload_n dX12_nextToken_1 rfl ?_
  refine m_getI fl_X12_148 rfl rfl dX12_nextToken_2 ?_
  obtain ⟨μ1, eμ1, h⟩ := g_let h
  refine m_putI fl_X12_151 fw_12_9 rfl rfl rfl rfl dX12_nextToken_5 eμ1 ?_
  obtain ⟨μ2, q3, h⟩ := g_bind h
  refine g_less _ (g_subS (g_subN g_sub0)) (k_X12_nextToken_L8 _ _ _ q3 ?_)
  refine g_aload_n dX12_nextToken_34 rfl ?_
  refine g_aload_n dX12_nextToken_35 rfl ?_
  refine m_getI fl_X12_151 rfl rfl dX12_nextToken_36 ?_
  obtain ⟨μ4, eμ4, h⟩ := g_let h
  refine m_putI fl_X12_148 fw_12_10 rfl rfl rfl rfl dX12_nextToken_39 eμ4 ?_
  refine g_aload_n dX12_nextToken_42 rfl ?_
  refine g_aload_n dX12_nextToken_43 rfl ?_
  refine m_getI fl_X12_151 rfl rfl dX12_nextToken_44 ?_
  obtain ⟨x5, q6, h⟩ := g_bind h
  refine m_cV mt_X12_byteAt ml_X12_154 mv_X12_byteAt dX12_nextToken_47 (k_X12_byteAt q6) rfl rfl rfl rfl (by decide) ⟨Nat.le_refl _, Nat.le_refl _⟩ (Nat.le_of_ble_eq_true rfl) ?_
  refine g_istore_1 rfl (Nat.le_of_ble_eq_true rfl) dX12_nextToken_50 ?_
  refine g_aload_n dX12_nextToken_51 rfl ?_
  refine g_iload_n dX12_nextToken_52 rfl ?_
  refine g_if_ge 60 (by decide) dX12_nextToken_53 (fun c7 => ?_) (fun c7 => ?_)
  · have h := g_ifp c7 h
    refine g_iload_n dX12_nextToken_60 rfl ?_
    refine m_cS mt_X12_isAlpha ml_X12_157 ms_X12_isAlpha dX12_nextToken_61 (k_X12_isAlpha rfl) rfl rfl (by decide) ⟨Nat.le_refl _, Nat.le_refl _⟩ (Nat.le_of_ble_eq_true rfl) ?_
    refine g_if_eq 71 (by decide) dX12_nextToken_64 (fun c8 => ?_) (fun c8 => ?_)
    · have h := g_ifp c8 h
      refine g_iload_n dX12_nextToken_71 rfl ?_
      refine m_cS mt_X12_isDigit ml_X12_160 ms_X12_isDigit dX12_nextToken_72 (k_X12_isDigit rfl) rfl rfl (by decide) ⟨Nat.le_refl _, Nat.le_refl _⟩ (Nat.le_of_ble_eq_true rfl) ?_
      refine g_if_eq 82 (by decide) dX12_nextToken_75 (fun c9 => ?_) (fun c9 => ?_)
      · have h := g_ifp c9 h
        refine g_ic3 dX12_nextToken_82 ?_
        obtain ⟨μ10, eμ10, h⟩ := g_let h
        refine m_putI fl_X12_163 fw_12_8 rfl rfl rfl rfl dX12_nextToken_83 eμ10 ?_
        refine g_aload_n dX12_nextToken_86 rfl ?_
        refine g_ic0 dX12_nextToken_87 ?_
        obtain ⟨μ11, eμ11, h⟩ := g_let h
        refine m_putI fl_X12_166 fw_12_11 rfl rfl rfl rfl dX12_nextToken_88 eμ11 ?_
        obtain ⟨μ12, q13, h⟩ := g_bind h
        refine g_less _ (g_subS (g_subN g_sub0)) (k_X12_nextToken_L91 _ _ _ q13 ?_)
        obtain ⟨μ14, q15, h⟩ := g_bind h
        refine g_less _ (g_subS (g_subN g_sub0)) (k_X12_nextToken_L126 _ _ _ q15 ?_)
        refine g_aload_n dX12_nextToken_201 rfl ?_
        refine g_dup dX12_nextToken_202 rfl ?_
        refine m_getI fl_X12_148 rfl rfl dX12_nextToken_203 ?_
        refine g_aload_n dX12_nextToken_206 rfl ?_
        refine m_getI fl_X12_163 rfl rfl dX12_nextToken_207 ?_
        refine g_ic2 dX12_nextToken_210 ?_
        refine g_icmp_le 218 (by decide) dX12_nextToken_211 (fun c16 => ?_) (fun c16 => ?_)
        · have h := g_ifp c16 h
          refine g_ic0 dX12_nextToken_218 ?_
          refine g_iadd dX12_nextToken_219 ?_
          obtain ⟨μ17, eμ17, h⟩ := g_let h
          refine m_putI fl_X12_148 fw_12_10 rfl rfl rfl rfl dX12_nextToken_220 eμ17 ?_
          obtain rfl := Option.some.inj h
          exact g_vret rfl (Nat.le_refl _) rfl dX12_nextToken_223 ⟨rfl, rfl⟩
        · have h := g_ifn c16 h
          refine g_ic1 dX12_nextToken_214 ?_
          refine g_goto 219 (by decide) dX12_nextToken_215 ?_
          refine g_iadd dX12_nextToken_219 ?_
          obtain ⟨μ18, eμ18, h⟩ := g_let h
          refine m_putI fl_X12_148 fw_12_10 rfl rfl rfl rfl dX12_nextToken_220 eμ18 ?_
          obtain rfl := Option.some.inj h
          exact g_vret rfl (Nat.le_refl _) rfl dX12_nextToken_223 ⟨rfl, rfl⟩
      · have h := g_ifn c9 h
        refine g_ic2 dX12_nextToken_78 ?_
        refine g_goto 83 (by decide) dX12_nextToken_79 ?_
        obtain ⟨μ19, eμ19, h⟩ := g_let h
        refine m_putI fl_X12_163 fw_12_8 rfl rfl rfl rfl dX12_nextToken_83 eμ19 ?_
        refine g_aload_n dX12_nextToken_86 rfl ?_
        refine g_ic0 dX12_nextToken_87 ?_
        obtain ⟨μ20, eμ20, h⟩ := g_let h
        refine m_putI fl_X12_166 fw_12_11 rfl rfl rfl rfl dX12_nextToken_88 eμ20 ?_
        obtain ⟨μ21, q22, h⟩ := g_bind h
        refine g_less _ (g_subS (g_subN g_sub0)) (k_X12_nextToken_L91 _ _ _ q22 ?_)
        obtain ⟨μ23, q24, h⟩ := g_bind h
        refine g_less _ (g_subS (g_subN g_sub0)) (k_X12_nextToken_L126 _ _ _ q24 ?_)
        refine g_aload_n dX12_nextToken_201 rfl ?_
        refine g_dup dX12_nextToken_202 rfl ?_
        refine m_getI fl_X12_148 rfl rfl dX12_nextToken_203 ?_
        refine g_aload_n dX12_nextToken_206 rfl ?_
        refine m_getI fl_X12_163 rfl rfl dX12_nextToken_207 ?_
        refine g_ic2 dX12_nextToken_210 ?_
        refine g_icmp_le 218 (by decide) dX12_nextToken_211 (fun c25 => ?_) (fun c25 => ?_)
        · have h := g_ifp c25 h
          refine g_ic0 dX12_nextToken_218 ?_
          refine g_iadd dX12_nextToken_219 ?_
          obtain ⟨μ26, eμ26, h⟩ := g_let h
          refine m_putI fl_X12_148 fw_12_10 rfl rfl rfl rfl dX12_nextToken_220 eμ26 ?_
          obtain rfl := Option.some.inj h
          exact g_vret rfl (Nat.le_refl _) rfl dX12_nextToken_223 ⟨rfl, rfl⟩
        · have h := g_ifn c25 h
          refine g_ic1 dX12_nextToken_214 ?_
          refine g_goto 219 (by decide) dX12_nextToken_215 ?_
          refine g_iadd dX12_nextToken_219 ?_
          obtain ⟨μ27, eμ27, h⟩ := g_let h
          refine m_putI fl_X12_148 fw_12_10 rfl rfl rfl rfl dX12_nextToken_220 eμ27 ?_
          obtain rfl := Option.some.inj h
          exact g_vret rfl (Nat.le_refl _) rfl dX12_nextToken_223 ⟨rfl, rfl⟩
    · have h := g_ifn c8 h
      refine g_ic1 dX12_nextToken_67 ?_
      refine g_goto 83 (by decide) dX12_nextToken_68 ?_
      obtain ⟨μ28, eμ28, h⟩ := g_let h
      refine m_putI fl_X12_163 fw_12_8 rfl rfl rfl rfl dX12_nextToken_83 eμ28 ?_
      refine g_aload_n dX12_nextToken_86 rfl ?_
      refine g_ic0 dX12_nextToken_87 ?_
      obtain ⟨μ29, eμ29, h⟩ := g_let h
      refine m_putI fl_X12_166 fw_12_11 rfl rfl rfl rfl dX12_nextToken_88 eμ29 ?_
      obtain ⟨μ30, q31, h⟩ := g_bind h
      refine g_less _ (g_subS (g_subN g_sub0)) (k_X12_nextToken_L91 _ _ _ q31 ?_)
      obtain ⟨μ32, q33, h⟩ := g_bind h
      refine g_less _ (g_subS (g_subN g_sub0)) (k_X12_nextToken_L126 _ _ _ q33 ?_)
      refine g_aload_n dX12_nextToken_201 rfl ?_
      refine g_dup dX12_nextToken_202 rfl ?_
      refine m_getI fl_X12_148 rfl rfl dX12_nextToken_203 ?_
      refine g_aload_n dX12_nextToken_206 rfl ?_
      refine m_getI fl_X12_163 rfl rfl dX12_nextToken_207 ?_
      refine g_ic2 dX12_nextToken_210 ?_
      refine g_icmp_le 218 (by decide) dX12_nextToken_211 (fun c34 => ?_) (fun c34 => ?_)
      · have h := g_ifp c34 h
        refine g_ic0 dX12_nextToken_218 ?_
        refine g_iadd dX12_nextToken_219 ?_
        obtain ⟨μ35, eμ35, h⟩ := g_let h
        refine m_putI fl_X12_148 fw_12_10 rfl rfl rfl rfl dX12_nextToken_220 eμ35 ?_
        obtain rfl := Option.some.inj h
        exact g_vret rfl (Nat.le_refl _) rfl dX12_nextToken_223 ⟨rfl, rfl⟩
      · have h := g_ifn c34 h
        refine g_ic1 dX12_nextToken_214 ?_
        refine g_goto 219 (by decide) dX12_nextToken_215 ?_
        refine g_iadd dX12_nextToken_219 ?_
        obtain ⟨μ36, eμ36, h⟩ := g_let h
        refine m_putI fl_X12_148 fw_12_10 rfl rfl rfl rfl dX12_nextToken_220 eμ36 ?_
        obtain rfl := Option.some.inj h
        exact g_vret rfl (Nat.le_refl _) rfl dX12_nextToken_223 ⟨rfl, rfl⟩
  · have h := g_ifn c7 h
    refine g_ic0 dX12_nextToken_56 ?_
    refine g_goto 83 (by decide) dX12_nextToken_57 ?_
    obtain ⟨μ37, eμ37, h⟩ := g_let h
    refine m_putI fl_X12_163 fw_12_8 rfl rfl rfl rfl dX12_nextToken_83 eμ37 ?_
    refine g_aload_n dX12_nextToken_86 rfl ?_
    refine g_ic0 dX12_nextToken_87 ?_
    obtain ⟨μ38, eμ38, h⟩ := g_let h
    refine m_putI fl_X12_166 fw_12_11 rfl rfl rfl rfl dX12_nextToken_88 eμ38 ?_
    obtain ⟨μ39, q40, h⟩ := g_bind h
    refine g_less _ (g_subS (g_subN g_sub0)) (k_X12_nextToken_L91 _ _ _ q40 ?_)
    obtain ⟨μ41, q42, h⟩ := g_bind h
    refine g_less _ (g_subS (g_subN g_sub0)) (k_X12_nextToken_L126 _ _ _ q42 ?_)
    refine g_aload_n dX12_nextToken_201 rfl ?_
    refine g_dup dX12_nextToken_202 rfl ?_
    refine m_getI fl_X12_148 rfl rfl dX12_nextToken_203 ?_
    refine g_aload_n dX12_nextToken_206 rfl ?_
    refine m_getI fl_X12_163 rfl rfl dX12_nextToken_207 ?_
    refine g_ic2 dX12_nextToken_210 ?_
    refine g_icmp_le 218 (by decide) dX12_nextToken_211 (fun c43 => ?_) (fun c43 => ?_)
    · have h := g_ifp c43 h
      refine g_ic0 dX12_nextToken_218 ?_
      refine g_iadd dX12_nextToken_219 ?_
      obtain ⟨μ44, eμ44, h⟩ := g_let h
      refine m_putI fl_X12_148 fw_12_10 rfl rfl rfl rfl dX12_nextToken_220 eμ44 ?_
      obtain rfl := Option.some.inj h
      exact g_vret rfl (Nat.le_refl _) rfl dX12_nextToken_223 ⟨rfl, rfl⟩
    · have h := g_ifn c43 h
      refine g_ic1 dX12_nextToken_214 ?_
      refine g_goto 219 (by decide) dX12_nextToken_215 ?_
      refine g_iadd dX12_nextToken_219 ?_
      obtain ⟨μ45, eμ45, h⟩ := g_let h
      refine m_putI fl_X12_148 fw_12_10 rfl rfl rfl rfl dX12_nextToken_220 eμ45 ?_
      obtain rfl := Option.some.inj h
      exact g_vret rfl (Nat.le_refl _) rfl dX12_nextToken_223 ⟨rfl, rfl⟩
set_option maxRecDepth 100000 in
set_option maxHeartbeats 4000000 in
theorem k_X12_needs {D : va_G} {cA : Nat → ClassId} {b k : Nat} {N : Nat} {a1 : Int32} {μ : g_M} {z : g_M} (h : f_X12_needs N a1 μ = some z) : g_K (g_XM D cA b) yX12_needs Y_X12_needs 3 0 0 k [.ref 0, .int a1] (μ, g_rfM) (fun r1 σ1 => r1 = none ∧ σ1 = (z, g_rfM)) := by
  unfold f_X12_needs at h
  refine g_met 0 (by decide) rfl rfl (Nat.le_of_ble_eq_true rfl) ?_
  refine g_aload_n dX12_needs_0 rfl ?_
  refine g_aload_n dX12_needs_1 rfl ?_
  refine m_getI fl_X12_169 rfl rfl dX12_needs_2 ?_
  refine g_if_ne 12 (by decide) dX12_needs_5 (fun c1 => ?_) (fun c1 => ?_)
  · have h := g_ifn c1 h
    refine g_ic1 dX12_needs_12 ?_
    refine g_goto 17 (by decide) dX12_needs_13 ?_
    obtain ⟨μ2, eμ2, h⟩ := g_let h
    refine m_putI fl_X12_169 fw_12_12 rfl rfl rfl rfl dX12_needs_17 eμ2 ?_
    refine g_aload_n dX12_needs_20 rfl ?_
    refine m_getI fl_X12_169 rfl rfl dX12_needs_21 ?_
    refine g_if_ne 31 (by decide) dX12_needs_24 (fun c3 => ?_) (fun c3 => ?_)
    · have h := g_ifn c3 h
      obtain rfl := Option.some.inj h
      exact g_vret rfl (Nat.le_refl _) rfl dX12_needs_31 ⟨rfl, rfl⟩
    · have h := g_ifp c3 h
      refine g_aload_n dX12_needs_27 rfl ?_
      obtain ⟨μ6, q5, h⟩ := g_bind h
      refine m_cVv mt_X12_nextToken ml_X12_173 mv_X12_nextToken dX12_needs_28 (k_X12_nextToken q5) rfl rfl rfl rfl (by decide) ⟨Nat.le_refl _, Nat.le_refl _⟩ (Nat.le_of_ble_eq_true rfl) ?_
      obtain rfl := Option.some.inj h
      exact g_vret rfl (Nat.le_refl _) rfl dX12_needs_31 ⟨rfl, rfl⟩
  · have h := g_ifp c1 h
    refine g_iload_n dX12_needs_8 rfl ?_
    refine g_if_ne 16 (by decide) dX12_needs_9 (fun c7 => ?_) (fun c7 => ?_)
    · have h := g_ifn c7 h
      refine g_ic0 dX12_needs_16 ?_
      obtain ⟨μ8, eμ8, h⟩ := g_let h
      refine m_putI fl_X12_169 fw_12_12 rfl rfl rfl rfl dX12_needs_17 eμ8 ?_
      refine g_aload_n dX12_needs_20 rfl ?_
      refine m_getI fl_X12_169 rfl rfl dX12_needs_21 ?_
      refine g_if_ne 31 (by decide) dX12_needs_24 (fun c9 => ?_) (fun c9 => ?_)
      · have h := g_ifn c9 h
        obtain rfl := Option.some.inj h
        exact g_vret rfl (Nat.le_refl _) rfl dX12_needs_31 ⟨rfl, rfl⟩
      · have h := g_ifp c9 h
        refine g_aload_n dX12_needs_27 rfl ?_
        obtain ⟨μ12, q11, h⟩ := g_bind h
        refine m_cVv mt_X12_nextToken ml_X12_173 mv_X12_nextToken dX12_needs_28 (k_X12_nextToken q11) rfl rfl rfl rfl (by decide) ⟨Nat.le_refl _, Nat.le_refl _⟩ (Nat.le_of_ble_eq_true rfl) ?_
        obtain rfl := Option.some.inj h
        exact g_vret rfl (Nat.le_refl _) rfl dX12_needs_31 ⟨rfl, rfl⟩
    · have h := g_ifp c7 h
      refine g_ic1 dX12_needs_12 ?_
      refine g_goto 17 (by decide) dX12_needs_13 ?_
      obtain ⟨μ13, eμ13, h⟩ := g_let h
      refine m_putI fl_X12_169 fw_12_12 rfl rfl rfl rfl dX12_needs_17 eμ13 ?_
      refine g_aload_n dX12_needs_20 rfl ?_
      refine m_getI fl_X12_169 rfl rfl dX12_needs_21 ?_
      refine g_if_ne 31 (by decide) dX12_needs_24 (fun c14 => ?_) (fun c14 => ?_)
      · have h := g_ifn c14 h
        obtain rfl := Option.some.inj h
        exact g_vret rfl (Nat.le_refl _) rfl dX12_needs_31 ⟨rfl, rfl⟩
      · have h := g_ifp c14 h
        refine g_aload_n dX12_needs_27 rfl ?_
        obtain ⟨μ17, q16, h⟩ := g_bind h
        refine m_cVv mt_X12_nextToken ml_X12_173 mv_X12_nextToken dX12_needs_28 (k_X12_nextToken q16) rfl rfl rfl rfl (by decide) ⟨Nat.le_refl _, Nat.le_refl _⟩ (Nat.le_of_ble_eq_true rfl) ?_
        obtain rfl := Option.some.inj h
        exact g_vret rfl (Nat.le_refl _) rfl dX12_needs_31 ⟨rfl, rfl⟩
set_option maxRecDepth 100000 in
set_option maxHeartbeats 4000000 in
theorem k_X12_isByte {D : va_G} {cA : Nat → ClassId} {b k : Nat} {a1 : Int32} {μ : g_M} {z : Int32} (h : f_X12_isByte a1 μ = some z) : g_K (g_XM D cA b) yX12_isByte Y_X12_isByte 2 0 0 k [.ref 0, .int a1] (μ, g_rfM) (fun r1 σ1 => r1 = some (.int z) ∧ σ1 = (μ, g_rfM)) := by
  unfold f_X12_isByte at h
  refine g_met 0 (by decide) rfl rfl (Nat.le_of_ble_eq_true rfl) ?_
  refine g_aload_n dX12_isByte_0 rfl ?_
  refine m_getI fl_X12_163 rfl rfl dX12_isByte_1 ?_
  refine g_ic3 dX12_isByte_4 ?_
  refine g_icmp_ne 24 (by decide) dX12_isByte_5 (fun c1 => ?_) (fun c1 => ?_)
  · have h := g_ifn c1 h
    refine g_ic0 dX12_isByte_24 ?_
    obtain rfl := Option.some.inj h
    exact g_zret rfl (Nat.le_refl _) rfl rfl dX12_isByte_25 ⟨rfl, rfl⟩
  · have h := g_ifp c1 h
    refine g_aload_n dX12_isByte_8 rfl ?_
    refine g_aload_n dX12_isByte_9 rfl ?_
    refine m_getI fl_X12_151 rfl rfl dX12_isByte_10 ?_
    obtain ⟨x2, q3, h⟩ := g_bind h
    refine m_cV mt_X12_byteAt ml_X12_154 mv_X12_byteAt dX12_isByte_13 (k_X12_byteAt q3) rfl rfl rfl rfl (by decide) ⟨Nat.le_refl _, Nat.le_refl _⟩ (Nat.le_of_ble_eq_true rfl) ?_
    refine g_iload_n dX12_isByte_16 rfl ?_
    refine g_icmp_ne 24 (by decide) dX12_isByte_17 (fun c4 => ?_) (fun c4 => ?_)
    · have h := g_ifn c4 h
      refine g_ic0 dX12_isByte_24 ?_
      obtain rfl := Option.some.inj h
      exact g_zret rfl (Nat.le_refl _) rfl rfl dX12_isByte_25 ⟨rfl, rfl⟩
    · have h := g_ifp c4 h
      refine g_ic1 dX12_isByte_20 ?_
      refine g_goto 25 (by decide) dX12_isByte_21 ?_
      obtain rfl := Option.some.inj h
      exact g_zret rfl (Nat.le_refl _) rfl rfl dX12_isByte_25 ⟨rfl, rfl⟩
set_option maxRecDepth 100000 in
set_option maxHeartbeats 4000000 in
theorem k_X12_isName {D : va_G} {cA : Nat → ClassId} {b k : Nat} {a1 : Int32} {a2 : Int32} {a3 : Int32} {a4 : Int32} {a5 : Int32} {μ : g_M} {z : Int32} (h : f_X12_isName a1 a2 a3 a4 a5 μ = some z) : g_K (g_XM D cA b) yX12_isName Y_X12_isName 2 0 0 k [.ref 0, .int a1, .int a2, .int a3, .int a4, .int a5] (μ, g_rfM) (fun r1 σ1 => r1 = some (.int z) ∧ σ1 = (μ, g_rfM)) := by
  unfold f_X12_isName at h
  refine g_met 0 (by decide) rfl rfl (Nat.le_of_ble_eq_true rfl) ?_
  refine g_aload_n dX12_isName_0 rfl ?_
  refine m_getI fl_X12_163 rfl rfl dX12_isName_1 ?_
  refine g_ic1 dX12_isName_4 ?_
  refine g_icmp_ne 81 (by decide) dX12_isName_5 (fun c1 => ?_) (fun c1 => ?_)
  · have h := g_ifn c1 h
    refine g_ic0 dX12_isName_81 ?_
    obtain rfl := Option.some.inj h
    exact g_zret rfl (Nat.le_refl _) rfl rfl dX12_isName_82 ⟨rfl, rfl⟩
  · have h := g_ifp c1 h
    refine g_aload_n dX12_isName_8 rfl ?_
    refine m_getI fl_X12_148 rfl rfl dX12_isName_9 ?_
    refine g_aload_n dX12_isName_12 rfl ?_
    refine m_getI fl_X12_151 rfl rfl dX12_isName_13 ?_
    refine g_isub dX12_isName_16 ?_
    refine g_iload_n dX12_isName_17 rfl ?_
    refine g_icmp_ne 81 (by decide) dX12_isName_18 (fun c2 => ?_) (fun c2 => ?_)
    · have h := g_ifn c2 h
      refine g_ic0 dX12_isName_81 ?_
      obtain rfl := Option.some.inj h
      exact g_zret rfl (Nat.le_refl _) rfl rfl dX12_isName_82 ⟨rfl, rfl⟩
    · have h := g_ifp c2 h
      refine g_aload_n dX12_isName_21 rfl ?_
      refine g_aload_n dX12_isName_22 rfl ?_
      refine m_getI fl_X12_151 rfl rfl dX12_isName_23 ?_
      obtain ⟨x3, q4, h⟩ := g_bind h
      refine m_cV mt_X12_byteAt ml_X12_154 mv_X12_byteAt dX12_isName_26 (k_X12_byteAt q4) rfl rfl rfl rfl (by decide) ⟨Nat.le_refl _, Nat.le_refl _⟩ (Nat.le_of_ble_eq_true rfl) ?_
      refine g_iload_n dX12_isName_29 rfl ?_
      refine g_icmp_ne 81 (by decide) dX12_isName_30 (fun c5 => ?_) (fun c5 => ?_)
      · have h := g_ifn c5 h
        refine g_ic0 dX12_isName_81 ?_
        obtain rfl := Option.some.inj h
        exact g_zret rfl (Nat.le_refl _) rfl rfl dX12_isName_82 ⟨rfl, rfl⟩
      · have h := g_ifp c5 h
        refine g_aload_n dX12_isName_33 rfl ?_
        refine g_aload_n dX12_isName_34 rfl ?_
        refine m_getI fl_X12_151 rfl rfl dX12_isName_35 ?_
        refine g_ic1 dX12_isName_38 ?_
        refine g_iadd dX12_isName_39 ?_
        obtain ⟨x6, q7, h⟩ := g_bind h
        refine m_cV mt_X12_byteAt ml_X12_154 mv_X12_byteAt dX12_isName_40 (k_X12_byteAt q7) rfl rfl rfl rfl (by decide) ⟨Nat.le_refl _, Nat.le_refl _⟩ (Nat.le_of_ble_eq_true rfl) ?_
        refine g_iload_n dX12_isName_43 rfl ?_
        refine g_icmp_ne 81 (by decide) dX12_isName_44 (fun c8 => ?_) (fun c8 => ?_)
        · have h := g_ifn c8 h
          refine g_ic0 dX12_isName_81 ?_
          obtain rfl := Option.some.inj h
          exact g_zret rfl (Nat.le_refl _) rfl rfl dX12_isName_82 ⟨rfl, rfl⟩
        · have h := g_ifp c8 h
          refine g_aload_n dX12_isName_47 rfl ?_
          refine g_aload_n dX12_isName_48 rfl ?_
          refine m_getI fl_X12_151 rfl rfl dX12_isName_49 ?_
          refine g_ic2 dX12_isName_52 ?_
          refine g_iadd dX12_isName_53 ?_
          obtain ⟨x9, q10, h⟩ := g_bind h
          refine m_cV mt_X12_byteAt ml_X12_154 mv_X12_byteAt dX12_isName_54 (k_X12_byteAt q10) rfl rfl rfl rfl (by decide) ⟨Nat.le_refl _, Nat.le_refl _⟩ (Nat.le_of_ble_eq_true rfl) ?_
          refine g_iload dX12_isName_57 rfl ?_
          refine g_icmp_ne 81 (by decide) dX12_isName_59 (fun c11 => ?_) (fun c11 => ?_)
          · have h := g_ifn c11 h
            refine g_ic0 dX12_isName_81 ?_
            obtain rfl := Option.some.inj h
            exact g_zret rfl (Nat.le_refl _) rfl rfl dX12_isName_82 ⟨rfl, rfl⟩
          · have h := g_ifp c11 h
            refine g_aload_n dX12_isName_62 rfl ?_
            refine g_aload_n dX12_isName_63 rfl ?_
            refine m_getI fl_X12_148 rfl rfl dX12_isName_64 ?_
            refine g_ic1 dX12_isName_67 ?_
            refine g_isub dX12_isName_68 ?_
            obtain ⟨x12, q13, h⟩ := g_bind h
            refine m_cV mt_X12_byteAt ml_X12_154 mv_X12_byteAt dX12_isName_69 (k_X12_byteAt q13) rfl rfl rfl rfl (by decide) ⟨Nat.le_refl _, Nat.le_refl _⟩ (Nat.le_of_ble_eq_true rfl) ?_
            refine g_iload dX12_isName_72 rfl ?_
            refine g_icmp_ne 81 (by decide) dX12_isName_74 (fun c14 => ?_) (fun c14 => ?_)
            · have h := g_ifn c14 h
              refine g_ic0 dX12_isName_81 ?_
              obtain rfl := Option.some.inj h
              exact g_zret rfl (Nat.le_refl _) rfl rfl dX12_isName_82 ⟨rfl, rfl⟩
            · have h := g_ifp c14 h
              refine g_ic1 dX12_isName_77 ?_
              refine g_goto 82 (by decide) dX12_isName_78 ?_
              obtain rfl := Option.some.inj h
              exact g_zret rfl (Nat.le_refl _) rfl rfl dX12_isName_82 ⟨rfl, rfl⟩
set_option maxRecDepth 100000 in
set_option maxHeartbeats 4000000 in
theorem k_X12_isSame {D : va_G} {cA : Nat → ClassId} {b k : Nat} {a1 : Int32} {a2 : Int32} {a3 : Int32} {a4 : Int32} {μ : g_M} {z : Int32} (h : f_X12_isSame a1 a2 a3 a4 μ = some z) : g_K (g_XM D cA b) yX12_isSame Y_X12_isSame 2 0 0 k [.ref 0, .int a1, .int a2, .int a3, .int a4] (μ, g_rfM) (fun r1 σ1 => r1 = some (.int z) ∧ σ1 = (μ, g_rfM)) := by
  unfold f_X12_isSame at h
  refine g_met 0 (by decide) rfl rfl (Nat.le_of_ble_eq_true rfl) ?_
  refine g_aload_n dX12_isSame_0 rfl ?_
  refine g_aload_n dX12_isSame_1 rfl ?_
  refine m_getI fl_X12_151 rfl rfl dX12_isSame_2 ?_
  refine g_iload_n dX12_isSame_5 rfl ?_
  refine g_iadd dX12_isSame_6 ?_
  obtain ⟨x1, q2, h⟩ := g_bind h
  refine m_cV mt_X12_byteAt ml_X12_154 mv_X12_byteAt dX12_isSame_7 (k_X12_byteAt q2) rfl rfl rfl rfl (by decide) ⟨Nat.le_refl _, Nat.le_refl _⟩ (Nat.le_of_ble_eq_true rfl) ?_
  refine g_iload_n dX12_isSame_10 rfl ?_
  refine g_icmp_ne 51 (by decide) dX12_isSame_11 (fun c3 => ?_) (fun c3 => ?_)
  · have h := g_ifn c3 h
    refine g_ic0 dX12_isSame_51 ?_
    obtain rfl := Option.some.inj h
    exact g_zret rfl (Nat.le_refl _) rfl rfl dX12_isSame_52 ⟨rfl, rfl⟩
  · have h := g_ifp c3 h
    refine g_aload_n dX12_isSame_14 rfl ?_
    refine g_aload_n dX12_isSame_15 rfl ?_
    refine m_getI fl_X12_151 rfl rfl dX12_isSame_16 ?_
    refine g_iload_n dX12_isSame_19 rfl ?_
    refine g_iadd dX12_isSame_20 ?_
    refine g_ic1 dX12_isSame_21 ?_
    refine g_iadd dX12_isSame_22 ?_
    obtain ⟨x4, q5, h⟩ := g_bind h
    refine m_cV mt_X12_byteAt ml_X12_154 mv_X12_byteAt dX12_isSame_23 (k_X12_byteAt q5) rfl rfl rfl rfl (by decide) ⟨Nat.le_refl _, Nat.le_refl _⟩ (Nat.le_of_ble_eq_true rfl) ?_
    refine g_iload_n dX12_isSame_26 rfl ?_
    refine g_icmp_ne 51 (by decide) dX12_isSame_27 (fun c6 => ?_) (fun c6 => ?_)
    · have h := g_ifn c6 h
      refine g_ic0 dX12_isSame_51 ?_
      obtain rfl := Option.some.inj h
      exact g_zret rfl (Nat.le_refl _) rfl rfl dX12_isSame_52 ⟨rfl, rfl⟩
    · have h := g_ifp c6 h
      refine g_aload_n dX12_isSame_30 rfl ?_
      refine g_aload_n dX12_isSame_31 rfl ?_
      refine m_getI fl_X12_151 rfl rfl dX12_isSame_32 ?_
      refine g_iload_n dX12_isSame_35 rfl ?_
      refine g_iadd dX12_isSame_36 ?_
      refine g_ic2 dX12_isSame_37 ?_
      refine g_iadd dX12_isSame_38 ?_
      obtain ⟨x7, q8, h⟩ := g_bind h
      refine m_cV mt_X12_byteAt ml_X12_154 mv_X12_byteAt dX12_isSame_39 (k_X12_byteAt q8) rfl rfl rfl rfl (by decide) ⟨Nat.le_refl _, Nat.le_refl _⟩ (Nat.le_of_ble_eq_true rfl) ?_
      refine g_iload dX12_isSame_42 rfl ?_
      refine g_icmp_ne 51 (by decide) dX12_isSame_44 (fun c9 => ?_) (fun c9 => ?_)
      · have h := g_ifn c9 h
        refine g_ic0 dX12_isSame_51 ?_
        obtain rfl := Option.some.inj h
        exact g_zret rfl (Nat.le_refl _) rfl rfl dX12_isSame_52 ⟨rfl, rfl⟩
      · have h := g_ifp c9 h
        refine g_ic1 dX12_isSame_47 ?_
        refine g_goto 52 (by decide) dX12_isSame_48 ?_
        obtain rfl := Option.some.inj h
        exact g_zret rfl (Nat.le_refl _) rfl rfl dX12_isSame_52 ⟨rfl, rfl⟩
set_option maxRecDepth 100000 in
set_option maxHeartbeats 4000000 in
theorem k_X12_kindHere {D : va_G} {cA : Nat → ClassId} {b k : Nat} {μ : g_M} {z : Int32} (h : f_X12_kindHere μ = some z) : g_K (g_XM D cA b) yX12_kindHere Y_X12_kindHere 3 0 0 k [.ref 0] (μ, g_rfM) (fun r1 σ1 => r1 = some (.int z) ∧ σ1 = (μ, g_rfM)) := by
  unfold f_X12_kindHere at h
  refine g_met 0 (by decide) rfl rfl (Nat.le_of_ble_eq_true rfl) ?_
  refine g_aload_n dX12_kindHere_0 rfl ?_
  refine g_ic4 dX12_kindHere_1 ?_
  refine g_bipush (v := 111) dX12_kindHere_2 (by decide) ?_
  refine g_bipush (v := 118) dX12_kindHere_4 (by decide) ?_
  refine g_bipush (v := 101) dX12_kindHere_6 (by decide) ?_
  refine g_bipush (v := 110) dX12_kindHere_8 (by decide) ?_
  obtain ⟨x1, q2, h⟩ := g_bind h
  refine m_cV mt_X12_isName ml_X12_176 mv_X12_isName dX12_kindHere_10 (k_X12_isName q2) rfl rfl rfl rfl (by decide) ⟨Nat.le_refl _, Nat.le_refl _⟩ (Nat.le_of_ble_eq_true rfl) ?_
  refine g_if_eq 18 (by decide) dX12_kindHere_13 (fun c3 => ?_) (fun c3 => ?_)
  · have h := g_ifp c3 h
    refine g_aload_n dX12_kindHere_18 rfl ?_
    refine g_bipush (v := 7) dX12_kindHere_19 (by decide) ?_
    refine g_bipush (v := 119) dX12_kindHere_21 (by decide) ?_
    refine g_bipush (v := 105) dX12_kindHere_23 (by decide) ?_
    refine g_bipush (v := 100) dX12_kindHere_25 (by decide) ?_
    refine g_bipush (v := 100) dX12_kindHere_27 (by decide) ?_
    obtain ⟨x4, q5, h⟩ := g_bind h
    refine m_cV mt_X12_isName ml_X12_176 mv_X12_isName dX12_kindHere_29 (k_X12_isName q5) rfl rfl rfl rfl (by decide) ⟨Nat.le_refl _, Nat.le_refl _⟩ (Nat.le_of_ble_eq_true rfl) ?_
    refine g_if_eq 51 (by decide) dX12_kindHere_32 (fun c6 => ?_) (fun c6 => ?_)
    · have h := g_ifp c6 h
      refine g_aload_n dX12_kindHere_51 rfl ?_
      refine g_ic5 dX12_kindHere_52 ?_
      refine g_bipush (v := 114) dX12_kindHere_53 (by decide) ?_
      refine g_bipush (v := 97) dX12_kindHere_55 (by decide) ?_
      refine g_bipush (v := 110) dX12_kindHere_57 (by decide) ?_
      refine g_bipush (v := 101) dX12_kindHere_59 (by decide) ?_
      obtain ⟨x7, q8, h⟩ := g_bind h
      refine m_cV mt_X12_isName ml_X12_176 mv_X12_isName dX12_kindHere_61 (k_X12_isName q8) rfl rfl rfl rfl (by decide) ⟨Nat.le_refl _, Nat.le_refl _⟩ (Nat.le_of_ble_eq_true rfl) ?_
      refine g_if_eq 84 (by decide) dX12_kindHere_64 (fun c9 => ?_) (fun c9 => ?_)
      · have h := g_ifp c9 h
        refine g_aload_n dX12_kindHere_84 rfl ?_
        refine g_bipush (v := 6) dX12_kindHere_85 (by decide) ?_
        refine g_bipush (v := 100) dX12_kindHere_87 (by decide) ?_
        refine g_bipush (v := 111) dX12_kindHere_89 (by decide) ?_
        refine g_bipush (v := 111) dX12_kindHere_91 (by decide) ?_
        refine g_bipush (v := 100) dX12_kindHere_93 (by decide) ?_
        obtain ⟨x10, q11, h⟩ := g_bind h
        refine m_cV mt_X12_isName ml_X12_176 mv_X12_isName dX12_kindHere_95 (k_X12_isName q11) rfl rfl rfl rfl (by decide) ⟨Nat.le_refl _, Nat.le_refl _⟩ (Nat.le_of_ble_eq_true rfl) ?_
        refine g_if_eq 117 (by decide) dX12_kindHere_98 (fun c12 => ?_) (fun c12 => ?_)
        · have h := g_ifp c12 h
          refine g_aload_n dX12_kindHere_117 rfl ?_
          refine g_bipush (v := 8) dX12_kindHere_118 (by decide) ?_
          refine g_bipush (v := 112) dX12_kindHere_120 (by decide) ?_
          refine g_bipush (v := 111) dX12_kindHere_122 (by decide) ?_
          refine g_bipush (v := 114) dX12_kindHere_124 (by decide) ?_
          refine g_bipush (v := 101) dX12_kindHere_126 (by decide) ?_
          obtain ⟨x13, q14, h⟩ := g_bind h
          refine m_cV mt_X12_isName ml_X12_176 mv_X12_isName dX12_kindHere_128 (k_X12_isName q14) rfl rfl rfl rfl (by decide) ⟨Nat.le_refl _, Nat.le_refl _⟩ (Nat.le_of_ble_eq_true rfl) ?_
          refine g_if_eq 166 (by decide) dX12_kindHere_131 (fun c15 => ?_) (fun c15 => ?_)
          · have h := g_ifp c15 h
            refine g_aload_n dX12_kindHere_166 rfl ?_
            refine g_ic4 dX12_kindHere_167 ?_
            refine g_bipush (v := 114) dX12_kindHere_168 (by decide) ?_
            refine g_bipush (v := 97) dX12_kindHere_170 (by decide) ?_
            refine g_bipush (v := 107) dX12_kindHere_172 (by decide) ?_
            refine g_bipush (v := 101) dX12_kindHere_174 (by decide) ?_
            obtain ⟨x16, q17, h⟩ := g_bind h
            refine m_cV mt_X12_isName ml_X12_176 mv_X12_isName dX12_kindHere_176 (k_X12_isName q17) rfl rfl rfl rfl (by decide) ⟨Nat.le_refl _, Nat.le_refl _⟩ (Nat.le_of_ble_eq_true rfl) ?_
            refine g_if_eq 186 (by decide) dX12_kindHere_179 (fun c18 => ?_) (fun c18 => ?_)
            · have h := g_ifp c18 h
              refine g_icm1 dX12_kindHere_186 ?_
              obtain rfl := Option.some.inj h
              exact g_iret rfl (Nat.le_refl _) rfl dX12_kindHere_187 ⟨rfl, rfl⟩
            · have h := g_ifn c18 h
              refine g_ic5 dX12_kindHere_182 ?_
              refine g_goto 187 (by decide) dX12_kindHere_183 ?_
              obtain rfl := Option.some.inj h
              exact g_iret rfl (Nat.le_refl _) rfl dX12_kindHere_187 ⟨rfl, rfl⟩
          · have h := g_ifn c15 h
            refine g_aload_n dX12_kindHere_134 rfl ?_
            refine g_ic3 dX12_kindHere_135 ?_
            refine g_bipush (v := 116) dX12_kindHere_136 (by decide) ?_
            refine g_bipush (v := 97) dX12_kindHere_138 (by decide) ?_
            refine g_bipush (v := 98) dX12_kindHere_140 (by decide) ?_
            obtain ⟨x19, q20, h⟩ := g_bind h
            refine m_cV mt_X12_isSame ml_X12_180 mv_X12_isSame dX12_kindHere_142 (k_X12_isSame q20) rfl rfl rfl rfl (by decide) ⟨Nat.le_refl _, Nat.le_refl _⟩ (Nat.le_of_ble_eq_true rfl) ?_
            refine g_if_eq 166 (by decide) dX12_kindHere_145 (fun c21 => ?_) (fun c21 => ?_)
            · have h := g_ifp c21 h
              refine g_aload_n dX12_kindHere_166 rfl ?_
              refine g_ic4 dX12_kindHere_167 ?_
              refine g_bipush (v := 114) dX12_kindHere_168 (by decide) ?_
              refine g_bipush (v := 97) dX12_kindHere_170 (by decide) ?_
              refine g_bipush (v := 107) dX12_kindHere_172 (by decide) ?_
              refine g_bipush (v := 101) dX12_kindHere_174 (by decide) ?_
              obtain ⟨x22, q23, h⟩ := g_bind h
              refine m_cV mt_X12_isName ml_X12_176 mv_X12_isName dX12_kindHere_176 (k_X12_isName q23) rfl rfl rfl rfl (by decide) ⟨Nat.le_refl _, Nat.le_refl _⟩ (Nat.le_of_ble_eq_true rfl) ?_
              refine g_if_eq 186 (by decide) dX12_kindHere_179 (fun c24 => ?_) (fun c24 => ?_)
              · have h := g_ifp c24 h
                refine g_icm1 dX12_kindHere_186 ?_
                obtain rfl := Option.some.inj h
                exact g_iret rfl (Nat.le_refl _) rfl dX12_kindHere_187 ⟨rfl, rfl⟩
              · have h := g_ifn c24 h
                refine g_ic5 dX12_kindHere_182 ?_
                refine g_goto 187 (by decide) dX12_kindHere_183 ?_
                obtain rfl := Option.some.inj h
                exact g_iret rfl (Nat.le_refl _) rfl dX12_kindHere_187 ⟨rfl, rfl⟩
            · have h := g_ifn c21 h
              refine g_aload_n dX12_kindHere_148 rfl ?_
              refine g_aload_n dX12_kindHere_149 rfl ?_
              refine m_getI fl_X12_151 rfl rfl dX12_kindHere_150 ?_
              refine g_bipush (v := 6) dX12_kindHere_153 (by decide) ?_
              refine g_iadd dX12_kindHere_155 ?_
              obtain ⟨x25, q26, h⟩ := g_bind h
              refine m_cV mt_X12_byteAt ml_X12_154 mv_X12_byteAt dX12_kindHere_156 (k_X12_byteAt q26) rfl rfl rfl rfl (by decide) ⟨Nat.le_refl _, Nat.le_refl _⟩ (Nat.le_of_ble_eq_true rfl) ?_
              refine g_bipush (v := 108) dX12_kindHere_159 (by decide) ?_
              refine g_icmp_ne 166 (by decide) dX12_kindHere_161 (fun c27 => ?_) (fun c27 => ?_)
              · have h := g_ifn c27 h
                refine g_aload_n dX12_kindHere_166 rfl ?_
                refine g_ic4 dX12_kindHere_167 ?_
                refine g_bipush (v := 114) dX12_kindHere_168 (by decide) ?_
                refine g_bipush (v := 97) dX12_kindHere_170 (by decide) ?_
                refine g_bipush (v := 107) dX12_kindHere_172 (by decide) ?_
                refine g_bipush (v := 101) dX12_kindHere_174 (by decide) ?_
                obtain ⟨x28, q29, h⟩ := g_bind h
                refine m_cV mt_X12_isName ml_X12_176 mv_X12_isName dX12_kindHere_176 (k_X12_isName q29) rfl rfl rfl rfl (by decide) ⟨Nat.le_refl _, Nat.le_refl _⟩ (Nat.le_of_ble_eq_true rfl) ?_
                refine g_if_eq 186 (by decide) dX12_kindHere_179 (fun c30 => ?_) (fun c30 => ?_)
                · have h := g_ifp c30 h
                  refine g_icm1 dX12_kindHere_186 ?_
                  obtain rfl := Option.some.inj h
                  exact g_iret rfl (Nat.le_refl _) rfl dX12_kindHere_187 ⟨rfl, rfl⟩
                · have h := g_ifn c30 h
                  refine g_ic5 dX12_kindHere_182 ?_
                  refine g_goto 187 (by decide) dX12_kindHere_183 ?_
                  obtain rfl := Option.some.inj h
                  exact g_iret rfl (Nat.le_refl _) rfl dX12_kindHere_187 ⟨rfl, rfl⟩
              · have h := g_ifp c27 h
                refine g_ic4 dX12_kindHere_164 ?_
                obtain rfl := Option.some.inj h
                exact g_iret rfl (Nat.le_refl _) rfl dX12_kindHere_165 ⟨rfl, rfl⟩
        · have h := g_ifn c12 h
          refine g_aload_n dX12_kindHere_101 rfl ?_
          refine g_ic2 dX12_kindHere_102 ?_
          refine g_bipush (v := 111) dX12_kindHere_103 (by decide) ?_
          refine g_bipush (v := 114) dX12_kindHere_105 (by decide) ?_
          refine g_bipush (v := 101) dX12_kindHere_107 (by decide) ?_
          obtain ⟨x31, q32, h⟩ := g_bind h
          refine m_cV mt_X12_isSame ml_X12_180 mv_X12_isSame dX12_kindHere_109 (k_X12_isSame q32) rfl rfl rfl rfl (by decide) ⟨Nat.le_refl _, Nat.le_refl _⟩ (Nat.le_of_ble_eq_true rfl) ?_
          refine g_if_eq 117 (by decide) dX12_kindHere_112 (fun c33 => ?_) (fun c33 => ?_)
          · have h := g_ifp c33 h
            refine g_aload_n dX12_kindHere_117 rfl ?_
            refine g_bipush (v := 8) dX12_kindHere_118 (by decide) ?_
            refine g_bipush (v := 112) dX12_kindHere_120 (by decide) ?_
            refine g_bipush (v := 111) dX12_kindHere_122 (by decide) ?_
            refine g_bipush (v := 114) dX12_kindHere_124 (by decide) ?_
            refine g_bipush (v := 101) dX12_kindHere_126 (by decide) ?_
            obtain ⟨x34, q35, h⟩ := g_bind h
            refine m_cV mt_X12_isName ml_X12_176 mv_X12_isName dX12_kindHere_128 (k_X12_isName q35) rfl rfl rfl rfl (by decide) ⟨Nat.le_refl _, Nat.le_refl _⟩ (Nat.le_of_ble_eq_true rfl) ?_
            refine g_if_eq 166 (by decide) dX12_kindHere_131 (fun c36 => ?_) (fun c36 => ?_)
            · have h := g_ifp c36 h
              refine g_aload_n dX12_kindHere_166 rfl ?_
              refine g_ic4 dX12_kindHere_167 ?_
              refine g_bipush (v := 114) dX12_kindHere_168 (by decide) ?_
              refine g_bipush (v := 97) dX12_kindHere_170 (by decide) ?_
              refine g_bipush (v := 107) dX12_kindHere_172 (by decide) ?_
              refine g_bipush (v := 101) dX12_kindHere_174 (by decide) ?_
              obtain ⟨x37, q38, h⟩ := g_bind h
              refine m_cV mt_X12_isName ml_X12_176 mv_X12_isName dX12_kindHere_176 (k_X12_isName q38) rfl rfl rfl rfl (by decide) ⟨Nat.le_refl _, Nat.le_refl _⟩ (Nat.le_of_ble_eq_true rfl) ?_
              refine g_if_eq 186 (by decide) dX12_kindHere_179 (fun c39 => ?_) (fun c39 => ?_)
              · have h := g_ifp c39 h
                refine g_icm1 dX12_kindHere_186 ?_
                obtain rfl := Option.some.inj h
                exact g_iret rfl (Nat.le_refl _) rfl dX12_kindHere_187 ⟨rfl, rfl⟩
              · have h := g_ifn c39 h
                refine g_ic5 dX12_kindHere_182 ?_
                refine g_goto 187 (by decide) dX12_kindHere_183 ?_
                obtain rfl := Option.some.inj h
                exact g_iret rfl (Nat.le_refl _) rfl dX12_kindHere_187 ⟨rfl, rfl⟩
            · have h := g_ifn c36 h
              refine g_aload_n dX12_kindHere_134 rfl ?_
              refine g_ic3 dX12_kindHere_135 ?_
              refine g_bipush (v := 116) dX12_kindHere_136 (by decide) ?_
              refine g_bipush (v := 97) dX12_kindHere_138 (by decide) ?_
              refine g_bipush (v := 98) dX12_kindHere_140 (by decide) ?_
              obtain ⟨x40, q41, h⟩ := g_bind h
              refine m_cV mt_X12_isSame ml_X12_180 mv_X12_isSame dX12_kindHere_142 (k_X12_isSame q41) rfl rfl rfl rfl (by decide) ⟨Nat.le_refl _, Nat.le_refl _⟩ (Nat.le_of_ble_eq_true rfl) ?_
              refine g_if_eq 166 (by decide) dX12_kindHere_145 (fun c42 => ?_) (fun c42 => ?_)
              · have h := g_ifp c42 h
                refine g_aload_n dX12_kindHere_166 rfl ?_
                refine g_ic4 dX12_kindHere_167 ?_
                refine g_bipush (v := 114) dX12_kindHere_168 (by decide) ?_
                refine g_bipush (v := 97) dX12_kindHere_170 (by decide) ?_
                refine g_bipush (v := 107) dX12_kindHere_172 (by decide) ?_
                refine g_bipush (v := 101) dX12_kindHere_174 (by decide) ?_
                obtain ⟨x43, q44, h⟩ := g_bind h
                refine m_cV mt_X12_isName ml_X12_176 mv_X12_isName dX12_kindHere_176 (k_X12_isName q44) rfl rfl rfl rfl (by decide) ⟨Nat.le_refl _, Nat.le_refl _⟩ (Nat.le_of_ble_eq_true rfl) ?_
                refine g_if_eq 186 (by decide) dX12_kindHere_179 (fun c45 => ?_) (fun c45 => ?_)
                · have h := g_ifp c45 h
                  refine g_icm1 dX12_kindHere_186 ?_
                  obtain rfl := Option.some.inj h
                  exact g_iret rfl (Nat.le_refl _) rfl dX12_kindHere_187 ⟨rfl, rfl⟩
                · have h := g_ifn c45 h
                  refine g_ic5 dX12_kindHere_182 ?_
                  refine g_goto 187 (by decide) dX12_kindHere_183 ?_
                  obtain rfl := Option.some.inj h
                  exact g_iret rfl (Nat.le_refl _) rfl dX12_kindHere_187 ⟨rfl, rfl⟩
              · have h := g_ifn c42 h
                refine g_aload_n dX12_kindHere_148 rfl ?_
                refine g_aload_n dX12_kindHere_149 rfl ?_
                refine m_getI fl_X12_151 rfl rfl dX12_kindHere_150 ?_
                refine g_bipush (v := 6) dX12_kindHere_153 (by decide) ?_
                refine g_iadd dX12_kindHere_155 ?_
                obtain ⟨x46, q47, h⟩ := g_bind h
                refine m_cV mt_X12_byteAt ml_X12_154 mv_X12_byteAt dX12_kindHere_156 (k_X12_byteAt q47) rfl rfl rfl rfl (by decide) ⟨Nat.le_refl _, Nat.le_refl _⟩ (Nat.le_of_ble_eq_true rfl) ?_
                refine g_bipush (v := 108) dX12_kindHere_159 (by decide) ?_
                refine g_icmp_ne 166 (by decide) dX12_kindHere_161 (fun c48 => ?_) (fun c48 => ?_)
                · have h := g_ifn c48 h
                  refine g_aload_n dX12_kindHere_166 rfl ?_
                  refine g_ic4 dX12_kindHere_167 ?_
                  refine g_bipush (v := 114) dX12_kindHere_168 (by decide) ?_
                  refine g_bipush (v := 97) dX12_kindHere_170 (by decide) ?_
                  refine g_bipush (v := 107) dX12_kindHere_172 (by decide) ?_
                  refine g_bipush (v := 101) dX12_kindHere_174 (by decide) ?_
                  obtain ⟨x49, q50, h⟩ := g_bind h
                  refine m_cV mt_X12_isName ml_X12_176 mv_X12_isName dX12_kindHere_176 (k_X12_isName q50) rfl rfl rfl rfl (by decide) ⟨Nat.le_refl _, Nat.le_refl _⟩ (Nat.le_of_ble_eq_true rfl) ?_
                  refine g_if_eq 186 (by decide) dX12_kindHere_179 (fun c51 => ?_) (fun c51 => ?_)
                  · have h := g_ifp c51 h
                    refine g_icm1 dX12_kindHere_186 ?_
                    obtain rfl := Option.some.inj h
                    exact g_iret rfl (Nat.le_refl _) rfl dX12_kindHere_187 ⟨rfl, rfl⟩
                  · have h := g_ifn c51 h
                    refine g_ic5 dX12_kindHere_182 ?_
                    refine g_goto 187 (by decide) dX12_kindHere_183 ?_
                    obtain rfl := Option.some.inj h
                    exact g_iret rfl (Nat.le_refl _) rfl dX12_kindHere_187 ⟨rfl, rfl⟩
                · have h := g_ifp c48 h
                  refine g_ic4 dX12_kindHere_164 ?_
                  obtain rfl := Option.some.inj h
                  exact g_iret rfl (Nat.le_refl _) rfl dX12_kindHere_165 ⟨rfl, rfl⟩
          · have h := g_ifn c33 h
            refine g_ic3 dX12_kindHere_115 ?_
            obtain rfl := Option.some.inj h
            exact g_iret rfl (Nat.le_refl _) rfl dX12_kindHere_116 ⟨rfl, rfl⟩
      · have h := g_ifn c9 h
        refine g_aload_n dX12_kindHere_67 rfl ?_
        refine g_aload_n dX12_kindHere_68 rfl ?_
        refine m_getI fl_X12_151 rfl rfl dX12_kindHere_69 ?_
        refine g_ic3 dX12_kindHere_72 ?_
        refine g_iadd dX12_kindHere_73 ?_
        obtain ⟨x52, q53, h⟩ := g_bind h
        refine m_cV mt_X12_byteAt ml_X12_154 mv_X12_byteAt dX12_kindHere_74 (k_X12_byteAt q53) rfl rfl rfl rfl (by decide) ⟨Nat.le_refl _, Nat.le_refl _⟩ (Nat.le_of_ble_eq_true rfl) ?_
        refine g_bipush (v := 103) dX12_kindHere_77 (by decide) ?_
        refine g_icmp_ne 84 (by decide) dX12_kindHere_79 (fun c54 => ?_) (fun c54 => ?_)
        · have h := g_ifn c54 h
          refine g_aload_n dX12_kindHere_84 rfl ?_
          refine g_bipush (v := 6) dX12_kindHere_85 (by decide) ?_
          refine g_bipush (v := 100) dX12_kindHere_87 (by decide) ?_
          refine g_bipush (v := 111) dX12_kindHere_89 (by decide) ?_
          refine g_bipush (v := 111) dX12_kindHere_91 (by decide) ?_
          refine g_bipush (v := 100) dX12_kindHere_93 (by decide) ?_
          obtain ⟨x55, q56, h⟩ := g_bind h
          refine m_cV mt_X12_isName ml_X12_176 mv_X12_isName dX12_kindHere_95 (k_X12_isName q56) rfl rfl rfl rfl (by decide) ⟨Nat.le_refl _, Nat.le_refl _⟩ (Nat.le_of_ble_eq_true rfl) ?_
          refine g_if_eq 117 (by decide) dX12_kindHere_98 (fun c57 => ?_) (fun c57 => ?_)
          · have h := g_ifp c57 h
            refine g_aload_n dX12_kindHere_117 rfl ?_
            refine g_bipush (v := 8) dX12_kindHere_118 (by decide) ?_
            refine g_bipush (v := 112) dX12_kindHere_120 (by decide) ?_
            refine g_bipush (v := 111) dX12_kindHere_122 (by decide) ?_
            refine g_bipush (v := 114) dX12_kindHere_124 (by decide) ?_
            refine g_bipush (v := 101) dX12_kindHere_126 (by decide) ?_
            obtain ⟨x58, q59, h⟩ := g_bind h
            refine m_cV mt_X12_isName ml_X12_176 mv_X12_isName dX12_kindHere_128 (k_X12_isName q59) rfl rfl rfl rfl (by decide) ⟨Nat.le_refl _, Nat.le_refl _⟩ (Nat.le_of_ble_eq_true rfl) ?_
            refine g_if_eq 166 (by decide) dX12_kindHere_131 (fun c60 => ?_) (fun c60 => ?_)
            · have h := g_ifp c60 h
              refine g_aload_n dX12_kindHere_166 rfl ?_
              refine g_ic4 dX12_kindHere_167 ?_
              refine g_bipush (v := 114) dX12_kindHere_168 (by decide) ?_
              refine g_bipush (v := 97) dX12_kindHere_170 (by decide) ?_
              refine g_bipush (v := 107) dX12_kindHere_172 (by decide) ?_
              refine g_bipush (v := 101) dX12_kindHere_174 (by decide) ?_
              obtain ⟨x61, q62, h⟩ := g_bind h
              refine m_cV mt_X12_isName ml_X12_176 mv_X12_isName dX12_kindHere_176 (k_X12_isName q62) rfl rfl rfl rfl (by decide) ⟨Nat.le_refl _, Nat.le_refl _⟩ (Nat.le_of_ble_eq_true rfl) ?_
              refine g_if_eq 186 (by decide) dX12_kindHere_179 (fun c63 => ?_) (fun c63 => ?_)
              · have h := g_ifp c63 h
                refine g_icm1 dX12_kindHere_186 ?_
                obtain rfl := Option.some.inj h
                exact g_iret rfl (Nat.le_refl _) rfl dX12_kindHere_187 ⟨rfl, rfl⟩
              · have h := g_ifn c63 h
                refine g_ic5 dX12_kindHere_182 ?_
                refine g_goto 187 (by decide) dX12_kindHere_183 ?_
                obtain rfl := Option.some.inj h
                exact g_iret rfl (Nat.le_refl _) rfl dX12_kindHere_187 ⟨rfl, rfl⟩
            · have h := g_ifn c60 h
              refine g_aload_n dX12_kindHere_134 rfl ?_
              refine g_ic3 dX12_kindHere_135 ?_
              refine g_bipush (v := 116) dX12_kindHere_136 (by decide) ?_
              refine g_bipush (v := 97) dX12_kindHere_138 (by decide) ?_
              refine g_bipush (v := 98) dX12_kindHere_140 (by decide) ?_
              obtain ⟨x64, q65, h⟩ := g_bind h
              refine m_cV mt_X12_isSame ml_X12_180 mv_X12_isSame dX12_kindHere_142 (k_X12_isSame q65) rfl rfl rfl rfl (by decide) ⟨Nat.le_refl _, Nat.le_refl _⟩ (Nat.le_of_ble_eq_true rfl) ?_
              refine g_if_eq 166 (by decide) dX12_kindHere_145 (fun c66 => ?_) (fun c66 => ?_)
              · have h := g_ifp c66 h
                refine g_aload_n dX12_kindHere_166 rfl ?_
                refine g_ic4 dX12_kindHere_167 ?_
                refine g_bipush (v := 114) dX12_kindHere_168 (by decide) ?_
                refine g_bipush (v := 97) dX12_kindHere_170 (by decide) ?_
                refine g_bipush (v := 107) dX12_kindHere_172 (by decide) ?_
                refine g_bipush (v := 101) dX12_kindHere_174 (by decide) ?_
                obtain ⟨x67, q68, h⟩ := g_bind h
                refine m_cV mt_X12_isName ml_X12_176 mv_X12_isName dX12_kindHere_176 (k_X12_isName q68) rfl rfl rfl rfl (by decide) ⟨Nat.le_refl _, Nat.le_refl _⟩ (Nat.le_of_ble_eq_true rfl) ?_
                refine g_if_eq 186 (by decide) dX12_kindHere_179 (fun c69 => ?_) (fun c69 => ?_)
                · have h := g_ifp c69 h
                  refine g_icm1 dX12_kindHere_186 ?_
                  obtain rfl := Option.some.inj h
                  exact g_iret rfl (Nat.le_refl _) rfl dX12_kindHere_187 ⟨rfl, rfl⟩
                · have h := g_ifn c69 h
                  refine g_ic5 dX12_kindHere_182 ?_
                  refine g_goto 187 (by decide) dX12_kindHere_183 ?_
                  obtain rfl := Option.some.inj h
                  exact g_iret rfl (Nat.le_refl _) rfl dX12_kindHere_187 ⟨rfl, rfl⟩
              · have h := g_ifn c66 h
                refine g_aload_n dX12_kindHere_148 rfl ?_
                refine g_aload_n dX12_kindHere_149 rfl ?_
                refine m_getI fl_X12_151 rfl rfl dX12_kindHere_150 ?_
                refine g_bipush (v := 6) dX12_kindHere_153 (by decide) ?_
                refine g_iadd dX12_kindHere_155 ?_
                obtain ⟨x70, q71, h⟩ := g_bind h
                refine m_cV mt_X12_byteAt ml_X12_154 mv_X12_byteAt dX12_kindHere_156 (k_X12_byteAt q71) rfl rfl rfl rfl (by decide) ⟨Nat.le_refl _, Nat.le_refl _⟩ (Nat.le_of_ble_eq_true rfl) ?_
                refine g_bipush (v := 108) dX12_kindHere_159 (by decide) ?_
                refine g_icmp_ne 166 (by decide) dX12_kindHere_161 (fun c72 => ?_) (fun c72 => ?_)
                · have h := g_ifn c72 h
                  refine g_aload_n dX12_kindHere_166 rfl ?_
                  refine g_ic4 dX12_kindHere_167 ?_
                  refine g_bipush (v := 114) dX12_kindHere_168 (by decide) ?_
                  refine g_bipush (v := 97) dX12_kindHere_170 (by decide) ?_
                  refine g_bipush (v := 107) dX12_kindHere_172 (by decide) ?_
                  refine g_bipush (v := 101) dX12_kindHere_174 (by decide) ?_
                  obtain ⟨x73, q74, h⟩ := g_bind h
                  refine m_cV mt_X12_isName ml_X12_176 mv_X12_isName dX12_kindHere_176 (k_X12_isName q74) rfl rfl rfl rfl (by decide) ⟨Nat.le_refl _, Nat.le_refl _⟩ (Nat.le_of_ble_eq_true rfl) ?_
                  refine g_if_eq 186 (by decide) dX12_kindHere_179 (fun c75 => ?_) (fun c75 => ?_)
                  · have h := g_ifp c75 h
                    refine g_icm1 dX12_kindHere_186 ?_
                    obtain rfl := Option.some.inj h
                    exact g_iret rfl (Nat.le_refl _) rfl dX12_kindHere_187 ⟨rfl, rfl⟩
                  · have h := g_ifn c75 h
                    refine g_ic5 dX12_kindHere_182 ?_
                    refine g_goto 187 (by decide) dX12_kindHere_183 ?_
                    obtain rfl := Option.some.inj h
                    exact g_iret rfl (Nat.le_refl _) rfl dX12_kindHere_187 ⟨rfl, rfl⟩
                · have h := g_ifp c72 h
                  refine g_ic4 dX12_kindHere_164 ?_
                  obtain rfl := Option.some.inj h
                  exact g_iret rfl (Nat.le_refl _) rfl dX12_kindHere_165 ⟨rfl, rfl⟩
          · have h := g_ifn c57 h
            refine g_aload_n dX12_kindHere_101 rfl ?_
            refine g_ic2 dX12_kindHere_102 ?_
            refine g_bipush (v := 111) dX12_kindHere_103 (by decide) ?_
            refine g_bipush (v := 114) dX12_kindHere_105 (by decide) ?_
            refine g_bipush (v := 101) dX12_kindHere_107 (by decide) ?_
            obtain ⟨x76, q77, h⟩ := g_bind h
            refine m_cV mt_X12_isSame ml_X12_180 mv_X12_isSame dX12_kindHere_109 (k_X12_isSame q77) rfl rfl rfl rfl (by decide) ⟨Nat.le_refl _, Nat.le_refl _⟩ (Nat.le_of_ble_eq_true rfl) ?_
            refine g_if_eq 117 (by decide) dX12_kindHere_112 (fun c78 => ?_) (fun c78 => ?_)
            · have h := g_ifp c78 h
              refine g_aload_n dX12_kindHere_117 rfl ?_
              refine g_bipush (v := 8) dX12_kindHere_118 (by decide) ?_
              refine g_bipush (v := 112) dX12_kindHere_120 (by decide) ?_
              refine g_bipush (v := 111) dX12_kindHere_122 (by decide) ?_
              refine g_bipush (v := 114) dX12_kindHere_124 (by decide) ?_
              refine g_bipush (v := 101) dX12_kindHere_126 (by decide) ?_
              obtain ⟨x79, q80, h⟩ := g_bind h
              refine m_cV mt_X12_isName ml_X12_176 mv_X12_isName dX12_kindHere_128 (k_X12_isName q80) rfl rfl rfl rfl (by decide) ⟨Nat.le_refl _, Nat.le_refl _⟩ (Nat.le_of_ble_eq_true rfl) ?_
              refine g_if_eq 166 (by decide) dX12_kindHere_131 (fun c81 => ?_) (fun c81 => ?_)
              · have h := g_ifp c81 h
                refine g_aload_n dX12_kindHere_166 rfl ?_
                refine g_ic4 dX12_kindHere_167 ?_
                refine g_bipush (v := 114) dX12_kindHere_168 (by decide) ?_
                refine g_bipush (v := 97) dX12_kindHere_170 (by decide) ?_
                refine g_bipush (v := 107) dX12_kindHere_172 (by decide) ?_
                refine g_bipush (v := 101) dX12_kindHere_174 (by decide) ?_
                obtain ⟨x82, q83, h⟩ := g_bind h
                refine m_cV mt_X12_isName ml_X12_176 mv_X12_isName dX12_kindHere_176 (k_X12_isName q83) rfl rfl rfl rfl (by decide) ⟨Nat.le_refl _, Nat.le_refl _⟩ (Nat.le_of_ble_eq_true rfl) ?_
                refine g_if_eq 186 (by decide) dX12_kindHere_179 (fun c84 => ?_) (fun c84 => ?_)
                · have h := g_ifp c84 h
                  refine g_icm1 dX12_kindHere_186 ?_
                  obtain rfl := Option.some.inj h
                  exact g_iret rfl (Nat.le_refl _) rfl dX12_kindHere_187 ⟨rfl, rfl⟩
                · have h := g_ifn c84 h
                  refine g_ic5 dX12_kindHere_182 ?_
                  refine g_goto 187 (by decide) dX12_kindHere_183 ?_
                  obtain rfl := Option.some.inj h
                  exact g_iret rfl (Nat.le_refl _) rfl dX12_kindHere_187 ⟨rfl, rfl⟩
              · have h := g_ifn c81 h
                refine g_aload_n dX12_kindHere_134 rfl ?_
                refine g_ic3 dX12_kindHere_135 ?_
                refine g_bipush (v := 116) dX12_kindHere_136 (by decide) ?_
                refine g_bipush (v := 97) dX12_kindHere_138 (by decide) ?_
                refine g_bipush (v := 98) dX12_kindHere_140 (by decide) ?_
                obtain ⟨x85, q86, h⟩ := g_bind h
                refine m_cV mt_X12_isSame ml_X12_180 mv_X12_isSame dX12_kindHere_142 (k_X12_isSame q86) rfl rfl rfl rfl (by decide) ⟨Nat.le_refl _, Nat.le_refl _⟩ (Nat.le_of_ble_eq_true rfl) ?_
                refine g_if_eq 166 (by decide) dX12_kindHere_145 (fun c87 => ?_) (fun c87 => ?_)
                · have h := g_ifp c87 h
                  refine g_aload_n dX12_kindHere_166 rfl ?_
                  refine g_ic4 dX12_kindHere_167 ?_
                  refine g_bipush (v := 114) dX12_kindHere_168 (by decide) ?_
                  refine g_bipush (v := 97) dX12_kindHere_170 (by decide) ?_
                  refine g_bipush (v := 107) dX12_kindHere_172 (by decide) ?_
                  refine g_bipush (v := 101) dX12_kindHere_174 (by decide) ?_
                  obtain ⟨x88, q89, h⟩ := g_bind h
                  refine m_cV mt_X12_isName ml_X12_176 mv_X12_isName dX12_kindHere_176 (k_X12_isName q89) rfl rfl rfl rfl (by decide) ⟨Nat.le_refl _, Nat.le_refl _⟩ (Nat.le_of_ble_eq_true rfl) ?_
                  refine g_if_eq 186 (by decide) dX12_kindHere_179 (fun c90 => ?_) (fun c90 => ?_)
                  · have h := g_ifp c90 h
                    refine g_icm1 dX12_kindHere_186 ?_
                    obtain rfl := Option.some.inj h
                    exact g_iret rfl (Nat.le_refl _) rfl dX12_kindHere_187 ⟨rfl, rfl⟩
                  · have h := g_ifn c90 h
                    refine g_ic5 dX12_kindHere_182 ?_
                    refine g_goto 187 (by decide) dX12_kindHere_183 ?_
                    obtain rfl := Option.some.inj h
                    exact g_iret rfl (Nat.le_refl _) rfl dX12_kindHere_187 ⟨rfl, rfl⟩
                · have h := g_ifn c87 h
                  refine g_aload_n dX12_kindHere_148 rfl ?_
                  refine g_aload_n dX12_kindHere_149 rfl ?_
                  refine m_getI fl_X12_151 rfl rfl dX12_kindHere_150 ?_
                  refine g_bipush (v := 6) dX12_kindHere_153 (by decide) ?_
                  refine g_iadd dX12_kindHere_155 ?_
                  obtain ⟨x91, q92, h⟩ := g_bind h
                  refine m_cV mt_X12_byteAt ml_X12_154 mv_X12_byteAt dX12_kindHere_156 (k_X12_byteAt q92) rfl rfl rfl rfl (by decide) ⟨Nat.le_refl _, Nat.le_refl _⟩ (Nat.le_of_ble_eq_true rfl) ?_
                  refine g_bipush (v := 108) dX12_kindHere_159 (by decide) ?_
                  refine g_icmp_ne 166 (by decide) dX12_kindHere_161 (fun c93 => ?_) (fun c93 => ?_)
                  · have h := g_ifn c93 h
                    refine g_aload_n dX12_kindHere_166 rfl ?_
                    refine g_ic4 dX12_kindHere_167 ?_
                    refine g_bipush (v := 114) dX12_kindHere_168 (by decide) ?_
                    refine g_bipush (v := 97) dX12_kindHere_170 (by decide) ?_
                    refine g_bipush (v := 107) dX12_kindHere_172 (by decide) ?_
                    refine g_bipush (v := 101) dX12_kindHere_174 (by decide) ?_
                    obtain ⟨x94, q95, h⟩ := g_bind h
                    refine m_cV mt_X12_isName ml_X12_176 mv_X12_isName dX12_kindHere_176 (k_X12_isName q95) rfl rfl rfl rfl (by decide) ⟨Nat.le_refl _, Nat.le_refl _⟩ (Nat.le_of_ble_eq_true rfl) ?_
                    refine g_if_eq 186 (by decide) dX12_kindHere_179 (fun c96 => ?_) (fun c96 => ?_)
                    · have h := g_ifp c96 h
                      refine g_icm1 dX12_kindHere_186 ?_
                      obtain rfl := Option.some.inj h
                      exact g_iret rfl (Nat.le_refl _) rfl dX12_kindHere_187 ⟨rfl, rfl⟩
                    · have h := g_ifn c96 h
                      refine g_ic5 dX12_kindHere_182 ?_
                      refine g_goto 187 (by decide) dX12_kindHere_183 ?_
                      obtain rfl := Option.some.inj h
                      exact g_iret rfl (Nat.le_refl _) rfl dX12_kindHere_187 ⟨rfl, rfl⟩
                  · have h := g_ifp c93 h
                    refine g_ic4 dX12_kindHere_164 ?_
                    obtain rfl := Option.some.inj h
                    exact g_iret rfl (Nat.le_refl _) rfl dX12_kindHere_165 ⟨rfl, rfl⟩
            · have h := g_ifn c78 h
              refine g_ic3 dX12_kindHere_115 ?_
              obtain rfl := Option.some.inj h
              exact g_iret rfl (Nat.le_refl _) rfl dX12_kindHere_116 ⟨rfl, rfl⟩
        · have h := g_ifp c54 h
          refine g_ic2 dX12_kindHere_82 ?_
          obtain rfl := Option.some.inj h
          exact g_iret rfl (Nat.le_refl _) rfl dX12_kindHere_83 ⟨rfl, rfl⟩
    · have h := g_ifn c6 h
      refine g_aload_n dX12_kindHere_35 rfl ?_
      refine g_ic3 dX12_kindHere_36 ?_
      refine g_bipush (v := 111) dX12_kindHere_37 (by decide) ?_
      refine g_bipush (v := 119) dX12_kindHere_39 (by decide) ?_
      refine g_bipush (v := 101) dX12_kindHere_41 (by decide) ?_
      obtain ⟨x97, q98, h⟩ := g_bind h
      refine m_cV mt_X12_isSame ml_X12_180 mv_X12_isSame dX12_kindHere_43 (k_X12_isSame q98) rfl rfl rfl rfl (by decide) ⟨Nat.le_refl _, Nat.le_refl _⟩ (Nat.le_of_ble_eq_true rfl) ?_
      refine g_if_eq 51 (by decide) dX12_kindHere_46 (fun c99 => ?_) (fun c99 => ?_)
      · have h := g_ifp c99 h
        refine g_aload_n dX12_kindHere_51 rfl ?_
        refine g_ic5 dX12_kindHere_52 ?_
        refine g_bipush (v := 114) dX12_kindHere_53 (by decide) ?_
        refine g_bipush (v := 97) dX12_kindHere_55 (by decide) ?_
        refine g_bipush (v := 110) dX12_kindHere_57 (by decide) ?_
        refine g_bipush (v := 101) dX12_kindHere_59 (by decide) ?_
        obtain ⟨x100, q101, h⟩ := g_bind h
        refine m_cV mt_X12_isName ml_X12_176 mv_X12_isName dX12_kindHere_61 (k_X12_isName q101) rfl rfl rfl rfl (by decide) ⟨Nat.le_refl _, Nat.le_refl _⟩ (Nat.le_of_ble_eq_true rfl) ?_
        refine g_if_eq 84 (by decide) dX12_kindHere_64 (fun c102 => ?_) (fun c102 => ?_)
        · have h := g_ifp c102 h
          refine g_aload_n dX12_kindHere_84 rfl ?_
          refine g_bipush (v := 6) dX12_kindHere_85 (by decide) ?_
          refine g_bipush (v := 100) dX12_kindHere_87 (by decide) ?_
          refine g_bipush (v := 111) dX12_kindHere_89 (by decide) ?_
          refine g_bipush (v := 111) dX12_kindHere_91 (by decide) ?_
          refine g_bipush (v := 100) dX12_kindHere_93 (by decide) ?_
          obtain ⟨x103, q104, h⟩ := g_bind h
          refine m_cV mt_X12_isName ml_X12_176 mv_X12_isName dX12_kindHere_95 (k_X12_isName q104) rfl rfl rfl rfl (by decide) ⟨Nat.le_refl _, Nat.le_refl _⟩ (Nat.le_of_ble_eq_true rfl) ?_
          refine g_if_eq 117 (by decide) dX12_kindHere_98 (fun c105 => ?_) (fun c105 => ?_)
          · have h := g_ifp c105 h
            refine g_aload_n dX12_kindHere_117 rfl ?_
            refine g_bipush (v := 8) dX12_kindHere_118 (by decide) ?_
            refine g_bipush (v := 112) dX12_kindHere_120 (by decide) ?_
            refine g_bipush (v := 111) dX12_kindHere_122 (by decide) ?_
            refine g_bipush (v := 114) dX12_kindHere_124 (by decide) ?_
            refine g_bipush (v := 101) dX12_kindHere_126 (by decide) ?_
            obtain ⟨x106, q107, h⟩ := g_bind h
            refine m_cV mt_X12_isName ml_X12_176 mv_X12_isName dX12_kindHere_128 (k_X12_isName q107) rfl rfl rfl rfl (by decide) ⟨Nat.le_refl _, Nat.le_refl _⟩ (Nat.le_of_ble_eq_true rfl) ?_
            refine g_if_eq 166 (by decide) dX12_kindHere_131 (fun c108 => ?_) (fun c108 => ?_)
            · have h := g_ifp c108 h
              refine g_aload_n dX12_kindHere_166 rfl ?_
              refine g_ic4 dX12_kindHere_167 ?_
              refine g_bipush (v := 114) dX12_kindHere_168 (by decide) ?_
              refine g_bipush (v := 97) dX12_kindHere_170 (by decide) ?_
              refine g_bipush (v := 107) dX12_kindHere_172 (by decide) ?_
              refine g_bipush (v := 101) dX12_kindHere_174 (by decide) ?_
              obtain ⟨x109, q110, h⟩ := g_bind h
              refine m_cV mt_X12_isName ml_X12_176 mv_X12_isName dX12_kindHere_176 (k_X12_isName q110) rfl rfl rfl rfl (by decide) ⟨Nat.le_refl _, Nat.le_refl _⟩ (Nat.le_of_ble_eq_true rfl) ?_
              refine g_if_eq 186 (by decide) dX12_kindHere_179 (fun c111 => ?_) (fun c111 => ?_)
              · have h := g_ifp c111 h
                refine g_icm1 dX12_kindHere_186 ?_
                obtain rfl := Option.some.inj h
                exact g_iret rfl (Nat.le_refl _) rfl dX12_kindHere_187 ⟨rfl, rfl⟩
              · have h := g_ifn c111 h
                refine g_ic5 dX12_kindHere_182 ?_
                refine g_goto 187 (by decide) dX12_kindHere_183 ?_
                obtain rfl := Option.some.inj h
                exact g_iret rfl (Nat.le_refl _) rfl dX12_kindHere_187 ⟨rfl, rfl⟩
            · have h := g_ifn c108 h
              refine g_aload_n dX12_kindHere_134 rfl ?_
              refine g_ic3 dX12_kindHere_135 ?_
              refine g_bipush (v := 116) dX12_kindHere_136 (by decide) ?_
              refine g_bipush (v := 97) dX12_kindHere_138 (by decide) ?_
              refine g_bipush (v := 98) dX12_kindHere_140 (by decide) ?_
              obtain ⟨x112, q113, h⟩ := g_bind h
              refine m_cV mt_X12_isSame ml_X12_180 mv_X12_isSame dX12_kindHere_142 (k_X12_isSame q113) rfl rfl rfl rfl (by decide) ⟨Nat.le_refl _, Nat.le_refl _⟩ (Nat.le_of_ble_eq_true rfl) ?_
              refine g_if_eq 166 (by decide) dX12_kindHere_145 (fun c114 => ?_) (fun c114 => ?_)
              · have h := g_ifp c114 h
                refine g_aload_n dX12_kindHere_166 rfl ?_
                refine g_ic4 dX12_kindHere_167 ?_
                refine g_bipush (v := 114) dX12_kindHere_168 (by decide) ?_
                refine g_bipush (v := 97) dX12_kindHere_170 (by decide) ?_
                refine g_bipush (v := 107) dX12_kindHere_172 (by decide) ?_
                refine g_bipush (v := 101) dX12_kindHere_174 (by decide) ?_
                obtain ⟨x115, q116, h⟩ := g_bind h
                refine m_cV mt_X12_isName ml_X12_176 mv_X12_isName dX12_kindHere_176 (k_X12_isName q116) rfl rfl rfl rfl (by decide) ⟨Nat.le_refl _, Nat.le_refl _⟩ (Nat.le_of_ble_eq_true rfl) ?_
                refine g_if_eq 186 (by decide) dX12_kindHere_179 (fun c117 => ?_) (fun c117 => ?_)
                · have h := g_ifp c117 h
                  refine g_icm1 dX12_kindHere_186 ?_
                  obtain rfl := Option.some.inj h
                  exact g_iret rfl (Nat.le_refl _) rfl dX12_kindHere_187 ⟨rfl, rfl⟩
                · have h := g_ifn c117 h
                  refine g_ic5 dX12_kindHere_182 ?_
                  refine g_goto 187 (by decide) dX12_kindHere_183 ?_
                  obtain rfl := Option.some.inj h
                  exact g_iret rfl (Nat.le_refl _) rfl dX12_kindHere_187 ⟨rfl, rfl⟩
              · have h := g_ifn c114 h
                refine g_aload_n dX12_kindHere_148 rfl ?_
                refine g_aload_n dX12_kindHere_149 rfl ?_
                refine m_getI fl_X12_151 rfl rfl dX12_kindHere_150 ?_
                refine g_bipush (v := 6) dX12_kindHere_153 (by decide) ?_
                refine g_iadd dX12_kindHere_155 ?_
                obtain ⟨x118, q119, h⟩ := g_bind h
                refine m_cV mt_X12_byteAt ml_X12_154 mv_X12_byteAt dX12_kindHere_156 (k_X12_byteAt q119) rfl rfl rfl rfl (by decide) ⟨Nat.le_refl _, Nat.le_refl _⟩ (Nat.le_of_ble_eq_true rfl) ?_
                refine g_bipush (v := 108) dX12_kindHere_159 (by decide) ?_
                refine g_icmp_ne 166 (by decide) dX12_kindHere_161 (fun c120 => ?_) (fun c120 => ?_)
                · have h := g_ifn c120 h
                  refine g_aload_n dX12_kindHere_166 rfl ?_
                  refine g_ic4 dX12_kindHere_167 ?_
                  refine g_bipush (v := 114) dX12_kindHere_168 (by decide) ?_
                  refine g_bipush (v := 97) dX12_kindHere_170 (by decide) ?_
                  refine g_bipush (v := 107) dX12_kindHere_172 (by decide) ?_
                  refine g_bipush (v := 101) dX12_kindHere_174 (by decide) ?_
                  obtain ⟨x121, q122, h⟩ := g_bind h
                  refine m_cV mt_X12_isName ml_X12_176 mv_X12_isName dX12_kindHere_176 (k_X12_isName q122) rfl rfl rfl rfl (by decide) ⟨Nat.le_refl _, Nat.le_refl _⟩ (Nat.le_of_ble_eq_true rfl) ?_
                  refine g_if_eq 186 (by decide) dX12_kindHere_179 (fun c123 => ?_) (fun c123 => ?_)
                  · have h := g_ifp c123 h
                    refine g_icm1 dX12_kindHere_186 ?_
                    obtain rfl := Option.some.inj h
                    exact g_iret rfl (Nat.le_refl _) rfl dX12_kindHere_187 ⟨rfl, rfl⟩
                  · have h := g_ifn c123 h
                    refine g_ic5 dX12_kindHere_182 ?_
                    refine g_goto 187 (by decide) dX12_kindHere_183 ?_
                    obtain rfl := Option.some.inj h
                    exact g_iret rfl (Nat.le_refl _) rfl dX12_kindHere_187 ⟨rfl, rfl⟩
                · have h := g_ifp c120 h
                  refine g_ic4 dX12_kindHere_164 ?_
                  obtain rfl := Option.some.inj h
                  exact g_iret rfl (Nat.le_refl _) rfl dX12_kindHere_165 ⟨rfl, rfl⟩
          · have h := g_ifn c105 h
            refine g_aload_n dX12_kindHere_101 rfl ?_
            refine g_ic2 dX12_kindHere_102 ?_
            refine g_bipush (v := 111) dX12_kindHere_103 (by decide) ?_
            refine g_bipush (v := 114) dX12_kindHere_105 (by decide) ?_
            refine g_bipush (v := 101) dX12_kindHere_107 (by decide) ?_
            obtain ⟨x124, q125, h⟩ := g_bind h
            refine m_cV mt_X12_isSame ml_X12_180 mv_X12_isSame dX12_kindHere_109 (k_X12_isSame q125) rfl rfl rfl rfl (by decide) ⟨Nat.le_refl _, Nat.le_refl _⟩ (Nat.le_of_ble_eq_true rfl) ?_
            refine g_if_eq 117 (by decide) dX12_kindHere_112 (fun c126 => ?_) (fun c126 => ?_)
            · have h := g_ifp c126 h
              refine g_aload_n dX12_kindHere_117 rfl ?_
              refine g_bipush (v := 8) dX12_kindHere_118 (by decide) ?_
              refine g_bipush (v := 112) dX12_kindHere_120 (by decide) ?_
              refine g_bipush (v := 111) dX12_kindHere_122 (by decide) ?_
              refine g_bipush (v := 114) dX12_kindHere_124 (by decide) ?_
              refine g_bipush (v := 101) dX12_kindHere_126 (by decide) ?_
              obtain ⟨x127, q128, h⟩ := g_bind h
              refine m_cV mt_X12_isName ml_X12_176 mv_X12_isName dX12_kindHere_128 (k_X12_isName q128) rfl rfl rfl rfl (by decide) ⟨Nat.le_refl _, Nat.le_refl _⟩ (Nat.le_of_ble_eq_true rfl) ?_
              refine g_if_eq 166 (by decide) dX12_kindHere_131 (fun c129 => ?_) (fun c129 => ?_)
              · have h := g_ifp c129 h
                refine g_aload_n dX12_kindHere_166 rfl ?_
                refine g_ic4 dX12_kindHere_167 ?_
                refine g_bipush (v := 114) dX12_kindHere_168 (by decide) ?_
                refine g_bipush (v := 97) dX12_kindHere_170 (by decide) ?_
                refine g_bipush (v := 107) dX12_kindHere_172 (by decide) ?_
                refine g_bipush (v := 101) dX12_kindHere_174 (by decide) ?_
                obtain ⟨x130, q131, h⟩ := g_bind h
                refine m_cV mt_X12_isName ml_X12_176 mv_X12_isName dX12_kindHere_176 (k_X12_isName q131) rfl rfl rfl rfl (by decide) ⟨Nat.le_refl _, Nat.le_refl _⟩ (Nat.le_of_ble_eq_true rfl) ?_
                refine g_if_eq 186 (by decide) dX12_kindHere_179 (fun c132 => ?_) (fun c132 => ?_)
                · have h := g_ifp c132 h
                  refine g_icm1 dX12_kindHere_186 ?_
                  obtain rfl := Option.some.inj h
                  exact g_iret rfl (Nat.le_refl _) rfl dX12_kindHere_187 ⟨rfl, rfl⟩
                · have h := g_ifn c132 h
                  refine g_ic5 dX12_kindHere_182 ?_
                  refine g_goto 187 (by decide) dX12_kindHere_183 ?_
                  obtain rfl := Option.some.inj h
                  exact g_iret rfl (Nat.le_refl _) rfl dX12_kindHere_187 ⟨rfl, rfl⟩
              · have h := g_ifn c129 h
                refine g_aload_n dX12_kindHere_134 rfl ?_
                refine g_ic3 dX12_kindHere_135 ?_
                refine g_bipush (v := 116) dX12_kindHere_136 (by decide) ?_
                refine g_bipush (v := 97) dX12_kindHere_138 (by decide) ?_
                refine g_bipush (v := 98) dX12_kindHere_140 (by decide) ?_
                obtain ⟨x133, q134, h⟩ := g_bind h
                refine m_cV mt_X12_isSame ml_X12_180 mv_X12_isSame dX12_kindHere_142 (k_X12_isSame q134) rfl rfl rfl rfl (by decide) ⟨Nat.le_refl _, Nat.le_refl _⟩ (Nat.le_of_ble_eq_true rfl) ?_
                refine g_if_eq 166 (by decide) dX12_kindHere_145 (fun c135 => ?_) (fun c135 => ?_)
                · have h := g_ifp c135 h
                  refine g_aload_n dX12_kindHere_166 rfl ?_
                  refine g_ic4 dX12_kindHere_167 ?_
                  refine g_bipush (v := 114) dX12_kindHere_168 (by decide) ?_
                  refine g_bipush (v := 97) dX12_kindHere_170 (by decide) ?_
                  refine g_bipush (v := 107) dX12_kindHere_172 (by decide) ?_
                  refine g_bipush (v := 101) dX12_kindHere_174 (by decide) ?_
                  obtain ⟨x136, q137, h⟩ := g_bind h
                  refine m_cV mt_X12_isName ml_X12_176 mv_X12_isName dX12_kindHere_176 (k_X12_isName q137) rfl rfl rfl rfl (by decide) ⟨Nat.le_refl _, Nat.le_refl _⟩ (Nat.le_of_ble_eq_true rfl) ?_
                  refine g_if_eq 186 (by decide) dX12_kindHere_179 (fun c138 => ?_) (fun c138 => ?_)
                  · have h := g_ifp c138 h
                    refine g_icm1 dX12_kindHere_186 ?_
                    obtain rfl := Option.some.inj h
                    exact g_iret rfl (Nat.le_refl _) rfl dX12_kindHere_187 ⟨rfl, rfl⟩
                  · have h := g_ifn c138 h
                    refine g_ic5 dX12_kindHere_182 ?_
                    refine g_goto 187 (by decide) dX12_kindHere_183 ?_
                    obtain rfl := Option.some.inj h
                    exact g_iret rfl (Nat.le_refl _) rfl dX12_kindHere_187 ⟨rfl, rfl⟩
                · have h := g_ifn c135 h
                  refine g_aload_n dX12_kindHere_148 rfl ?_
                  refine g_aload_n dX12_kindHere_149 rfl ?_
                  refine m_getI fl_X12_151 rfl rfl dX12_kindHere_150 ?_
                  refine g_bipush (v := 6) dX12_kindHere_153 (by decide) ?_
                  refine g_iadd dX12_kindHere_155 ?_
                  obtain ⟨x139, q140, h⟩ := g_bind h
                  refine m_cV mt_X12_byteAt ml_X12_154 mv_X12_byteAt dX12_kindHere_156 (k_X12_byteAt q140) rfl rfl rfl rfl (by decide) ⟨Nat.le_refl _, Nat.le_refl _⟩ (Nat.le_of_ble_eq_true rfl) ?_
                  refine g_bipush (v := 108) dX12_kindHere_159 (by decide) ?_
                  refine g_icmp_ne 166 (by decide) dX12_kindHere_161 (fun c141 => ?_) (fun c141 => ?_)
                  · have h := g_ifn c141 h
                    refine g_aload_n dX12_kindHere_166 rfl ?_
                    refine g_ic4 dX12_kindHere_167 ?_
                    refine g_bipush (v := 114) dX12_kindHere_168 (by decide) ?_
                    refine g_bipush (v := 97) dX12_kindHere_170 (by decide) ?_
                    refine g_bipush (v := 107) dX12_kindHere_172 (by decide) ?_
                    refine g_bipush (v := 101) dX12_kindHere_174 (by decide) ?_
                    obtain ⟨x142, q143, h⟩ := g_bind h
                    refine m_cV mt_X12_isName ml_X12_176 mv_X12_isName dX12_kindHere_176 (k_X12_isName q143) rfl rfl rfl rfl (by decide) ⟨Nat.le_refl _, Nat.le_refl _⟩ (Nat.le_of_ble_eq_true rfl) ?_
                    refine g_if_eq 186 (by decide) dX12_kindHere_179 (fun c144 => ?_) (fun c144 => ?_)
                    · have h := g_ifp c144 h
                      refine g_icm1 dX12_kindHere_186 ?_
                      obtain rfl := Option.some.inj h
                      exact g_iret rfl (Nat.le_refl _) rfl dX12_kindHere_187 ⟨rfl, rfl⟩
                    · have h := g_ifn c144 h
                      refine g_ic5 dX12_kindHere_182 ?_
                      refine g_goto 187 (by decide) dX12_kindHere_183 ?_
                      obtain rfl := Option.some.inj h
                      exact g_iret rfl (Nat.le_refl _) rfl dX12_kindHere_187 ⟨rfl, rfl⟩
                  · have h := g_ifp c141 h
                    refine g_ic4 dX12_kindHere_164 ?_
                    obtain rfl := Option.some.inj h
                    exact g_iret rfl (Nat.le_refl _) rfl dX12_kindHere_165 ⟨rfl, rfl⟩
            · have h := g_ifn c126 h
              refine g_ic3 dX12_kindHere_115 ?_
              obtain rfl := Option.some.inj h
              exact g_iret rfl (Nat.le_refl _) rfl dX12_kindHere_116 ⟨rfl, rfl⟩
        · have h := g_ifn c102 h
          refine g_aload_n dX12_kindHere_67 rfl ?_
          refine g_aload_n dX12_kindHere_68 rfl ?_
          refine m_getI fl_X12_151 rfl rfl dX12_kindHere_69 ?_
          refine g_ic3 dX12_kindHere_72 ?_
          refine g_iadd dX12_kindHere_73 ?_
          obtain ⟨x145, q146, h⟩ := g_bind h
          refine m_cV mt_X12_byteAt ml_X12_154 mv_X12_byteAt dX12_kindHere_74 (k_X12_byteAt q146) rfl rfl rfl rfl (by decide) ⟨Nat.le_refl _, Nat.le_refl _⟩ (Nat.le_of_ble_eq_true rfl) ?_
          refine g_bipush (v := 103) dX12_kindHere_77 (by decide) ?_
          refine g_icmp_ne 84 (by decide) dX12_kindHere_79 (fun c147 => ?_) (fun c147 => ?_)
          · have h := g_ifn c147 h
            refine g_aload_n dX12_kindHere_84 rfl ?_
            refine g_bipush (v := 6) dX12_kindHere_85 (by decide) ?_
            refine g_bipush (v := 100) dX12_kindHere_87 (by decide) ?_
            refine g_bipush (v := 111) dX12_kindHere_89 (by decide) ?_
            refine g_bipush (v := 111) dX12_kindHere_91 (by decide) ?_
            refine g_bipush (v := 100) dX12_kindHere_93 (by decide) ?_
            obtain ⟨x148, q149, h⟩ := g_bind h
            refine m_cV mt_X12_isName ml_X12_176 mv_X12_isName dX12_kindHere_95 (k_X12_isName q149) rfl rfl rfl rfl (by decide) ⟨Nat.le_refl _, Nat.le_refl _⟩ (Nat.le_of_ble_eq_true rfl) ?_
            refine g_if_eq 117 (by decide) dX12_kindHere_98 (fun c150 => ?_) (fun c150 => ?_)
            · have h := g_ifp c150 h
              refine g_aload_n dX12_kindHere_117 rfl ?_
              refine g_bipush (v := 8) dX12_kindHere_118 (by decide) ?_
              refine g_bipush (v := 112) dX12_kindHere_120 (by decide) ?_
              refine g_bipush (v := 111) dX12_kindHere_122 (by decide) ?_
              refine g_bipush (v := 114) dX12_kindHere_124 (by decide) ?_
              refine g_bipush (v := 101) dX12_kindHere_126 (by decide) ?_
              obtain ⟨x151, q152, h⟩ := g_bind h
              refine m_cV mt_X12_isName ml_X12_176 mv_X12_isName dX12_kindHere_128 (k_X12_isName q152) rfl rfl rfl rfl (by decide) ⟨Nat.le_refl _, Nat.le_refl _⟩ (Nat.le_of_ble_eq_true rfl) ?_
              refine g_if_eq 166 (by decide) dX12_kindHere_131 (fun c153 => ?_) (fun c153 => ?_)
              · have h := g_ifp c153 h
                refine g_aload_n dX12_kindHere_166 rfl ?_
                refine g_ic4 dX12_kindHere_167 ?_
                refine g_bipush (v := 114) dX12_kindHere_168 (by decide) ?_
                refine g_bipush (v := 97) dX12_kindHere_170 (by decide) ?_
                refine g_bipush (v := 107) dX12_kindHere_172 (by decide) ?_
                refine g_bipush (v := 101) dX12_kindHere_174 (by decide) ?_
                obtain ⟨x154, q155, h⟩ := g_bind h
                refine m_cV mt_X12_isName ml_X12_176 mv_X12_isName dX12_kindHere_176 (k_X12_isName q155) rfl rfl rfl rfl (by decide) ⟨Nat.le_refl _, Nat.le_refl _⟩ (Nat.le_of_ble_eq_true rfl) ?_
                refine g_if_eq 186 (by decide) dX12_kindHere_179 (fun c156 => ?_) (fun c156 => ?_)
                · have h := g_ifp c156 h
                  refine g_icm1 dX12_kindHere_186 ?_
                  obtain rfl := Option.some.inj h
                  exact g_iret rfl (Nat.le_refl _) rfl dX12_kindHere_187 ⟨rfl, rfl⟩
                · have h := g_ifn c156 h
                  refine g_ic5 dX12_kindHere_182 ?_
                  refine g_goto 187 (by decide) dX12_kindHere_183 ?_
                  obtain rfl := Option.some.inj h
                  exact g_iret rfl (Nat.le_refl _) rfl dX12_kindHere_187 ⟨rfl, rfl⟩
              · have h := g_ifn c153 h
                refine g_aload_n dX12_kindHere_134 rfl ?_
                refine g_ic3 dX12_kindHere_135 ?_
                refine g_bipush (v := 116) dX12_kindHere_136 (by decide) ?_
                refine g_bipush (v := 97) dX12_kindHere_138 (by decide) ?_
                refine g_bipush (v := 98) dX12_kindHere_140 (by decide) ?_
                obtain ⟨x157, q158, h⟩ := g_bind h
                refine m_cV mt_X12_isSame ml_X12_180 mv_X12_isSame dX12_kindHere_142 (k_X12_isSame q158) rfl rfl rfl rfl (by decide) ⟨Nat.le_refl _, Nat.le_refl _⟩ (Nat.le_of_ble_eq_true rfl) ?_
                refine g_if_eq 166 (by decide) dX12_kindHere_145 (fun c159 => ?_) (fun c159 => ?_)
                · have h := g_ifp c159 h
                  refine g_aload_n dX12_kindHere_166 rfl ?_
                  refine g_ic4 dX12_kindHere_167 ?_
                  refine g_bipush (v := 114) dX12_kindHere_168 (by decide) ?_
                  refine g_bipush (v := 97) dX12_kindHere_170 (by decide) ?_
                  refine g_bipush (v := 107) dX12_kindHere_172 (by decide) ?_
                  refine g_bipush (v := 101) dX12_kindHere_174 (by decide) ?_
                  obtain ⟨x160, q161, h⟩ := g_bind h
                  refine m_cV mt_X12_isName ml_X12_176 mv_X12_isName dX12_kindHere_176 (k_X12_isName q161) rfl rfl rfl rfl (by decide) ⟨Nat.le_refl _, Nat.le_refl _⟩ (Nat.le_of_ble_eq_true rfl) ?_
                  refine g_if_eq 186 (by decide) dX12_kindHere_179 (fun c162 => ?_) (fun c162 => ?_)
                  · have h := g_ifp c162 h
                    refine g_icm1 dX12_kindHere_186 ?_
                    obtain rfl := Option.some.inj h
                    exact g_iret rfl (Nat.le_refl _) rfl dX12_kindHere_187 ⟨rfl, rfl⟩
                  · have h := g_ifn c162 h
                    refine g_ic5 dX12_kindHere_182 ?_
                    refine g_goto 187 (by decide) dX12_kindHere_183 ?_
                    obtain rfl := Option.some.inj h
                    exact g_iret rfl (Nat.le_refl _) rfl dX12_kindHere_187 ⟨rfl, rfl⟩
                · have h := g_ifn c159 h
                  refine g_aload_n dX12_kindHere_148 rfl ?_
                  refine g_aload_n dX12_kindHere_149 rfl ?_
                  refine m_getI fl_X12_151 rfl rfl dX12_kindHere_150 ?_
                  refine g_bipush (v := 6) dX12_kindHere_153 (by decide) ?_
                  refine g_iadd dX12_kindHere_155 ?_
                  obtain ⟨x163, q164, h⟩ := g_bind h
                  refine m_cV mt_X12_byteAt ml_X12_154 mv_X12_byteAt dX12_kindHere_156 (k_X12_byteAt q164) rfl rfl rfl rfl (by decide) ⟨Nat.le_refl _, Nat.le_refl _⟩ (Nat.le_of_ble_eq_true rfl) ?_
                  refine g_bipush (v := 108) dX12_kindHere_159 (by decide) ?_
                  refine g_icmp_ne 166 (by decide) dX12_kindHere_161 (fun c165 => ?_) (fun c165 => ?_)
                  · have h := g_ifn c165 h
                    refine g_aload_n dX12_kindHere_166 rfl ?_
                    refine g_ic4 dX12_kindHere_167 ?_
                    refine g_bipush (v := 114) dX12_kindHere_168 (by decide) ?_
                    refine g_bipush (v := 97) dX12_kindHere_170 (by decide) ?_
                    refine g_bipush (v := 107) dX12_kindHere_172 (by decide) ?_
                    refine g_bipush (v := 101) dX12_kindHere_174 (by decide) ?_
                    obtain ⟨x166, q167, h⟩ := g_bind h
                    refine m_cV mt_X12_isName ml_X12_176 mv_X12_isName dX12_kindHere_176 (k_X12_isName q167) rfl rfl rfl rfl (by decide) ⟨Nat.le_refl _, Nat.le_refl _⟩ (Nat.le_of_ble_eq_true rfl) ?_
                    refine g_if_eq 186 (by decide) dX12_kindHere_179 (fun c168 => ?_) (fun c168 => ?_)
                    · have h := g_ifp c168 h
                      refine g_icm1 dX12_kindHere_186 ?_
                      obtain rfl := Option.some.inj h
                      exact g_iret rfl (Nat.le_refl _) rfl dX12_kindHere_187 ⟨rfl, rfl⟩
                    · have h := g_ifn c168 h
                      refine g_ic5 dX12_kindHere_182 ?_
                      refine g_goto 187 (by decide) dX12_kindHere_183 ?_
                      obtain rfl := Option.some.inj h
                      exact g_iret rfl (Nat.le_refl _) rfl dX12_kindHere_187 ⟨rfl, rfl⟩
                  · have h := g_ifp c165 h
                    refine g_ic4 dX12_kindHere_164 ?_
                    obtain rfl := Option.some.inj h
                    exact g_iret rfl (Nat.le_refl _) rfl dX12_kindHere_165 ⟨rfl, rfl⟩
            · have h := g_ifn c150 h
              refine g_aload_n dX12_kindHere_101 rfl ?_
              refine g_ic2 dX12_kindHere_102 ?_
              refine g_bipush (v := 111) dX12_kindHere_103 (by decide) ?_
              refine g_bipush (v := 114) dX12_kindHere_105 (by decide) ?_
              refine g_bipush (v := 101) dX12_kindHere_107 (by decide) ?_
              obtain ⟨x169, q170, h⟩ := g_bind h
              refine m_cV mt_X12_isSame ml_X12_180 mv_X12_isSame dX12_kindHere_109 (k_X12_isSame q170) rfl rfl rfl rfl (by decide) ⟨Nat.le_refl _, Nat.le_refl _⟩ (Nat.le_of_ble_eq_true rfl) ?_
              refine g_if_eq 117 (by decide) dX12_kindHere_112 (fun c171 => ?_) (fun c171 => ?_)
              · have h := g_ifp c171 h
                refine g_aload_n dX12_kindHere_117 rfl ?_
                refine g_bipush (v := 8) dX12_kindHere_118 (by decide) ?_
                refine g_bipush (v := 112) dX12_kindHere_120 (by decide) ?_
                refine g_bipush (v := 111) dX12_kindHere_122 (by decide) ?_
                refine g_bipush (v := 114) dX12_kindHere_124 (by decide) ?_
                refine g_bipush (v := 101) dX12_kindHere_126 (by decide) ?_
                obtain ⟨x172, q173, h⟩ := g_bind h
                refine m_cV mt_X12_isName ml_X12_176 mv_X12_isName dX12_kindHere_128 (k_X12_isName q173) rfl rfl rfl rfl (by decide) ⟨Nat.le_refl _, Nat.le_refl _⟩ (Nat.le_of_ble_eq_true rfl) ?_
                refine g_if_eq 166 (by decide) dX12_kindHere_131 (fun c174 => ?_) (fun c174 => ?_)
                · have h := g_ifp c174 h
                  refine g_aload_n dX12_kindHere_166 rfl ?_
                  refine g_ic4 dX12_kindHere_167 ?_
                  refine g_bipush (v := 114) dX12_kindHere_168 (by decide) ?_
                  refine g_bipush (v := 97) dX12_kindHere_170 (by decide) ?_
                  refine g_bipush (v := 107) dX12_kindHere_172 (by decide) ?_
                  refine g_bipush (v := 101) dX12_kindHere_174 (by decide) ?_
                  obtain ⟨x175, q176, h⟩ := g_bind h
                  refine m_cV mt_X12_isName ml_X12_176 mv_X12_isName dX12_kindHere_176 (k_X12_isName q176) rfl rfl rfl rfl (by decide) ⟨Nat.le_refl _, Nat.le_refl _⟩ (Nat.le_of_ble_eq_true rfl) ?_
                  refine g_if_eq 186 (by decide) dX12_kindHere_179 (fun c177 => ?_) (fun c177 => ?_)
                  · have h := g_ifp c177 h
                    refine g_icm1 dX12_kindHere_186 ?_
                    obtain rfl := Option.some.inj h
                    exact g_iret rfl (Nat.le_refl _) rfl dX12_kindHere_187 ⟨rfl, rfl⟩
                  · have h := g_ifn c177 h
                    refine g_ic5 dX12_kindHere_182 ?_
                    refine g_goto 187 (by decide) dX12_kindHere_183 ?_
                    obtain rfl := Option.some.inj h
                    exact g_iret rfl (Nat.le_refl _) rfl dX12_kindHere_187 ⟨rfl, rfl⟩
                · have h := g_ifn c174 h
                  refine g_aload_n dX12_kindHere_134 rfl ?_
                  refine g_ic3 dX12_kindHere_135 ?_
                  refine g_bipush (v := 116) dX12_kindHere_136 (by decide) ?_
                  refine g_bipush (v := 97) dX12_kindHere_138 (by decide) ?_
                  refine g_bipush (v := 98) dX12_kindHere_140 (by decide) ?_
                  obtain ⟨x178, q179, h⟩ := g_bind h
                  refine m_cV mt_X12_isSame ml_X12_180 mv_X12_isSame dX12_kindHere_142 (k_X12_isSame q179) rfl rfl rfl rfl (by decide) ⟨Nat.le_refl _, Nat.le_refl _⟩ (Nat.le_of_ble_eq_true rfl) ?_
                  refine g_if_eq 166 (by decide) dX12_kindHere_145 (fun c180 => ?_) (fun c180 => ?_)
                  · have h := g_ifp c180 h
                    refine g_aload_n dX12_kindHere_166 rfl ?_
                    refine g_ic4 dX12_kindHere_167 ?_
                    refine g_bipush (v := 114) dX12_kindHere_168 (by decide) ?_
                    refine g_bipush (v := 97) dX12_kindHere_170 (by decide) ?_
                    refine g_bipush (v := 107) dX12_kindHere_172 (by decide) ?_
                    refine g_bipush (v := 101) dX12_kindHere_174 (by decide) ?_
                    obtain ⟨x181, q182, h⟩ := g_bind h
                    refine m_cV mt_X12_isName ml_X12_176 mv_X12_isName dX12_kindHere_176 (k_X12_isName q182) rfl rfl rfl rfl (by decide) ⟨Nat.le_refl _, Nat.le_refl _⟩ (Nat.le_of_ble_eq_true rfl) ?_
                    refine g_if_eq 186 (by decide) dX12_kindHere_179 (fun c183 => ?_) (fun c183 => ?_)
                    · have h := g_ifp c183 h
                      refine g_icm1 dX12_kindHere_186 ?_
                      obtain rfl := Option.some.inj h
                      exact g_iret rfl (Nat.le_refl _) rfl dX12_kindHere_187 ⟨rfl, rfl⟩
                    · have h := g_ifn c183 h
                      refine g_ic5 dX12_kindHere_182 ?_
                      refine g_goto 187 (by decide) dX12_kindHere_183 ?_
                      obtain rfl := Option.some.inj h
                      exact g_iret rfl (Nat.le_refl _) rfl dX12_kindHere_187 ⟨rfl, rfl⟩
                  · have h := g_ifn c180 h
                    refine g_aload_n dX12_kindHere_148 rfl ?_
                    refine g_aload_n dX12_kindHere_149 rfl ?_
                    refine m_getI fl_X12_151 rfl rfl dX12_kindHere_150 ?_
                    refine g_bipush (v := 6) dX12_kindHere_153 (by decide) ?_
                    refine g_iadd dX12_kindHere_155 ?_
                    obtain ⟨x184, q185, h⟩ := g_bind h
                    refine m_cV mt_X12_byteAt ml_X12_154 mv_X12_byteAt dX12_kindHere_156 (k_X12_byteAt q185) rfl rfl rfl rfl (by decide) ⟨Nat.le_refl _, Nat.le_refl _⟩ (Nat.le_of_ble_eq_true rfl) ?_
                    refine g_bipush (v := 108) dX12_kindHere_159 (by decide) ?_
                    refine g_icmp_ne 166 (by decide) dX12_kindHere_161 (fun c186 => ?_) (fun c186 => ?_)
                    · have h := g_ifn c186 h
                      refine g_aload_n dX12_kindHere_166 rfl ?_
                      refine g_ic4 dX12_kindHere_167 ?_
                      refine g_bipush (v := 114) dX12_kindHere_168 (by decide) ?_
                      refine g_bipush (v := 97) dX12_kindHere_170 (by decide) ?_
                      refine g_bipush (v := 107) dX12_kindHere_172 (by decide) ?_
                      refine g_bipush (v := 101) dX12_kindHere_174 (by decide) ?_
                      obtain ⟨x187, q188, h⟩ := g_bind h
                      refine m_cV mt_X12_isName ml_X12_176 mv_X12_isName dX12_kindHere_176 (k_X12_isName q188) rfl rfl rfl rfl (by decide) ⟨Nat.le_refl _, Nat.le_refl _⟩ (Nat.le_of_ble_eq_true rfl) ?_
                      refine g_if_eq 186 (by decide) dX12_kindHere_179 (fun c189 => ?_) (fun c189 => ?_)
                      · have h := g_ifp c189 h
                        refine g_icm1 dX12_kindHere_186 ?_
                        obtain rfl := Option.some.inj h
                        exact g_iret rfl (Nat.le_refl _) rfl dX12_kindHere_187 ⟨rfl, rfl⟩
                      · have h := g_ifn c189 h
                        refine g_ic5 dX12_kindHere_182 ?_
                        refine g_goto 187 (by decide) dX12_kindHere_183 ?_
                        obtain rfl := Option.some.inj h
                        exact g_iret rfl (Nat.le_refl _) rfl dX12_kindHere_187 ⟨rfl, rfl⟩
                    · have h := g_ifp c186 h
                      refine g_ic4 dX12_kindHere_164 ?_
                      obtain rfl := Option.some.inj h
                      exact g_iret rfl (Nat.le_refl _) rfl dX12_kindHere_165 ⟨rfl, rfl⟩
              · have h := g_ifn c171 h
                refine g_ic3 dX12_kindHere_115 ?_
                obtain rfl := Option.some.inj h
                exact g_iret rfl (Nat.le_refl _) rfl dX12_kindHere_116 ⟨rfl, rfl⟩
          · have h := g_ifp c147 h
            refine g_ic2 dX12_kindHere_82 ?_
            obtain rfl := Option.some.inj h
            exact g_iret rfl (Nat.le_refl _) rfl dX12_kindHere_83 ⟨rfl, rfl⟩
      · have h := g_ifn c99 h
        refine g_ic1 dX12_kindHere_49 ?_
        obtain rfl := Option.some.inj h
        exact g_iret rfl (Nat.le_refl _) rfl dX12_kindHere_50 ⟨rfl, rfl⟩
  · have h := g_ifn c3 h
    refine g_ic0 dX12_kindHere_16 ?_
    obtain rfl := Option.some.inj h
    exact g_iret rfl (Nat.le_refl _) rfl dX12_kindHere_17 ⟨rfl, rfl⟩
