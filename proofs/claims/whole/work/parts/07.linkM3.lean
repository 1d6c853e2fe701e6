set_option maxRecDepth 100000 in
set_option maxHeartbeats 4000000 in
theorem k_X12_span {D : va_G} {cA : Nat → ClassId} {b k : Nat} {N : Nat} {a1 : Int32} {μ : g_M} {z : Int32 × g_M} (h : f_X12_span N a1 μ = some z) : g_K (g_XM D cA b) yX12_span Y_X12_span 5 0 0 k [.ref 0, .int a1] (μ, g_rfM) (fun r1 σ1 => r1 = some (.int z.1) ∧ σ1 = (z.2, g_rfM)) := by
  unfold f_X12_span at h
  refine g_met 0 (by decide) rfl rfl (Nat.le_of_ble_eq_true rfl) ?_
  refine g_iload_n dX12_span_0 rfl ?_
  refine g_i2l dX12_span_1 ?_
  refine g_lc0 dX12_span_2 ?_
  refine g_ldc2 kc_X12_88 dX12_span_3 ?_
  refine m_cS mt_X12_isIn ml_X12_66 ms_X12_isIn dX12_span_6 (k_X12_isIn rfl) rfl rfl (by decide) ⟨Nat.le_refl _, Nat.le_refl _⟩ (Nat.le_of_ble_eq_true rfl) ?_
  refine g_if_ne 14 (by decide) dX12_span_9 (fun c1 => ?_) (fun c1 => ?_)
  · have h := g_ifn c1 h
    refine g_aload_n dX12_span_14 rfl ?_
    refine g_icm1 dX12_span_15 ?_
    obtain ⟨μ4, q3, h⟩ := g_bind h
    refine m_cVv mt_X12_findsFits ml_X12_325 mv_X12_findsFits dX12_span_16 (k_X12_findsFits q3) rfl rfl rfl rfl (by decide) ⟨Nat.le_refl _, Nat.le_refl _⟩ (Nat.le_of_ble_eq_true rfl) ?_
    refine g_iload_n dX12_span_19 rfl ?_
    refine g_if_ne 30 (by decide) dX12_span_20 (fun c5 => ?_) (fun c5 => ?_)
    · have h := g_ifn c5 h
      refine g_aload_n dX12_span_30 rfl ?_
      refine m_getI fl_X12_315 rfl rfl dX12_span_31 ?_
      refine g_if_ne 42 (by decide) dX12_span_34 (fun c6 => ?_) (fun c6 => ?_)
      · have h := g_ifn c6 h
        refine g_iload_n dX12_span_42 rfl ?_
        refine g_ic1 dX12_span_43 ?_
        refine g_icmp_ne 57 (by decide) dX12_span_44 (fun c7 => ?_) (fun c7 => ?_)
        · have h := g_ifn c7 h
          refine g_aload_n dX12_span_57 rfl ?_
          refine m_getI fl_X12_318 rfl rfl dX12_span_58 ?_
          refine g_bipush (v := 10) dX12_span_61 (by decide) ?_
          refine g_irem dX12_span_63 (by decide) ?_
          obtain rfl := Option.some.inj h
          exact g_iret rfl (Nat.le_refl _) rfl dX12_span_64 ⟨rfl, rfl⟩
        · have h := g_ifp c7 h
          refine g_aload_n dX12_span_47 rfl ?_
          refine m_getI fl_X12_318 rfl rfl dX12_span_48 ?_
          refine g_bipush (v := 10) dX12_span_51 (by decide) ?_
          refine g_idiv dX12_span_53 (by decide) ?_
          refine g_goto 64 (by decide) dX12_span_54 ?_
          obtain rfl := Option.some.inj h
          exact g_iret rfl (Nat.le_refl _) rfl dX12_span_64 ⟨rfl, rfl⟩
      · have h := g_ifp c6 h
        refine g_bipush (v := (-3)) dX12_span_37 (by decide) ?_
        refine g_goto 64 (by decide) dX12_span_39 ?_
        obtain rfl := Option.some.inj h
        exact g_iret rfl (Nat.le_refl _) rfl dX12_span_64 ⟨rfl, rfl⟩
    · have h := g_ifp c5 h
      refine g_aload_n dX12_span_23 rfl ?_
      refine m_getI fl_X12_315 rfl rfl dX12_span_24 ?_
      refine g_goto 64 (by decide) dX12_span_27 ?_
      obtain rfl := Option.some.inj h
      exact g_iret rfl (Nat.le_refl _) rfl dX12_span_64 ⟨rfl, rfl⟩
  · have h := g_ifp c1 h
    refine g_icm1 dX12_span_12 ?_
    obtain rfl := Option.some.inj h
    exact g_iret rfl (Nat.le_refl _) rfl dX12_span_13 ⟨rfl, rfl⟩
set_option maxRecDepth 100000 in
set_option maxHeartbeats 4000000 in
theorem k_X12_liar_L23 {D : va_G} {cA : Nat → ClassId} {b k : Nat} {Q : Option Value → g_S → Prop} {N : Nat} : ∀ (n : Nat) (x_1 : Int32) (x_2 : Int32) (x_3 : Int32) (μ : g_M) (z_1 : Int32) (z_μ : g_M), f_X12_liar_L23 N n x_1 x_2 x_3 μ = some (z_1, z_μ) → g_V (g_XM D cA b) Y_X12_liar 5 0 0 Q k 0 0 67 [none, some (.int z_1), none, none] [] (z_μ, g_rfM) → g_V (g_XM D cA b) Y_X12_liar 5 0 0 Q k 0 0 23 [some (.ref 0), some (.int x_1), some (.int x_2), some (.int x_3)] [] (μ, g_rfM) := by
  intro n
  induction n with
  | zero =>
    intro x_1 x_2 x_3 μ z_1 z_μ h
    rw [f_X12_liar_L23] at h
    cases h
  | succ n ih =>
    intro x_1 x_2 x_3 μ z_1 z_μ h hc
    rw [f_X12_liar_L23] at h
    refine g_iload_n dX12_liar_23 rfl ?_
    refine g_aload_n dX12_liar_24 rfl ?_
    refine m_getR fl_X12_7 rfl rfl rfl dX12_liar_25 ?_
    refine g_bipush (v := 6) dX12_liar_28 (by decide) ?_
    refine m_ialdc 6 rfl rfl (by decide) (by decide) dX12_liar_30 ?_
    refine g_icmp_ge 67 (by decide) dX12_liar_31 (fun c5 => ?_) (fun c5 => ?_)
    · have h := g_ifp c5 h
      obtain ⟨rfl, rfl⟩ := g_inj2 h
      exact g_less _ (g_subN (g_subS (g_subN (g_subN g_sub0)))) hc
    · have h := g_ifn c5 h
      refine g_iload_n dX12_liar_34 rfl ?_
      refine g_if_eq 67 (by decide) dX12_liar_35 (fun c6 => ?_) (fun c6 => ?_)
      · have h := g_ifp c6 h
        obtain ⟨rfl, rfl⟩ := g_inj2 h
        exact g_less _ (g_subN (g_subS (g_subN (g_subN g_sub0)))) hc
      · have h := g_ifn c6 h
        refine g_iload_n dX12_liar_38 rfl ?_
        refine g_if_ge 67 (by decide) dX12_liar_39 (fun c7 => ?_) (fun c7 => ?_)
        · have h := g_ifp c7 h
          obtain ⟨rfl, rfl⟩ := g_inj2 h
          exact g_less _ (g_subN (g_subS (g_subN (g_subN g_sub0)))) hc
        · have h := g_ifn c7 h
          refine g_aload_n dX12_liar_42 rfl ?_
          refine g_iload_n dX12_liar_43 rfl ?_
          obtain ⟨μ10, q9, h⟩ := g_bind h
          refine m_cVv mt_X12_findsFits ml_X12_325 mv_X12_findsFits dX12_liar_44 (k_X12_findsFits q9) rfl rfl rfl rfl (by decide) ⟨Nat.le_refl _, Nat.le_refl _⟩ (Nat.le_of_ble_eq_true rfl) ?_
          refine g_aload_n dX12_liar_47 rfl ?_
          refine m_getI fl_X12_315 rfl rfl dX12_liar_48 ?_
          refine g_if_le 58 (by decide) dX12_liar_51 (fun c11 => ?_) (fun c11 => ?_)
          · have h := g_ifp c11 h
            refine g_bipush (v := (-3)) dX12_liar_58 (by decide) ?_
            refine g_istore_1 rfl (Nat.le_of_ble_eq_true rfl) dX12_liar_60 ?_
            refine g_iinc_3 (v := 1) rfl (by decide) (Nat.le_of_ble_eq_true rfl) dX12_liar_61 ?_
            refine g_goto 23 (by decide) dX12_liar_64 ?_
            exact g_less _ (g_subS (g_subS (g_subS (g_subS g_sub0)))) (ih _ _ _ _ _ _ h hc)
          · have h := g_ifn c11 h
            refine g_iload_n dX12_liar_54 rfl ?_
            refine g_goto 60 (by decide) dX12_liar_55 ?_
            refine g_istore_1 rfl (Nat.le_of_ble_eq_true rfl) dX12_liar_60 ?_
            refine g_iinc_3 (v := 1) rfl (by decide) (Nat.le_of_ble_eq_true rfl) dX12_liar_61 ?_
            refine g_goto 23 (by decide) dX12_liar_64 ?_
            exact g_less _ (g_subS (g_subS (g_subS (g_subS g_sub0)))) (ih _ _ _ _ _ _ h hc)
set_option maxRecDepth 100000 in
set_option maxHeartbeats 4000000 in
theorem k_X12_liar {D : va_G} {cA : Nat → ClassId} {b k : Nat} {N : Nat} {μ : g_M} {z : Int32 × g_M} (h : f_X12_liar N μ = some z) : g_K (g_XM D cA b) yX12_liar Y_X12_liar 5 0 0 k [.ref 0] (μ, g_rfM) (fun r1 σ1 => r1 = some (.int z.1) ∧ σ1 = (z.2, g_rfM)) := by
  unfold f_X12_liar at h
  refine g_met 3 (by decide) rfl rfl (Nat.le_of_ble_eq_true rfl) ?_
  refine g_aload_n dX12_liar_0 rfl ?_
  refine g_icm1 dX12_liar_1 ?_
  obtain ⟨μ3, q2, h⟩ := g_bind h
  refine m_cVv mt_X12_findsFits ml_X12_325 mv_X12_findsFits dX12_liar_2 (k_X12_findsFits q2) rfl rfl rfl rfl (by decide) ⟨Nat.le_refl _, Nat.le_refl _⟩ (Nat.le_of_ble_eq_true rfl) ?_
  refine g_bipush (v := (-3)) dX12_liar_5 (by decide) ?_
  refine g_istore_1 rfl (Nat.le_of_ble_eq_true rfl) dX12_liar_7 ?_
  refine g_aload_n dX12_liar_8 rfl ?_
  refine m_getI fl_X12_315 rfl rfl dX12_liar_9 ?_
  refine g_if_ne 19 (by decide) dX12_liar_12 (fun c4 => ?_) (fun c4 => ?_)
  · have h := g_ifn c4 h
    refine g_ic0 dX12_liar_19 ?_
    refine g_istore_2 rfl (Nat.le_of_ble_eq_true rfl) dX12_liar_20 ?_
    refine g_ic0 dX12_liar_21 ?_
    refine g_istore_3 rfl (Nat.le_of_ble_eq_true rfl) dX12_liar_22 ?_
    obtain ⟨⟨x5, μ6⟩, q7, h⟩ := g_bind h
    refine g_less _ (g_subS (g_subS (g_subS (g_subS g_sub0)))) (k_X12_liar_L23 _ _ _ _ _ _ _ q7 ?_)
    refine g_iload_n dX12_liar_67 rfl ?_
    obtain rfl := Option.some.inj h
    exact g_iret rfl (Nat.le_refl _) rfl dX12_liar_68 ⟨rfl, rfl⟩
  · have h := g_ifp c4 h
    refine g_ic1 dX12_liar_15 ?_
    refine g_goto 20 (by decide) dX12_liar_16 ?_
    refine g_istore_2 rfl (Nat.le_of_ble_eq_true rfl) dX12_liar_20 ?_
    refine g_ic0 dX12_liar_21 ?_
    refine g_istore_3 rfl (Nat.le_of_ble_eq_true rfl) dX12_liar_22 ?_
    obtain ⟨⟨x8, μ9⟩, q10, h⟩ := g_bind h
    refine g_less _ (g_subS (g_subS (g_subS (g_subS g_sub0)))) (k_X12_liar_L23 _ _ _ _ _ _ _ q10 ?_)
    refine g_iload_n dX12_liar_67 rfl ?_
    obtain rfl := Option.some.inj h
    exact g_iret rfl (Nat.le_refl _) rfl dX12_liar_68 ⟨rfl, rfl⟩
set_option maxRecDepth 100000 in
set_option maxHeartbeats 4000000 in
theorem k_X12_seed {D : va_G} {cA : Nat → ClassId} {b k : Nat} {a1 : Int32} {μ : g_M} {z : Int32 × g_M} (h : f_X12_seed a1 μ = some z) : g_K (g_XM D cA b) yX12_seed Y_X12_seed 2 0 0 k [.ref 0, .int a1] (μ, g_rfM) (fun r1 σ1 => r1 = some (.int z.1) ∧ σ1 = (z.2, g_rfM)) := by
  unfold f_X12_seed at h
  refine g_met 0 (by decide) rfl rfl (Nat.le_of_ble_eq_true rfl) ?_
  refine g_aload_n dX12_seed_0 rfl ?_
  refine g_ic4 dX12_seed_1 ?_
  refine g_iload_n dX12_seed_2 rfl ?_
  obtain ⟨⟨x1, μ3⟩, q2, h⟩ := g_bind h
  refine m_cV mt_X12_becomes ml_X12_128 mv_X12_becomes dX12_seed_3 (k_X12_becomes q2) rfl rfl rfl rfl (by decide) ⟨Nat.le_refl _, Nat.le_refl _⟩ (Nat.le_of_ble_eq_true rfl) ?_
  obtain rfl := Option.some.inj h
  exact g_iret rfl (Nat.le_refl _) rfl dX12_seed_6 ⟨rfl, rfl⟩
set_option maxRecDepth 100000 in
set_option maxHeartbeats 4000000 in
theorem k_X12_goesByLot {D : va_G} {cA : Nat → ClassId} {b k : Nat} {N : Nat} {μ : g_M} {z : Int32 × g_M} (h : f_X12_goesByLot N μ = some z) : g_K (g_XM D cA b) yX12_goesByLot Y_X12_goesByLot 8 0 0 k [.ref 0] (μ, g_rfM) (fun r1 σ1 => r1 = some (.int z.1) ∧ σ1 = (z.2, g_rfM)) := by
  unfold f_X12_goesByLot at h
  refine g_met 0 (by decide) rfl rfl (Nat.le_of_ble_eq_true rfl) ?_
  refine g_aload_n dX12_goesByLot_0 rfl ?_
  refine m_getR fl_X12_7 rfl rfl rfl dX12_goesByLot_1 ?_
  refine g_ic4 dX12_goesByLot_4 ?_
  refine g_aload_n dX12_goesByLot_5 rfl ?_
  refine m_getR fl_X12_7 rfl rfl rfl dX12_goesByLot_6 ?_
  refine g_ic4 dX12_goesByLot_9 ?_
  refine m_ialdc 4 rfl rfl (by decide) (by decide) dX12_goesByLot_10 ?_
  refine g_ldcw kc_X12_328 dX12_goesByLot_11 ?_
  refine g_imul dX12_goesByLot_14 ?_
  refine g_sipush (v := 12345) dX12_goesByLot_15 (by decide) ?_
  refine g_iadd dX12_goesByLot_18 ?_
  obtain ⟨μ1, eμ1, h⟩ := g_let h
  refine m_iastc 4 rfl rfl (by decide) (by decide) dX12_goesByLot_19 eμ1 ?_
  refine g_aload_n dX12_goesByLot_20 rfl ?_
  refine g_aload_n dX12_goesByLot_21 rfl ?_
  refine m_getR fl_X12_7 rfl rfl rfl dX12_goesByLot_22 ?_
  refine g_ic4 dX12_goesByLot_25 ?_
  refine m_ialdc 4 rfl rfl (by decide) (by decide) dX12_goesByLot_26 ?_
  refine g_bipush (v := 16) dX12_goesByLot_27 (by decide) ?_
  refine g_iushr dX12_goesByLot_29 ?_
  refine g_aload_n dX12_goesByLot_30 rfl ?_
  refine m_getR fl_X12_7 rfl rfl rfl dX12_goesByLot_31 ?_
  refine g_ic0 dX12_goesByLot_34 ?_
  refine m_ialdc 0 rfl rfl (by decide) (by decide) dX12_goesByLot_35 ?_
  refine g_ic1 dX12_goesByLot_36 ?_
  refine g_iadd dX12_goesByLot_37 ?_
  obtain ⟨x2, qx2, h⟩ := g_bind h
  refine m_irem dX12_goesByLot_38 qx2 ?_
  obtain ⟨⟨x3, μ5⟩, q4, h⟩ := g_bind h
  refine m_cV mt_X12_goesWith ml_X12_287 mv_X12_goesWith dX12_goesByLot_39 (k_X12_goesWith q4) rfl rfl rfl rfl (by decide) ⟨Nat.le_refl _, Nat.le_refl _⟩ (Nat.le_of_ble_eq_true rfl) ?_
  obtain rfl := Option.some.inj h
  exact g_iret rfl (Nat.le_refl _) rfl dX12_goesByLot_42 ⟨rfl, rfl⟩
set_option maxRecDepth 100000 in
set_option maxHeartbeats 4000000 in
theorem k_X12_lot {D : va_G} {cA : Nat → ClassId} {b k : Nat} {N : Nat} {μ : g_M} {z : Int32 × g_M} (h : f_X12_lot N μ = some z) : g_K (g_XM D cA b) yX12_lot Y_X12_lot 9 0 0 k [.ref 0] (μ, g_rfM) (fun r1 σ1 => r1 = some (.int z.1) ∧ σ1 = (z.2, g_rfM)) := by
  unfold f_X12_lot at h
  refine g_met 0 (by decide) rfl rfl (Nat.le_of_ble_eq_true rfl) ?_
  refine g_aload_n dX12_lot_0 rfl ?_
  refine m_cV mt_X12_isOver ml_X12_133 mv_X12_isOver dX12_lot_1 (k_X12_isOver rfl) rfl rfl rfl rfl (by decide) ⟨Nat.le_refl _, Nat.le_refl _⟩ (Nat.le_of_ble_eq_true rfl) ?_
  refine g_if_eq 12 (by decide) dX12_lot_4 (fun c1 => ?_) (fun c1 => ?_)
  · have h := g_ifp c1 h
    refine g_aload_n dX12_lot_12 rfl ?_
    obtain ⟨⟨x2, μ4⟩, q3, h⟩ := g_bind h
    refine m_cV mt_X12_goesByLot ml_X12_329 mv_X12_goesByLot dX12_lot_13 (k_X12_goesByLot q3) rfl rfl rfl rfl (by decide) ⟨Nat.le_refl _, Nat.le_refl _⟩ (Nat.le_of_ble_eq_true rfl) ?_
    obtain rfl := Option.some.inj h
    exact g_iret rfl (Nat.le_refl _) rfl dX12_lot_16 ⟨rfl, rfl⟩
  · have h := g_ifn c1 h
    refine g_bipush (v := (-4)) dX12_lot_7 (by decide) ?_
    refine g_goto 16 (by decide) dX12_lot_9 ?_
    obtain rfl := Option.some.inj h
    exact g_iret rfl (Nat.le_refl _) rfl dX12_lot_16 ⟨rfl, rfl⟩
set_option maxRecDepth 100000 in
set_option maxHeartbeats 4000000 in
theorem k_X12_times_L80 {D : va_G} {cA : Nat → ClassId} {b k : Nat} {Q : Option Value → g_S → Prop} {N : Nat} : ∀ (n : Nat) (x_1 : Int32) (x_2 : Int32) (x_3 : Int32) (x_4 : Int32) (x_6 : Int32) (μ : g_M) (z_6 : Int32) (z_μ : g_M), f_X12_times_L80 N n x_1 x_2 x_3 x_4 x_6 μ = some (z_6, z_μ) → g_V (g_XM D cA b) Y_X12_times 9 0 0 Q k 0 0 99 [some (.ref 0), some (.int x_1), some (.int x_2), some (.int x_3), some (.int x_4), none, some (.int z_6)] [] (z_μ, g_rfM) → g_V (g_XM D cA b) Y_X12_times 9 0 0 Q k 0 0 80 [some (.ref 0), some (.int x_1), some (.int x_2), some (.int x_3), some (.int x_4), none, some (.int x_6)] [] (μ, g_rfM) := by
  intro n
  induction n with
  | zero =>
    intro x_1 x_2 x_3 x_4 x_6 μ z_6 z_μ h
    rw [f_X12_times_L80] at h
    cases h
  | succ n ih =>
    intro x_1 x_2 x_3 x_4 x_6 μ z_6 z_μ h hc
    rw [f_X12_times_L80] at h
    refine g_aload_n dX12_times_80 rfl ?_
    refine m_cV mt_X12_isOver ml_X12_133 mv_X12_isOver dX12_times_81 (k_X12_isOver rfl) rfl rfl rfl rfl (by decide) ⟨Nat.le_refl _, Nat.le_refl _⟩ (Nat.le_of_ble_eq_true rfl) ?_
    refine g_if_ne 99 (by decide) dX12_times_84 (fun c12 => ?_) (fun c12 => ?_)
    · have h := g_ifn c12 h
      obtain ⟨rfl, rfl⟩ := g_inj2 h
      exact g_less _ (g_subS (g_subS (g_subS (g_subS (g_subS (g_subN (g_subS g_sub0))))))) hc
    · have h := g_ifp c12 h
      refine g_iload dX12_times_87 rfl ?_
      refine g_aload_n dX12_times_89 rfl ?_
      obtain ⟨⟨x13, μ15⟩, q14, h⟩ := g_bind h
      refine m_cV mt_X12_goesByLot ml_X12_329 mv_X12_goesByLot dX12_times_90 (k_X12_goesByLot q14) rfl rfl rfl rfl (by decide) ⟨Nat.le_refl _, Nat.le_refl _⟩ (Nat.le_of_ble_eq_true rfl) ?_
      refine g_iadd dX12_times_93 ?_
      obtain ⟨x16, ex16, h⟩ := g_let h
      refine g_top ex16 ?_
      refine g_istore_6 rfl (Nat.le_of_ble_eq_true rfl) dX12_times_94 ?_
      refine g_goto 80 (by decide) dX12_times_96 ?_
      exact g_less _ (g_subS (g_subS (g_subS (g_subS (g_subS (g_subN (g_subS g_sub0))))))) (ih _ _ _ _ _ _ _ _ h hc)
set_option maxRecDepth 100000 in
set_option maxHeartbeats 4000000 in
theorem k_X12_times_L36 {D : va_G} {cA : Nat → ClassId} {b k : Nat} {Q : Option Value → g_S → Prop} {N : Nat} : ∀ (n : Nat) (x_1 : Int32) (x_2 : Int32) (x_3 : Int32) (x_4 : Int32) (μ : g_M) (z_3 : Int32) (z_μ : g_M), f_X12_times_L36 N n x_1 x_2 x_3 x_4 μ = some (z_3, z_μ) → g_V (g_XM D cA b) Y_X12_times 9 0 0 Q k 0 0 119 [some (.ref 0), none, none, some (.int z_3), none, none, none] [] (z_μ, g_rfM) → g_V (g_XM D cA b) Y_X12_times 9 0 0 Q k 0 0 36 [some (.ref 0), some (.int x_1), some (.int x_2), some (.int x_3), some (.int x_4), none, none] [] (μ, g_rfM) := by
  intro n
  induction n with
  | zero =>
    intro x_1 x_2 x_3 x_4 μ z_3 z_μ h
    rw [f_X12_times_L36] at h
    cases h
  | succ n ih =>
    intro x_1 x_2 x_3 x_4 μ z_3 z_μ h hc
    rw [f_X12_times_L36] at h
    refine g_iload dX12_times_36 rfl ?_
    refine g_iload_n dX12_times_38 rfl ?_
    refine g_icmp_ge 119 (by decide) dX12_times_39 (fun c6 => ?_) (fun c6 => ?_)
    · have h := g_ifp c6 h
      obtain ⟨rfl, rfl⟩ := g_inj2 h
      exact g_less _ (g_subS (g_subN (g_subN (g_subS (g_subN (g_subN (g_subN g_sub0))))))) hc
    · have h := g_ifn c6 h
      refine g_aload_n dX12_times_42 rfl ?_
      refine m_getR fl_X12_7 rfl rfl rfl dX12_times_43 ?_
      refine g_ic4 dX12_times_46 ?_
      refine m_ialdc 4 rfl rfl (by decide) (by decide) dX12_times_47 ?_
      refine g_istore_5 rfl (Nat.le_of_ble_eq_true rfl) dX12_times_48 ?_
      refine g_aload_n dX12_times_50 rfl ?_
      refine g_ic0 dX12_times_51 ?_
      obtain ⟨μ9, q8, h⟩ := g_bind h
      refine m_cVv mt_X12_laysBack ml_X12_237 mv_X12_laysBack dX12_times_52 (k_X12_laysBack q8) rfl rfl rfl rfl (by decide) ⟨Nat.le_refl _, Nat.le_refl _⟩ (Nat.le_of_ble_eq_true rfl) ?_
      refine g_aload_n dX12_times_55 rfl ?_
      refine m_getR fl_X12_7 rfl rfl rfl dX12_times_56 ?_
      refine g_ic4 dX12_times_59 ?_
      refine g_iload dX12_times_60 rfl ?_
      refine g_if_ne 74 (by decide) dX12_times_62 (fun c10 => ?_) (fun c10 => ?_)
      · have h := g_ifn c10 h
        refine g_iload dX12_times_74 rfl ?_
        obtain ⟨μ11, eμ11, h⟩ := g_let h
        refine m_iastc 4 rfl rfl (by decide) (by decide) dX12_times_76 eμ11 ?_
        refine g_ic0 dX12_times_77 ?_
        refine g_istore_6 rfl (Nat.le_of_ble_eq_true rfl) dX12_times_78 ?_
        obtain ⟨⟨x12, μ13⟩, q14, h⟩ := g_bind h
        refine g_less _ (g_subS (g_subS (g_subS (g_subS (g_subS (g_subN (g_subS g_sub0))))))) (k_X12_times_L80 _ _ _ _ _ _ _ _ _ q14 ?_)
        refine g_iload_n dX12_times_99 rfl ?_
        refine g_iload dX12_times_100 rfl ?_
        refine g_iload_n dX12_times_102 rfl ?_
        refine g_icmp_lt 110 (by decide) dX12_times_103 (fun c15 => ?_) (fun c15 => ?_)
        · have h := g_ifp c15 h
          refine g_ic0 dX12_times_110 ?_
          refine g_iadd dX12_times_111 ?_
          obtain ⟨x16, ex16, h⟩ := g_let h
          refine g_top ex16 ?_
          refine g_istore_3 rfl (Nat.le_of_ble_eq_true rfl) dX12_times_112 ?_
          refine g_iinc_4 (v := 1) rfl (by decide) (Nat.le_of_ble_eq_true rfl) dX12_times_113 ?_
          refine g_goto 36 (by decide) dX12_times_116 ?_
          exact g_less _ (g_subS (g_subS (g_subS (g_subS (g_subS (g_subN (g_subN g_sub0))))))) (ih _ _ _ _ _ _ _ h hc)
        · have h := g_ifn c15 h
          refine g_ic1 dX12_times_106 ?_
          refine g_goto 111 (by decide) dX12_times_107 ?_
          refine g_iadd dX12_times_111 ?_
          obtain ⟨x17, ex17, h⟩ := g_let h
          refine g_top ex17 ?_
          refine g_istore_3 rfl (Nat.le_of_ble_eq_true rfl) dX12_times_112 ?_
          refine g_iinc_4 (v := 1) rfl (by decide) (Nat.le_of_ble_eq_true rfl) dX12_times_113 ?_
          refine g_goto 36 (by decide) dX12_times_116 ?_
          exact g_less _ (g_subS (g_subS (g_subS (g_subS (g_subS (g_subN (g_subN g_sub0))))))) (ih _ _ _ _ _ _ _ h hc)
      · have h := g_ifp c10 h
        refine g_aload_n dX12_times_65 rfl ?_
        refine m_getR fl_X12_7 rfl rfl rfl dX12_times_66 ?_
        refine g_ic4 dX12_times_69 ?_
        refine m_ialdc 4 rfl rfl (by decide) (by decide) dX12_times_70 ?_
        refine g_goto 76 (by decide) dX12_times_71 ?_
        obtain ⟨μ18, eμ18, h⟩ := g_let h
        refine m_iastc 4 rfl rfl (by decide) (by decide) dX12_times_76 eμ18 ?_
        refine g_ic0 dX12_times_77 ?_
        refine g_istore_6 rfl (Nat.le_of_ble_eq_true rfl) dX12_times_78 ?_
        obtain ⟨⟨x19, μ20⟩, q21, h⟩ := g_bind h
        refine g_less _ (g_subS (g_subS (g_subS (g_subS (g_subS (g_subN (g_subS g_sub0))))))) (k_X12_times_L80 _ _ _ _ _ _ _ _ _ q21 ?_)
        refine g_iload_n dX12_times_99 rfl ?_
        refine g_iload dX12_times_100 rfl ?_
        refine g_iload_n dX12_times_102 rfl ?_
        refine g_icmp_lt 110 (by decide) dX12_times_103 (fun c22 => ?_) (fun c22 => ?_)
        · have h := g_ifp c22 h
          refine g_ic0 dX12_times_110 ?_
          refine g_iadd dX12_times_111 ?_
          obtain ⟨x23, ex23, h⟩ := g_let h
          refine g_top ex23 ?_
          refine g_istore_3 rfl (Nat.le_of_ble_eq_true rfl) dX12_times_112 ?_
          refine g_iinc_4 (v := 1) rfl (by decide) (Nat.le_of_ble_eq_true rfl) dX12_times_113 ?_
          refine g_goto 36 (by decide) dX12_times_116 ?_
          exact g_less _ (g_subS (g_subS (g_subS (g_subS (g_subS (g_subN (g_subN g_sub0))))))) (ih _ _ _ _ _ _ _ h hc)
        · have h := g_ifn c22 h
          refine g_ic1 dX12_times_106 ?_
          refine g_goto 111 (by decide) dX12_times_107 ?_
          refine g_iadd dX12_times_111 ?_
          obtain ⟨x24, ex24, h⟩ := g_let h
          refine g_top ex24 ?_
          refine g_istore_3 rfl (Nat.le_of_ble_eq_true rfl) dX12_times_112 ?_
          refine g_iinc_4 (v := 1) rfl (by decide) (Nat.le_of_ble_eq_true rfl) dX12_times_113 ?_
          refine g_goto 36 (by decide) dX12_times_116 ?_
          exact g_less _ (g_subS (g_subS (g_subS (g_subS (g_subS (g_subN (g_subN g_sub0))))))) (ih _ _ _ _ _ _ _ h hc)
set_option maxRecDepth 100000 in
set_option maxHeartbeats 4000000 in
theorem k_X12_times {D : va_G} {cA : Nat → ClassId} {b k : Nat} {N : Nat} {a1 : Int32} {a2 : Int32} {μ : g_M} {z : Int32 × g_M} (h : f_X12_times N a1 a2 μ = some z) : g_K (g_XM D cA b) yX12_times Y_X12_times 9 0 0 k [.ref 0, .int a1, .int a2] (μ, g_rfM) (fun r1 σ1 => r1 = some (.int z.1) ∧ σ1 = (z.2, g_rfM)) := by
  unfold f_X12_times at h
  refine g_met 4 (by decide) rfl rfl (Nat.le_of_ble_eq_true rfl) ?_
  refine g_iload_n dX12_times_0 rfl ?_
  refine g_i2l dX12_times_1 ?_
  refine g_lc1 dX12_times_2 ?_
  refine g_ldc2 kc_X12_332 dX12_times_3 ?_
  refine m_cS mt_X12_isIn ml_X12_66 ms_X12_isIn dX12_times_6 (k_X12_isIn rfl) rfl rfl (by decide) ⟨Nat.le_refl _, Nat.le_refl _⟩ (Nat.le_of_ble_eq_true rfl) ?_
  refine g_if_eq 24 (by decide) dX12_times_9 (fun c1 => ?_) (fun c1 => ?_)
  · have h := g_ifp c1 h
    refine g_icm1 dX12_times_24 ?_
    obtain rfl := Option.some.inj h
    exact g_iret rfl (Nat.le_refl _) rfl dX12_times_25 ⟨rfl, rfl⟩
  · have h := g_ifn c1 h
    refine g_iload_n dX12_times_12 rfl ?_
    refine g_i2l dX12_times_13 ?_
    refine g_lc0 dX12_times_14 ?_
    refine g_ldc2 kc_X12_334 dX12_times_15 ?_
    refine m_cS mt_X12_isIn ml_X12_66 ms_X12_isIn dX12_times_18 (k_X12_isIn rfl) rfl rfl (by decide) ⟨Nat.le_refl _, Nat.le_refl _⟩ (Nat.le_of_ble_eq_true rfl) ?_
    refine g_if_ne 26 (by decide) dX12_times_21 (fun c2 => ?_) (fun c2 => ?_)
    · have h := g_ifn c2 h
      refine g_aload_n dX12_times_26 rfl ?_
      refine g_ic0 dX12_times_27 ?_
      obtain ⟨μ5, q4, h⟩ := g_bind h
      refine m_cVv mt_X12_laysAside ml_X12_234 mv_X12_laysAside dX12_times_28 (k_X12_laysAside q4) rfl rfl rfl rfl (by decide) ⟨Nat.le_refl _, Nat.le_refl _⟩ (Nat.le_of_ble_eq_true rfl) ?_
      refine g_ic0 dX12_times_31 ?_
      refine g_istore_3 rfl (Nat.le_of_ble_eq_true rfl) dX12_times_32 ?_
      refine g_ic0 dX12_times_33 ?_
      refine g_istore_4 rfl (Nat.le_of_ble_eq_true rfl) dX12_times_34 ?_
      obtain ⟨⟨x6, μ7⟩, q8, h⟩ := g_bind h
      refine g_less _ (g_subS (g_subS (g_subS (g_subS (g_subS (g_subN (g_subN g_sub0))))))) (k_X12_times_L36 _ _ _ _ _ _ _ _ q8 ?_)
      refine g_aload_n dX12_times_119 rfl ?_
      refine g_ic0 dX12_times_120 ?_
      obtain ⟨μ11, q10, h⟩ := g_bind h
      refine m_cVv mt_X12_laysBack ml_X12_237 mv_X12_laysBack dX12_times_121 (k_X12_laysBack q10) rfl rfl rfl rfl (by decide) ⟨Nat.le_refl _, Nat.le_refl _⟩ (Nat.le_of_ble_eq_true rfl) ?_
      refine g_iload_n dX12_times_124 rfl ?_
      obtain rfl := Option.some.inj h
      exact g_iret rfl (Nat.le_refl _) rfl dX12_times_125 ⟨rfl, rfl⟩
    · have h := g_ifp c2 h
      refine g_icm1 dX12_times_24 ?_
      obtain rfl := Option.some.inj h
      exact g_iret rfl (Nat.le_refl _) rfl dX12_times_25 ⟨rfl, rfl⟩
set_option maxRecDepth 100000 in
set_option maxHeartbeats 4000000 in
theorem k_X12_prove_L22 {D : va_G} {cA : Nat → ClassId} {b k : Nat} {Q : Option Value → g_S → Prop} {N : Nat} : ∀ (n : Nat) (x_2 : Int32) (μ : g_M) (z_μ : g_M), f_X12_prove_L22 N n x_2 μ = some z_μ → g_V (g_XM D cA b) Y_X12_prove 50 0 0 Q k 0 0 84 [some (.ref 0), none, none] [] (z_μ, g_rfM) → g_V (g_XM D cA b) Y_X12_prove 50 0 0 Q k 0 0 22 [some (.ref 0), none, some (.int x_2)] [] (μ, g_rfM) := by
  intro n
  induction n with
  | zero =>
    intro x_2 μ z_μ h
    rw [f_X12_prove_L22] at h
    cases h
  | succ n ih =>
    intro x_2 μ z_μ h hc
    rw [f_X12_prove_L22] at h
    refine g_iload_n dX12_prove_22 rfl ?_
    refine g_aload_n dX12_prove_23 rfl ?_
    refine m_getI fl_X12_275 rfl rfl dX12_prove_24 ?_
    refine g_icmp_ge 84 (by decide) dX12_prove_27 (fun c8 => ?_) (fun c8 => ?_)
    · have h := g_ifp c8 h
      obtain rfl := Option.some.inj h
      exact g_less _ (g_subS (g_subN (g_subN g_sub0))) hc
    · have h := g_ifn c8 h
      refine g_aload_n dX12_prove_30 rfl ?_
      refine m_getR fl_X12_40 rfl rfl rfl dX12_prove_31 ?_
      refine g_ic3 dX12_prove_34 ?_
      refine g_iload_n dX12_prove_35 rfl ?_
      refine g_imul dX12_prove_36 ?_
      refine g_aload_n dX12_prove_37 rfl ?_
      refine m_getR fl_X12_37 rfl rfl rfl dX12_prove_38 ?_
      refine g_iload_n dX12_prove_41 rfl ?_
      obtain ⟨x9, qx9, h⟩ := g_bind h
      refine m_iald rfl qx9 dX12_prove_42 ?_
      obtain ⟨μ10, qμ10, h⟩ := g_bind h
      refine m_iast rfl qμ10 dX12_prove_43 ?_
      refine g_aload_n dX12_prove_44 rfl ?_
      refine m_getR fl_X12_40 rfl rfl rfl dX12_prove_45 ?_
      refine g_ic3 dX12_prove_48 ?_
      refine g_iload_n dX12_prove_49 rfl ?_
      refine g_imul dX12_prove_50 ?_
      refine g_ic1 dX12_prove_51 ?_
      refine g_iadd dX12_prove_52 ?_
      refine g_aload_n dX12_prove_53 rfl ?_
      refine g_aload_n dX12_prove_54 rfl ?_
      refine m_getR fl_X12_37 rfl rfl rfl dX12_prove_55 ?_
      refine g_iload_n dX12_prove_58 rfl ?_
      obtain ⟨x11, qx11, h⟩ := g_bind h
      refine m_iald rfl qx11 dX12_prove_59 ?_
      obtain ⟨⟨x12, μ14⟩, q13, h⟩ := g_bind h
      refine m_cV mt_X12_goesWith ml_X12_287 mv_X12_goesWith dX12_prove_60 (k_X12_goesWith q13) rfl rfl rfl rfl (by decide) ⟨Nat.le_refl _, Nat.le_refl _⟩ (Nat.le_of_ble_eq_true rfl) ?_
      obtain ⟨μ15, qμ15, h⟩ := g_bind h
      refine m_iast rfl qμ15 dX12_prove_63 ?_
      refine g_aload_n dX12_prove_64 rfl ?_
      refine m_getR fl_X12_40 rfl rfl rfl dX12_prove_65 ?_
      refine g_ic3 dX12_prove_68 ?_
      refine g_iload_n dX12_prove_69 rfl ?_
      refine g_imul dX12_prove_70 ?_
      refine g_ic2 dX12_prove_71 ?_
      refine g_iadd dX12_prove_72 ?_
      refine g_aload_n dX12_prove_73 rfl ?_
      obtain ⟨x16, q17, h⟩ := g_bind h
      refine m_cV mt_X12_home ml_X12_137 mv_X12_home dX12_prove_74 (k_X12_home q17) rfl rfl rfl rfl (by decide) ⟨Nat.le_refl _, Nat.le_refl _⟩ (Nat.le_of_ble_eq_true rfl) ?_
      obtain ⟨μ18, qμ18, h⟩ := g_bind h
      refine m_iast rfl qμ18 dX12_prove_77 ?_
      refine g_iinc_2 (v := 1) rfl (by decide) (Nat.le_of_ble_eq_true rfl) dX12_prove_78 ?_
      refine g_goto 22 (by decide) dX12_prove_81 ?_
      exact g_less _ (g_subS (g_subN (g_subS g_sub0))) (ih _ _ _ h hc)
set_option maxRecDepth 100000 in
set_option maxHeartbeats 4000000 in
theorem k_X12_prove {D : va_G} {cA : Nat → ClassId} {b k : Nat} {N : Nat} {a1 : Int32} {μ : g_M} {z : Int32 × g_M} (h : f_X12_prove N a1 μ = some z) : g_K (g_XM D cA b) yX12_prove Y_X12_prove 50 0 0 k [.ref 0, .int a1] (μ, g_rfM) (fun r1 σ1 => r1 = some (.int z.1) ∧ σ1 = (z.2, g_rfM)) := by
  unfold f_X12_prove at h
  refine g_met 1 (by decide) rfl rfl (Nat.le_of_ble_eq_true rfl) ?_
  refine g_iload_n dX12_prove_0 rfl ?_
  refine m_cS mt_X12_isLong ml_X12_293 ms_X12_isLong dX12_prove_1 (k_X12_isLong rfl) rfl rfl (by decide) ⟨Nat.le_refl _, Nat.le_refl _⟩ (Nat.le_of_ble_eq_true rfl) ?_
  refine g_if_ne 9 (by decide) dX12_prove_4 (fun c1 => ?_) (fun c1 => ?_)
  · have h := g_ifn c1 h
    refine g_aload_n dX12_prove_9 rfl ?_
    refine g_iload_n dX12_prove_10 rfl ?_
    refine g_ic0 dX12_prove_11 ?_
    obtain ⟨μ4, q3, h⟩ := g_bind h
    refine m_cVv mt_X12_findsPlans ml_X12_296 mv_X12_findsPlans dX12_prove_12 (k_X12_findsPlans q3) rfl rfl rfl rfl (by decide) ⟨Nat.le_refl _, Nat.le_refl _⟩ (Nat.le_of_ble_eq_true rfl) ?_
    refine g_aload_n dX12_prove_15 rfl ?_
    refine g_ic0 dX12_prove_16 ?_
    obtain ⟨μ7, q6, h⟩ := g_bind h
    refine m_cVv mt_X12_laysAside ml_X12_234 mv_X12_laysAside dX12_prove_17 (k_X12_laysAside q6) rfl rfl rfl rfl (by decide) ⟨Nat.le_refl _, Nat.le_refl _⟩ (Nat.le_of_ble_eq_true rfl) ?_
    refine g_ic0 dX12_prove_20 ?_
    refine g_istore_2 rfl (Nat.le_of_ble_eq_true rfl) dX12_prove_21 ?_
    obtain ⟨μ8, q9, h⟩ := g_bind h
    refine g_less _ (g_subS (g_subN (g_subS g_sub0))) (k_X12_prove_L22 _ _ _ _ q9 ?_)
    refine g_aload_n dX12_prove_84 rfl ?_
    refine g_ic0 dX12_prove_85 ?_
    obtain ⟨μ12, q11, h⟩ := g_bind h
    refine m_cVv mt_X12_laysBack ml_X12_237 mv_X12_laysBack dX12_prove_86 (k_X12_laysBack q11) rfl rfl rfl rfl (by decide) ⟨Nat.le_refl _, Nat.le_refl _⟩ (Nat.le_of_ble_eq_true rfl) ?_
    refine g_aload_n dX12_prove_89 rfl ?_
    refine g_aload_n dX12_prove_90 rfl ?_
    refine m_getI fl_X12_275 rfl rfl dX12_prove_91 ?_
    obtain ⟨μ13, eμ13, h⟩ := g_let h
    refine m_putI fl_X12_336 fw_12_32 rfl rfl rfl rfl dX12_prove_94 eμ13 ?_
    refine g_aload_n dX12_prove_97 rfl ?_
    refine m_getI fl_X12_336 rfl rfl dX12_prove_98 ?_
    obtain rfl := Option.some.inj h
    exact g_iret rfl (Nat.le_refl _) rfl dX12_prove_101 ⟨rfl, rfl⟩
  · have h := g_ifp c1 h
    refine g_icm1 dX12_prove_7 ?_
    obtain rfl := Option.some.inj h
    exact g_iret rfl (Nat.le_refl _) rfl dX12_prove_8 ⟨rfl, rfl⟩
set_option maxRecDepth 100000 in
set_option maxHeartbeats 4000000 in
theorem k_X12_isRow {D : va_G} {cA : Nat → ClassId} {b k : Nat} {a1 : Int32} {a2 : Int32} {μ : g_M} {z : Int32} (h : f_X12_isRow a1 a2 μ = z) : g_K (g_XM D cA b) yX12_isRow Y_X12_isRow 2 0 0 k [.ref 0, .int a1, .int a2] (μ, g_rfM) (fun r1 σ1 => r1 = some (.int z) ∧ σ1 = (μ, g_rfM)) := by
  unfold f_X12_isRow at h
  refine g_met 0 (by decide) rfl rfl (Nat.le_of_ble_eq_true rfl) ?_
  refine g_iload_n dX12_isRow_0 rfl ?_
  refine g_i2l dX12_isRow_1 ?_
  refine g_lc0 dX12_isRow_2 ?_
  refine g_aload_n dX12_isRow_3 rfl ?_
  refine m_getI fl_X12_336 rfl rfl dX12_isRow_4 ?_
  refine g_ic1 dX12_isRow_7 ?_
  refine g_isub dX12_isRow_8 ?_
  refine g_i2l dX12_isRow_9 ?_
  refine m_cS mt_X12_isIn ml_X12_66 ms_X12_isIn dX12_isRow_10 (k_X12_isIn rfl) rfl rfl (by decide) ⟨Nat.le_refl _, Nat.le_refl _⟩ (Nat.le_of_ble_eq_true rfl) ?_
  refine g_if_eq 32 (by decide) dX12_isRow_13 (fun c1 => ?_) (fun c1 => ?_)
  · have h := g_ifp c1 h
    refine g_ic0 dX12_isRow_32 ?_
    subst h
    exact g_zret rfl (Nat.le_refl _) rfl rfl dX12_isRow_33 ⟨rfl, rfl⟩
  · have h := g_ifn c1 h
    refine g_iload_n dX12_isRow_16 rfl ?_
    refine g_i2l dX12_isRow_17 ?_
    refine g_lc0 dX12_isRow_18 ?_
    refine g_ldc2 kc_X12_88 dX12_isRow_19 ?_
    refine m_cS mt_X12_isIn ml_X12_66 ms_X12_isIn dX12_isRow_22 (k_X12_isIn rfl) rfl rfl (by decide) ⟨Nat.le_refl _, Nat.le_refl _⟩ (Nat.le_of_ble_eq_true rfl) ?_
    refine g_if_eq 32 (by decide) dX12_isRow_25 (fun c2 => ?_) (fun c2 => ?_)
    · have h := g_ifp c2 h
      refine g_ic0 dX12_isRow_32 ?_
      subst h
      exact g_zret rfl (Nat.le_refl _) rfl rfl dX12_isRow_33 ⟨rfl, rfl⟩
    · have h := g_ifn c2 h
      refine g_ic1 dX12_isRow_28 ?_
      refine g_goto 33 (by decide) dX12_isRow_29 ?_
      subst h
      exact g_zret rfl (Nat.le_refl _) rfl rfl dX12_isRow_33 ⟨rfl, rfl⟩
set_option maxRecDepth 100000 in
set_option maxHeartbeats 4000000 in
theorem zb_X12_isRow (a1 : Int32) (a2 : Int32) (μ : g_M) : narrow .boolean (.int (f_X12_isRow a1 a2 μ)) = .int (f_X12_isRow a1 a2 μ) := by
  unfold f_X12_isRow
  repeat' split
  all_goals first | rfl | apply zb_X12_isIn
set_option maxRecDepth 100000 in
set_option maxHeartbeats 4000000 in
theorem k_X12_row {D : va_G} {cA : Nat → ClassId} {b k : Nat} {a1 : Int32} {a2 : Int32} {μ : g_M} {z : Int32} (h : f_X12_row a1 a2 μ = some z) : g_K (g_XM D cA b) yX12_row Y_X12_row 3 0 0 k [.ref 0, .int a1, .int a2] (μ, g_rfM) (fun r1 σ1 => r1 = some (.int z) ∧ σ1 = (μ, g_rfM)) := by
  unfold f_X12_row at h
  refine g_met 0 (by decide) rfl rfl (Nat.le_of_ble_eq_true rfl) ?_
  refine g_aload_n dX12_row_0 rfl ?_
  refine g_iload_n dX12_row_1 rfl ?_
  refine g_iload_n dX12_row_2 rfl ?_
  refine m_cV mt_X12_isRow ml_X12_339 mv_X12_isRow dX12_row_3 (k_X12_isRow rfl) rfl rfl rfl rfl (by decide) ⟨Nat.le_refl _, Nat.le_refl _⟩ (Nat.le_of_ble_eq_true rfl) ?_
  refine g_if_eq 22 (by decide) dX12_row_6 (fun c1 => ?_) (fun c1 => ?_)
  · have h := g_ifp c1 h
    refine g_bipush (v := (-9)) dX12_row_22 (by decide) ?_
    obtain rfl := Option.some.inj h
    exact g_iret rfl (Nat.le_refl _) rfl dX12_row_24 ⟨rfl, rfl⟩
  · have h := g_ifn c1 h
    refine g_aload_n dX12_row_9 rfl ?_
    refine m_getR fl_X12_40 rfl rfl rfl dX12_row_10 ?_
    refine g_ic3 dX12_row_13 ?_
    refine g_iload_n dX12_row_14 rfl ?_
    refine g_imul dX12_row_15 ?_
    refine g_iload_n dX12_row_16 rfl ?_
    refine g_iadd dX12_row_17 ?_
    obtain ⟨x2, qx2, h⟩ := g_bind h
    refine m_iald rfl qx2 dX12_row_18 ?_
    refine g_goto 24 (by decide) dX12_row_19 ?_
    obtain rfl := Option.some.inj h
    exact g_iret rfl (Nat.le_refl _) rfl dX12_row_24 ⟨rfl, rfl⟩
set_option maxRecDepth 100000 in
set_option maxHeartbeats 4000000 in
theorem k_X12_alterRow {D : va_G} {cA : Nat → ClassId} {b k : Nat} {a1 : Int32} {a2 : Int32} {a3 : Int32} {μ : g_M} {z : Int32 × g_M} (h : f_X12_alterRow a1 a2 a3 μ = some z) : g_K (g_XM D cA b) yX12_alterRow Y_X12_alterRow 3 0 0 k [.ref 0, .int a1, .int a2, .int a3] (μ, g_rfM) (fun r1 σ1 => r1 = some (.int z.1) ∧ σ1 = (z.2, g_rfM)) := by
  unfold f_X12_alterRow at h
  refine g_met 1 (by decide) rfl rfl (Nat.le_of_ble_eq_true rfl) ?_
  refine g_aload_n dX12_alterRow_0 rfl ?_
  refine g_iload_n dX12_alterRow_1 rfl ?_
  refine g_iload_n dX12_alterRow_2 rfl ?_
  refine m_cV mt_X12_isRow ml_X12_339 mv_X12_isRow dX12_alterRow_3 (k_X12_isRow rfl) rfl rfl rfl rfl (by decide) ⟨Nat.le_refl _, Nat.le_refl _⟩ (Nat.le_of_ble_eq_true rfl) ?_
  refine g_if_ne 12 (by decide) dX12_alterRow_6 (fun c1 => ?_) (fun c1 => ?_)
  · have h := g_ifn c1 h
    refine g_aload_n dX12_alterRow_12 rfl ?_
    refine m_getR fl_X12_40 rfl rfl rfl dX12_alterRow_13 ?_
    refine g_ic3 dX12_alterRow_16 ?_
    refine g_iload_n dX12_alterRow_17 rfl ?_
    refine g_imul dX12_alterRow_18 ?_
    refine g_iload_n dX12_alterRow_19 rfl ?_
    refine g_iadd dX12_alterRow_20 ?_
    obtain ⟨x2, qx2, h⟩ := g_bind h
    refine m_iald rfl qx2 dX12_alterRow_21 ?_
    refine g_istore_4 rfl (Nat.le_of_ble_eq_true rfl) dX12_alterRow_22 ?_
    refine g_aload_n dX12_alterRow_24 rfl ?_
    refine m_getR fl_X12_40 rfl rfl rfl dX12_alterRow_25 ?_
    refine g_ic3 dX12_alterRow_28 ?_
    refine g_iload_n dX12_alterRow_29 rfl ?_
    refine g_imul dX12_alterRow_30 ?_
    refine g_iload_n dX12_alterRow_31 rfl ?_
    refine g_iadd dX12_alterRow_32 ?_
    refine g_iload_n dX12_alterRow_33 rfl ?_
    obtain ⟨μ3, qμ3, h⟩ := g_bind h
    refine m_iast rfl qμ3 dX12_alterRow_34 ?_
    refine g_iload dX12_alterRow_35 rfl ?_
    obtain rfl := Option.some.inj h
    exact g_iret rfl (Nat.le_refl _) rfl dX12_alterRow_37 ⟨rfl, rfl⟩
  · have h := g_ifp c1 h
    refine g_bipush (v := (-9)) dX12_alterRow_9 (by decide) ?_
    obtain rfl := Option.some.inj h
    exact g_iret rfl (Nat.le_refl _) rfl dX12_alterRow_11 ⟨rfl, rfl⟩
set_option maxRecDepth 100000 in
set_option maxHeartbeats 4000000 in
theorem k_X12_isAct {D : va_G} {cA : Nat → ClassId} {b k : Nat} {a1 : Int32} {μ : g_M} {z : Int32} (h : f_X12_isAct a1 μ = z) : g_K (g_XM D cA b) yX12_isAct Y_X12_isAct 2 0 0 k [.ref 0, .int a1] (μ, g_rfM) (fun r1 σ1 => r1 = some (.int z) ∧ σ1 = (μ, g_rfM)) := by
  unfold f_X12_isAct at h
  refine g_met 0 (by decide) rfl rfl (Nat.le_of_ble_eq_true rfl) ?_
  refine g_iload_n dX12_isAct_0 rfl ?_
  refine g_i2l dX12_isAct_1 ?_
  refine g_lc0 dX12_isAct_2 ?_
  refine g_aload_n dX12_isAct_3 rfl ?_
  refine m_getR fl_X12_7 rfl rfl rfl dX12_isAct_4 ?_
  refine g_ic0 dX12_isAct_7 ?_
  refine m_ialdc 0 rfl rfl (by decide) (by decide) dX12_isAct_8 ?_
  refine g_i2l dX12_isAct_9 ?_
  refine m_cS mt_X12_isIn ml_X12_66 ms_X12_isIn dX12_isAct_10 (k_X12_isIn rfl) rfl rfl (by decide) ⟨Nat.le_refl _, Nat.le_refl _⟩ (Nat.le_of_ble_eq_true rfl) ?_
  subst h
  exact g_zret rfl (Nat.le_refl _) rfl (zb_X12_isIn (Int32.toInt64 a1) 0 (Int32.toInt64 (μ 1 0))) dX12_isAct_13 ⟨rfl, rfl⟩
set_option maxRecDepth 100000 in
set_option maxHeartbeats 4000000 in
theorem zb_X12_isAct (a1 : Int32) (μ : g_M) : narrow .boolean (.int (f_X12_isAct a1 μ)) = .int (f_X12_isAct a1 μ) := by
  unfold f_X12_isAct
  repeat' split
  all_goals first | rfl | apply zb_X12_isIn
set_option maxRecDepth 100000 in
set_option maxHeartbeats 4000000 in
theorem k_X12_judge_L9 {D : va_G} {cA : Nat → ClassId} {b k : Nat} {Q : Option Value → g_S → Prop} {N : Nat} : ∀ (n : Nat) (x_1 : Int32) (x_2 : Int32) (μ : g_M) (z_1 : Int32) (z_2 : Int32) (z_μ : g_M), f_X12_judge_L9 N n x_1 x_2 μ = some (z_1, z_2, z_μ) → g_V (g_XM D cA b) Y_X12_judge 8 0 0 Q k 0 0 97 [some (.ref 0), some (.int z_1), some (.int z_2)] [] (z_μ, g_rfM) → g_V (g_XM D cA b) Y_X12_judge 8 0 0 Q k 0 0 9 [some (.ref 0), some (.int x_1), some (.int x_2)] [] (μ, g_rfM) := by
  intro n
  induction n with
  | zero =>
    intro x_1 x_2 μ z_1 z_2 z_μ h
    rw [f_X12_judge_L9] at h
    cases h
  | succ n ih =>
    intro x_1 x_2 μ z_1 z_2 z_μ h hc
    rw [f_X12_judge_L9] at h
    refine g_iload_n dX12_judge_9 rfl ?_
    refine g_aload_n dX12_judge_10 rfl ?_
    refine m_getI fl_X12_336 rfl rfl dX12_judge_11 ?_
    refine g_icmp_ge 97 (by decide) dX12_judge_14 (fun c4 => ?_) (fun c4 => ?_)
    · have h := g_ifp c4 h
      obtain ⟨rfl, rfl, rfl⟩ := g_inj3 h
      exact g_less _ (g_subS (g_subS (g_subS g_sub0))) hc
    · have h := g_ifn c4 h
      refine g_iload_n dX12_judge_17 rfl ?_
      refine g_if_eq 97 (by decide) dX12_judge_18 (fun c5 => ?_) (fun c5 => ?_)
      · have h := g_ifp c5 h
        obtain ⟨rfl, rfl, rfl⟩ := g_inj3 h
        exact g_less _ (g_subS (g_subS (g_subS g_sub0))) hc
      · have h := g_ifn c5 h
        refine g_aload_n dX12_judge_21 rfl ?_
        refine g_aload_n dX12_judge_22 rfl ?_
        refine m_getR fl_X12_40 rfl rfl rfl dX12_judge_23 ?_
        refine g_ic3 dX12_judge_26 ?_
        refine g_iload_n dX12_judge_27 rfl ?_
        refine g_imul dX12_judge_28 ?_
        obtain ⟨x6, qx6, h⟩ := g_bind h
        refine m_iald rfl qx6 dX12_judge_29 ?_
        refine m_cV mt_X12_isAct ml_X12_342 mv_X12_isAct dX12_judge_30 (k_X12_isAct rfl) rfl rfl rfl rfl (by decide) ⟨Nat.le_refl _, Nat.le_refl _⟩ (Nat.le_of_ble_eq_true rfl) ?_
        refine g_if_eq 89 (by decide) dX12_judge_33 (fun c7 => ?_) (fun c7 => ?_)
        · have h := g_ifp c7 h
          refine g_ic0 dX12_judge_89 ?_
          refine g_istore_2 rfl (Nat.le_of_ble_eq_true rfl) dX12_judge_90 ?_
          refine g_iinc_1 (v := 1) rfl (by decide) (Nat.le_of_ble_eq_true rfl) dX12_judge_91 ?_
          refine g_goto 9 (by decide) dX12_judge_94 ?_
          exact g_less _ (g_subS (g_subS (g_subS g_sub0))) (ih _ _ _ _ _ _ h hc)
        · have h := g_ifn c7 h
          refine g_aload_n dX12_judge_36 rfl ?_
          refine m_cV mt_X12_isOver ml_X12_133 mv_X12_isOver dX12_judge_37 (k_X12_isOver rfl) rfl rfl rfl rfl (by decide) ⟨Nat.le_refl _, Nat.le_refl _⟩ (Nat.le_of_ble_eq_true rfl) ?_
          refine g_if_ne 89 (by decide) dX12_judge_40 (fun c8 => ?_) (fun c8 => ?_)
          · have h := g_ifn c8 h
            refine g_ic0 dX12_judge_89 ?_
            refine g_istore_2 rfl (Nat.le_of_ble_eq_true rfl) dX12_judge_90 ?_
            refine g_iinc_1 (v := 1) rfl (by decide) (Nat.le_of_ble_eq_true rfl) dX12_judge_91 ?_
            refine g_goto 9 (by decide) dX12_judge_94 ?_
            exact g_less _ (g_subS (g_subS (g_subS g_sub0))) (ih _ _ _ _ _ _ h hc)
          · have h := g_ifp c8 h
            refine g_aload_n dX12_judge_43 rfl ?_
            refine g_aload_n dX12_judge_44 rfl ?_
            refine m_getR fl_X12_40 rfl rfl rfl dX12_judge_45 ?_
            refine g_ic3 dX12_judge_48 ?_
            refine g_iload_n dX12_judge_49 rfl ?_
            refine g_imul dX12_judge_50 ?_
            obtain ⟨x9, qx9, h⟩ := g_bind h
            refine m_iald rfl qx9 dX12_judge_51 ?_
            obtain ⟨⟨x10, μ12⟩, q11, h⟩ := g_bind h
            refine m_cV mt_X12_goesWith ml_X12_287 mv_X12_goesWith dX12_judge_52 (k_X12_goesWith q11) rfl rfl rfl rfl (by decide) ⟨Nat.le_refl _, Nat.le_refl _⟩ (Nat.le_of_ble_eq_true rfl) ?_
            refine g_aload_n dX12_judge_55 rfl ?_
            refine m_getR fl_X12_40 rfl rfl rfl dX12_judge_56 ?_
            refine g_ic3 dX12_judge_59 ?_
            refine g_iload_n dX12_judge_60 rfl ?_
            refine g_imul dX12_judge_61 ?_
            refine g_ic1 dX12_judge_62 ?_
            refine g_iadd dX12_judge_63 ?_
            obtain ⟨x13, qx13, h⟩ := g_bind h
            refine m_iald rfl qx13 dX12_judge_64 ?_
            refine g_icmp_ne 89 (by decide) dX12_judge_65 (fun c14 => ?_) (fun c14 => ?_)
            · have h := g_ifn c14 h
              refine g_ic0 dX12_judge_89 ?_
              refine g_istore_2 rfl (Nat.le_of_ble_eq_true rfl) dX12_judge_90 ?_
              refine g_iinc_1 (v := 1) rfl (by decide) (Nat.le_of_ble_eq_true rfl) dX12_judge_91 ?_
              refine g_goto 9 (by decide) dX12_judge_94 ?_
              exact g_less _ (g_subS (g_subS (g_subS g_sub0))) (ih _ _ _ _ _ _ h hc)
            · have h := g_ifp c14 h
              refine g_aload_n dX12_judge_68 rfl ?_
              obtain ⟨x15, q16, h⟩ := g_bind h
              refine m_cV mt_X12_home ml_X12_137 mv_X12_home dX12_judge_69 (k_X12_home q16) rfl rfl rfl rfl (by decide) ⟨Nat.le_refl _, Nat.le_refl _⟩ (Nat.le_of_ble_eq_true rfl) ?_
              refine g_aload_n dX12_judge_72 rfl ?_
              refine m_getR fl_X12_40 rfl rfl rfl dX12_judge_73 ?_
              refine g_ic3 dX12_judge_76 ?_
              refine g_iload_n dX12_judge_77 rfl ?_
              refine g_imul dX12_judge_78 ?_
              refine g_ic2 dX12_judge_79 ?_
              refine g_iadd dX12_judge_80 ?_
              obtain ⟨x17, qx17, h⟩ := g_bind h
              refine m_iald rfl qx17 dX12_judge_81 ?_
              refine g_icmp_ne 89 (by decide) dX12_judge_82 (fun c18 => ?_) (fun c18 => ?_)
              · have h := g_ifn c18 h
                refine g_ic0 dX12_judge_89 ?_
                refine g_istore_2 rfl (Nat.le_of_ble_eq_true rfl) dX12_judge_90 ?_
                refine g_iinc_1 (v := 1) rfl (by decide) (Nat.le_of_ble_eq_true rfl) dX12_judge_91 ?_
                refine g_goto 9 (by decide) dX12_judge_94 ?_
                exact g_less _ (g_subS (g_subS (g_subS g_sub0))) (ih _ _ _ _ _ _ h hc)
              · have h := g_ifp c18 h
                refine g_ic1 dX12_judge_85 ?_
                refine g_goto 90 (by decide) dX12_judge_86 ?_
                refine g_istore_2 rfl (Nat.le_of_ble_eq_true rfl) dX12_judge_90 ?_
                refine g_iinc_1 (v := 1) rfl (by decide) (Nat.le_of_ble_eq_true rfl) dX12_judge_91 ?_
                refine g_goto 9 (by decide) dX12_judge_94 ?_
                exact g_less _ (g_subS (g_subS (g_subS g_sub0))) (ih _ _ _ _ _ _ h hc)
set_option maxRecDepth 100000 in
set_option maxHeartbeats 4000000 in
theorem k_X12_judge {D : va_G} {cA : Nat → ClassId} {b k : Nat} {N : Nat} {μ : g_M} {z : Int32 × g_M} (h : f_X12_judge N μ = some z) : g_K (g_XM D cA b) yX12_judge Y_X12_judge 8 0 0 k [.ref 0] (μ, g_rfM) (fun r1 σ1 => r1 = some (.int z.1) ∧ σ1 = (z.2, g_rfM)) := by
  unfold f_X12_judge at h
  refine g_met 2 (by decide) rfl rfl (Nat.le_of_ble_eq_true rfl) ?_
  refine g_aload_n dX12_judge_0 rfl ?_
  refine g_ic0 dX12_judge_1 ?_
  obtain ⟨μ3, q2, h⟩ := g_bind h
  refine m_cVv mt_X12_laysAside ml_X12_234 mv_X12_laysAside dX12_judge_2 (k_X12_laysAside q2) rfl rfl rfl rfl (by decide) ⟨Nat.le_refl _, Nat.le_refl _⟩ (Nat.le_of_ble_eq_true rfl) ?_
  refine g_ic0 dX12_judge_5 ?_
  refine g_istore_1 rfl (Nat.le_of_ble_eq_true rfl) dX12_judge_6 ?_
  refine g_ic1 dX12_judge_7 ?_
  refine g_istore_2 rfl (Nat.le_of_ble_eq_true rfl) dX12_judge_8 ?_
  obtain ⟨⟨x4, x5, μ6⟩, q7, h⟩ := g_bind h
  refine g_less _ (g_subS (g_subS (g_subS g_sub0))) (k_X12_judge_L9 _ _ _ _ _ _ _ q7 ?_)
  refine g_aload_n dX12_judge_97 rfl ?_
  refine g_ic0 dX12_judge_98 ?_
  obtain ⟨μ10, q9, h⟩ := g_bind h
  refine m_cVv mt_X12_laysBack ml_X12_237 mv_X12_laysBack dX12_judge_99 (k_X12_laysBack q9) rfl rfl rfl rfl (by decide) ⟨Nat.le_refl _, Nat.le_refl _⟩ (Nat.le_of_ble_eq_true rfl) ?_
  refine g_iload_n dX12_judge_102 rfl ?_
  refine g_if_eq 110 (by decide) dX12_judge_103 (fun c11 => ?_) (fun c11 => ?_)
  · have h := g_ifp c11 h
    refine g_iload_n dX12_judge_110 rfl ?_
    obtain rfl := Option.some.inj h
    exact g_iret rfl (Nat.le_refl _) rfl dX12_judge_111 ⟨rfl, rfl⟩
  · have h := g_ifn c11 h
    refine g_ic0 dX12_judge_106 ?_
    refine g_goto 111 (by decide) dX12_judge_107 ?_
    obtain rfl := Option.some.inj h
    exact g_iret rfl (Nat.le_refl _) rfl dX12_judge_111 ⟨rfl, rfl⟩
set_option maxRecDepth 100000 in
set_option maxHeartbeats 4000000 in
theorem k_X12_isSheet {D : va_G} {cA : Nat → ClassId} {b k : Nat} {a1 : Int32} {μ : g_M} {z : Int32} (h : f_X12_isSheet a1 = z) : g_K (g_XM D cA b) yX12_isSheet Y_X12_isSheet 2 0 0 k [.int a1] (μ, g_rfM) (fun r1 σ1 => r1 = some (.int z) ∧ σ1 = (μ, g_rfM)) := by
  unfold f_X12_isSheet at h
  refine g_met 0 (by decide) rfl rfl (Nat.le_of_ble_eq_true rfl) ?_
  refine g_iload_n dX12_isSheet_0 rfl ?_
  refine g_i2l dX12_isSheet_1 ?_
  refine g_lc0 dX12_isSheet_2 ?_
  refine g_ldc2 kc_X12_300 dX12_isSheet_3 ?_
  refine m_cS mt_X12_isIn ml_X12_66 ms_X12_isIn dX12_isSheet_6 (k_X12_isIn rfl) rfl rfl (by decide) ⟨Nat.le_refl _, Nat.le_refl _⟩ (Nat.le_of_ble_eq_true rfl) ?_
  subst h
  exact g_zret rfl (Nat.le_refl _) rfl (zb_X12_isIn (Int32.toInt64 a1) 0 3) dX12_isSheet_9 ⟨rfl, rfl⟩
set_option maxRecDepth 100000 in
set_option maxHeartbeats 4000000 in
theorem zb_X12_isSheet (a1 : Int32) : narrow .boolean (.int (f_X12_isSheet a1)) = .int (f_X12_isSheet a1) := by
  unfold f_X12_isSheet
  repeat' split
  all_goals first | rfl | apply zb_X12_isIn
set_option maxRecDepth 100000 in
set_option maxHeartbeats 4000000 in
theorem k_X12_isShelf {D : va_G} {cA : Nat → ClassId} {b k : Nat} {a1 : Int32} {μ : g_M} {z : Int32} (h : f_X12_isShelf a1 = z) : g_K (g_XM D cA b) yX12_isShelf Y_X12_isShelf 2 0 0 k [.int a1] (μ, g_rfM) (fun r1 σ1 => r1 = some (.int z) ∧ σ1 = (μ, g_rfM)) := by
  unfold f_X12_isShelf at h
  refine g_met 0 (by decide) rfl rfl (Nat.le_of_ble_eq_true rfl) ?_
  refine g_iload_n dX12_isShelf_0 rfl ?_
  refine g_i2l dX12_isShelf_1 ?_
  refine g_lc0 dX12_isShelf_2 ?_
  refine g_ldc2 kc_X12_300 dX12_isShelf_3 ?_
  refine m_cS mt_X12_isIn ml_X12_66 ms_X12_isIn dX12_isShelf_6 (k_X12_isIn rfl) rfl rfl (by decide) ⟨Nat.le_refl _, Nat.le_refl _⟩ (Nat.le_of_ble_eq_true rfl) ?_
  subst h
  exact g_zret rfl (Nat.le_refl _) rfl (zb_X12_isIn (Int32.toInt64 a1) 0 3) dX12_isShelf_9 ⟨rfl, rfl⟩
set_option maxRecDepth 100000 in
set_option maxHeartbeats 4000000 in
theorem zb_X12_isShelf (a1 : Int32) : narrow .boolean (.int (f_X12_isShelf a1)) = .int (f_X12_isShelf a1) := by
  unfold f_X12_isShelf
  repeat' split
  all_goals first | rfl | apply zb_X12_isIn
set_option maxRecDepth 100000 in
set_option maxHeartbeats 4000000 in
theorem k_X12_sheet_L69 {D : va_G} {cA : Nat → ClassId} {b k : Nat} {Q : Option Value → g_S → Prop} {N : Nat} : ∀ (n : Nat) (x_1 : Int32) (x_4 : Int32) (μ : g_M) (z_μ : g_M), f_X12_sheet_L69 N n x_1 x_4 μ = some z_μ → g_V (g_XM D cA b) Y_X12_sheet 3 0 0 Q k 0 0 95 [none, none, none, none, none] [] (z_μ, g_rfM) → g_V (g_XM D cA b) Y_X12_sheet 3 0 0 Q k 0 0 69 [some (.ref 0), some (.int x_1), none, none, some (.int x_4)] [] (μ, g_rfM) := by
  intro n
  induction n with
  | zero =>
    intro x_1 x_4 μ z_μ h
    rw [f_X12_sheet_L69] at h
    cases h
  | succ n ih =>
    intro x_1 x_4 μ z_μ h hc
    rw [f_X12_sheet_L69] at h
    refine g_iload dX12_sheet_69 rfl ?_
    refine g_bipush (v := 40) dX12_sheet_71 (by decide) ?_
    refine g_icmp_ge 95 (by decide) dX12_sheet_73 (fun c7 => ?_) (fun c7 => ?_)
    · have h := g_ifp c7 h
      obtain rfl := Option.some.inj h
      exact g_less _ (g_subN (g_subN (g_subN (g_subN (g_subN g_sub0))))) hc
    · have h := g_ifn c7 h
      refine g_aload_n dX12_sheet_76 rfl ?_
      refine m_getR fl_X12_49 rfl rfl rfl dX12_sheet_77 ?_
      refine g_bipush (v := 40) dX12_sheet_80 (by decide) ?_
      refine g_iload_n dX12_sheet_82 rfl ?_
      refine g_imul dX12_sheet_83 ?_
      refine g_iload dX12_sheet_84 rfl ?_
      refine g_iadd dX12_sheet_86 ?_
      refine g_ic0 dX12_sheet_87 ?_
      obtain ⟨μ8, qμ8, h⟩ := g_bind h
      refine m_iast rfl qμ8 dX12_sheet_88 ?_
      refine g_iinc_4 (v := 1) rfl (by decide) (Nat.le_of_ble_eq_true rfl) dX12_sheet_89 ?_
      refine g_goto 69 (by decide) dX12_sheet_92 ?_
      exact g_less _ (g_subS (g_subS (g_subN (g_subN (g_subS g_sub0))))) (ih _ _ _ _ h hc)
set_option maxRecDepth 100000 in
set_option maxHeartbeats 4000000 in
theorem k_X12_sheet {D : va_G} {cA : Nat → ClassId} {b k : Nat} {N : Nat} {a1 : Int32} {a2 : Int32} {a3 : Int32} {μ : g_M} {z : Int32 × g_M} (h : f_X12_sheet N a1 a2 a3 μ = some z) : g_K (g_XM D cA b) yX12_sheet Y_X12_sheet 3 0 0 k [.ref 0, .int a1, .int a2, .int a3] (μ, g_rfM) (fun r1 σ1 => r1 = some (.int z.1) ∧ σ1 = (z.2, g_rfM)) := by
  unfold f_X12_sheet at h
  refine g_met 1 (by decide) rfl rfl (Nat.le_of_ble_eq_true rfl) ?_
  refine g_iload_n dX12_sheet_0 rfl ?_
  refine m_cS mt_X12_isSheet ml_X12_345 ms_X12_isSheet dX12_sheet_1 (k_X12_isSheet rfl) rfl rfl (by decide) ⟨Nat.le_refl _, Nat.le_refl _⟩ (Nat.le_of_ble_eq_true rfl) ?_
  refine g_if_eq 31 (by decide) dX12_sheet_4 (fun c1 => ?_) (fun c1 => ?_)
  · have h := g_ifp c1 h
    refine g_icm1 dX12_sheet_31 ?_
    obtain rfl := Option.some.inj h
    exact g_iret rfl (Nat.le_refl _) rfl dX12_sheet_32 ⟨rfl, rfl⟩
  · have h := g_ifn c1 h
    refine g_iload_n dX12_sheet_7 rfl ?_
    refine g_i2l dX12_sheet_8 ?_
    refine g_ldc2 kc_X12_348 dX12_sheet_9 ?_
    refine g_ldc2 kc_X12_126 dX12_sheet_12 ?_
    refine m_cS mt_X12_isIn ml_X12_66 ms_X12_isIn dX12_sheet_15 (k_X12_isIn rfl) rfl rfl (by decide) ⟨Nat.le_refl _, Nat.le_refl _⟩ (Nat.le_of_ble_eq_true rfl) ?_
    refine g_if_eq 31 (by decide) dX12_sheet_18 (fun c2 => ?_) (fun c2 => ?_)
    · have h := g_ifp c2 h
      refine g_icm1 dX12_sheet_31 ?_
      obtain rfl := Option.some.inj h
      exact g_iret rfl (Nat.le_refl _) rfl dX12_sheet_32 ⟨rfl, rfl⟩
    · have h := g_ifn c2 h
      refine g_iload_n dX12_sheet_21 rfl ?_
      refine g_if_lt 33 (by decide) dX12_sheet_22 (fun c3 => ?_) (fun c3 => ?_)
      · have h := g_ifp c3 h
        refine g_iload_n dX12_sheet_33 rfl ?_
        refine g_if_lt 44 (by decide) dX12_sheet_34 (fun c9 => ?_) (fun cd => absurd c3 cd)
        refine g_aload_n dX12_sheet_44 rfl ?_
        refine m_getR fl_X12_43 rfl rfl rfl dX12_sheet_45 ?_
        refine g_iload_n dX12_sheet_48 rfl ?_
        refine g_iload_n dX12_sheet_49 rfl ?_
        obtain ⟨μ4, qμ4, h⟩ := g_bind h
        refine m_iast rfl qμ4 dX12_sheet_50 ?_
        refine g_aload_n dX12_sheet_51 rfl ?_
        refine m_getR fl_X12_46 rfl rfl rfl dX12_sheet_52 ?_
        refine g_iload_n dX12_sheet_55 rfl ?_
        refine g_iload_n dX12_sheet_56 rfl ?_
        refine g_if_ge 64 (by decide) dX12_sheet_57 (fun c5 => ?_) (fun c5 => ?_)
        · have h := g_ifp c5 h
          refine g_iload_n dX12_sheet_64 rfl ?_
          obtain ⟨μ6, qμ6, h⟩ := g_bind h
          refine m_iast rfl qμ6 dX12_sheet_65 ?_
          refine g_ic0 dX12_sheet_66 ?_
          refine g_istore_4 rfl (Nat.le_of_ble_eq_true rfl) dX12_sheet_67 ?_
          obtain ⟨μ7, q8, h⟩ := g_bind h
          refine g_less _ (g_subS (g_subS (g_subN (g_subN (g_subS g_sub0))))) (k_X12_sheet_L69 _ _ _ _ _ q8 ?_)
          refine g_ic1 dX12_sheet_95 ?_
          obtain rfl := Option.some.inj h
          exact g_iret rfl (Nat.le_refl _) rfl dX12_sheet_96 ⟨rfl, rfl⟩
        · have h := g_ifn c5 h
          refine g_ic0 dX12_sheet_60 ?_
          refine g_goto 65 (by decide) dX12_sheet_61 ?_
          obtain ⟨μ9, qμ9, h⟩ := g_bind h
          refine m_iast rfl qμ9 dX12_sheet_65 ?_
          refine g_ic0 dX12_sheet_66 ?_
          refine g_istore_4 rfl (Nat.le_of_ble_eq_true rfl) dX12_sheet_67 ?_
          obtain ⟨μ10, q11, h⟩ := g_bind h
          refine g_less _ (g_subS (g_subS (g_subN (g_subN (g_subS g_sub0))))) (k_X12_sheet_L69 _ _ _ _ _ q11 ?_)
          refine g_ic1 dX12_sheet_95 ?_
          obtain rfl := Option.some.inj h
          exact g_iret rfl (Nat.le_refl _) rfl dX12_sheet_96 ⟨rfl, rfl⟩
      · have h := g_ifn c3 h
        refine g_iload_n dX12_sheet_25 rfl ?_
        refine g_bipush (v := 40) dX12_sheet_26 (by decide) ?_
        refine g_icmp_le 33 (by decide) dX12_sheet_28 (fun c12 => ?_) (fun c12 => ?_)
        · have h := g_ifp c12 h
          refine g_iload_n dX12_sheet_33 rfl ?_
          refine g_if_lt 44 (by decide) dX12_sheet_34 (fun cd => absurd cd c3) (fun c9 => ?_)
          refine g_iload_n dX12_sheet_37 rfl ?_
          refine g_if_ge 44 (by decide) dX12_sheet_38 (fun c13 => ?_) (fun c13 => ?_)
          · have h := g_ifp c13 h
            refine g_aload_n dX12_sheet_44 rfl ?_
            refine m_getR fl_X12_43 rfl rfl rfl dX12_sheet_45 ?_
            refine g_iload_n dX12_sheet_48 rfl ?_
            refine g_iload_n dX12_sheet_49 rfl ?_
            obtain ⟨μ14, qμ14, h⟩ := g_bind h
            refine m_iast rfl qμ14 dX12_sheet_50 ?_
            refine g_aload_n dX12_sheet_51 rfl ?_
            refine m_getR fl_X12_46 rfl rfl rfl dX12_sheet_52 ?_
            refine g_iload_n dX12_sheet_55 rfl ?_
            refine g_iload_n dX12_sheet_56 rfl ?_
            refine g_if_ge 64 (by decide) dX12_sheet_57 (fun c15 => ?_) (fun c15 => ?_)
            · have h := g_ifp c15 h
              refine g_iload_n dX12_sheet_64 rfl ?_
              obtain ⟨μ16, qμ16, h⟩ := g_bind h
              refine m_iast rfl qμ16 dX12_sheet_65 ?_
              refine g_ic0 dX12_sheet_66 ?_
              refine g_istore_4 rfl (Nat.le_of_ble_eq_true rfl) dX12_sheet_67 ?_
              obtain ⟨μ17, q18, h⟩ := g_bind h
              refine g_less _ (g_subS (g_subS (g_subN (g_subN (g_subS g_sub0))))) (k_X12_sheet_L69 _ _ _ _ _ q18 ?_)
              refine g_ic1 dX12_sheet_95 ?_
              obtain rfl := Option.some.inj h
              exact g_iret rfl (Nat.le_refl _) rfl dX12_sheet_96 ⟨rfl, rfl⟩
            · have h := g_ifn c15 h
              refine g_ic0 dX12_sheet_60 ?_
              refine g_goto 65 (by decide) dX12_sheet_61 ?_
              obtain ⟨μ19, qμ19, h⟩ := g_bind h
              refine m_iast rfl qμ19 dX12_sheet_65 ?_
              refine g_ic0 dX12_sheet_66 ?_
              refine g_istore_4 rfl (Nat.le_of_ble_eq_true rfl) dX12_sheet_67 ?_
              obtain ⟨μ20, q21, h⟩ := g_bind h
              refine g_less _ (g_subS (g_subS (g_subN (g_subN (g_subS g_sub0))))) (k_X12_sheet_L69 _ _ _ _ _ q21 ?_)
              refine g_ic1 dX12_sheet_95 ?_
              obtain rfl := Option.some.inj h
              exact g_iret rfl (Nat.le_refl _) rfl dX12_sheet_96 ⟨rfl, rfl⟩
          · have h := g_ifn c13 h
            refine g_bipush (v := (-14)) dX12_sheet_41 (by decide) ?_
            obtain rfl := Option.some.inj h
            exact g_iret rfl (Nat.le_refl _) rfl dX12_sheet_43 ⟨rfl, rfl⟩
        · have h := g_ifn c12 h
          refine g_icm1 dX12_sheet_31 ?_
          obtain rfl := Option.some.inj h
          exact g_iret rfl (Nat.le_refl _) rfl dX12_sheet_32 ⟨rfl, rfl⟩
set_option maxRecDepth 100000 in
set_option maxHeartbeats 4000000 in
theorem k_X12_write {D : va_G} {cA : Nat → ClassId} {b k : Nat} {a1 : Int32} {a2 : Int32} {a3 : Int32} {μ : g_M} {z : Int32 × g_M} (h : f_X12_write a1 a2 a3 μ = some z) : g_K (g_XM D cA b) yX12_write Y_X12_write 3 0 0 k [.ref 0, .int a1, .int a2, .int a3] (μ, g_rfM) (fun r1 σ1 => r1 = some (.int z.1) ∧ σ1 = (z.2, g_rfM)) := by
  unfold f_X12_write at h
  refine g_met 0 (by decide) rfl rfl (Nat.le_of_ble_eq_true rfl) ?_
  refine g_iload_n dX12_write_0 rfl ?_
  refine m_cS mt_X12_isSheet ml_X12_345 ms_X12_isSheet dX12_write_1 (k_X12_isSheet rfl) rfl rfl (by decide) ⟨Nat.le_refl _, Nat.le_refl _⟩ (Nat.le_of_ble_eq_true rfl) ?_
  refine g_if_ne 9 (by decide) dX12_write_4 (fun c1 => ?_) (fun c1 => ?_)
  · have h := g_ifn c1 h
    refine g_aload_n dX12_write_9 rfl ?_
    refine m_getR fl_X12_43 rfl rfl rfl dX12_write_10 ?_
    refine g_iload_n dX12_write_13 rfl ?_
    obtain ⟨x2, qx2, h⟩ := g_bind h
    refine m_iald rfl qx2 dX12_write_14 ?_
    refine g_if_ge 21 (by decide) dX12_write_15 (fun c3 => ?_) (fun c3 => ?_)
    · have h := g_ifp c3 h
      refine g_iload_n dX12_write_21 rfl ?_
      refine g_i2l dX12_write_22 ?_
      refine g_lc0 dX12_write_23 ?_
      refine g_aload_n dX12_write_24 rfl ?_
      refine m_getR fl_X12_46 rfl rfl rfl dX12_write_25 ?_
      refine g_iload_n dX12_write_28 rfl ?_
      obtain ⟨x4, qx4, h⟩ := g_bind h
      refine m_iald rfl qx4 dX12_write_29 ?_
      refine g_ic1 dX12_write_30 ?_
      refine g_isub dX12_write_31 ?_
      refine g_i2l dX12_write_32 ?_
      refine m_cS mt_X12_isIn ml_X12_66 ms_X12_isIn dX12_write_33 (k_X12_isIn rfl) rfl rfl (by decide) ⟨Nat.le_refl _, Nat.le_refl _⟩ (Nat.le_of_ble_eq_true rfl) ?_
      refine g_if_ne 42 (by decide) dX12_write_36 (fun c5 => ?_) (fun c5 => ?_)
      · have h := g_ifn c5 h
        refine g_aload_n dX12_write_42 rfl ?_
        refine m_getR fl_X12_49 rfl rfl rfl dX12_write_43 ?_
        refine g_bipush (v := 40) dX12_write_46 (by decide) ?_
        refine g_iload_n dX12_write_48 rfl ?_
        refine g_imul dX12_write_49 ?_
        refine g_iload_n dX12_write_50 rfl ?_
        refine g_iadd dX12_write_51 ?_
        refine g_aload_n dX12_write_52 rfl ?_
        refine m_getR fl_X12_43 rfl rfl rfl dX12_write_53 ?_
        refine g_iload_n dX12_write_56 rfl ?_
        obtain ⟨x6, qx6, h⟩ := g_bind h
        refine m_iald rfl qx6 dX12_write_57 ?_
        refine g_if_ne 66 (by decide) dX12_write_58 (fun c7 => ?_) (fun c7 => ?_)
        · have h := g_ifn c7 h
          refine g_aload_n dX12_write_66 rfl ?_
          refine m_getR fl_X12_43 rfl rfl rfl dX12_write_67 ?_
          refine g_iload_n dX12_write_70 rfl ?_
          obtain ⟨x8, qx8, h⟩ := g_bind h
          refine m_iald rfl qx8 dX12_write_71 ?_
          refine g_ic1 dX12_write_72 ?_
          refine g_icmp_ne 81 (by decide) dX12_write_73 (fun c9 => ?_) (fun c9 => ?_)
          · have h := g_ifn c9 h
            refine g_aload_n dX12_write_81 rfl ?_
            refine m_getR fl_X12_43 rfl rfl rfl dX12_write_82 ?_
            refine g_iload_n dX12_write_85 rfl ?_
            obtain ⟨x10, qx10, h⟩ := g_bind h
            refine m_iald rfl qx10 dX12_write_86 ?_
            refine g_ic4 dX12_write_87 ?_
            refine g_icmp_ne 103 (by decide) dX12_write_88 (fun c11 => ?_) (fun c11 => ?_)
            · have h := g_ifn c11 h
              refine g_iload_n dX12_write_103 rfl ?_
              obtain ⟨μ12, qμ12, h⟩ := g_bind h
              refine m_iast rfl qμ12 dX12_write_104 ?_
              refine g_ic1 dX12_write_105 ?_
              obtain rfl := Option.some.inj h
              exact g_iret rfl (Nat.le_refl _) rfl dX12_write_106 ⟨rfl, rfl⟩
            · have h := g_ifp c11 h
              refine g_iload_n dX12_write_91 rfl ?_
              refine g_if_ne 99 (by decide) dX12_write_92 (fun c13 => ?_) (fun c13 => ?_)
              · have h := g_ifn c13 h
                refine g_ic1 dX12_write_99 ?_
                refine g_goto 104 (by decide) dX12_write_100 ?_
                obtain ⟨μ14, qμ14, h⟩ := g_bind h
                refine m_iast rfl qμ14 dX12_write_104 ?_
                refine g_ic1 dX12_write_105 ?_
                obtain rfl := Option.some.inj h
                exact g_iret rfl (Nat.le_refl _) rfl dX12_write_106 ⟨rfl, rfl⟩
              · have h := g_ifp c13 h
                refine g_ic0 dX12_write_95 ?_
                refine g_goto 104 (by decide) dX12_write_96 ?_
                obtain ⟨μ15, qμ15, h⟩ := g_bind h
                refine m_iast rfl qμ15 dX12_write_104 ?_
                refine g_ic1 dX12_write_105 ?_
                obtain rfl := Option.some.inj h
                exact g_iret rfl (Nat.le_refl _) rfl dX12_write_106 ⟨rfl, rfl⟩
          · have h := g_ifp c9 h
            refine g_iload_n dX12_write_76 rfl ?_
            refine g_i2s dX12_write_77 ?_
            refine g_goto 104 (by decide) dX12_write_78 ?_
            obtain ⟨μ16, qμ16, h⟩ := g_bind h
            refine m_iast rfl qμ16 dX12_write_104 ?_
            refine g_ic1 dX12_write_105 ?_
            obtain rfl := Option.some.inj h
            exact g_iret rfl (Nat.le_refl _) rfl dX12_write_106 ⟨rfl, rfl⟩
        · have h := g_ifp c7 h
          refine g_iload_n dX12_write_61 rfl ?_
          refine g_i2b dX12_write_62 ?_
          refine g_goto 104 (by decide) dX12_write_63 ?_
          obtain ⟨μ17, qμ17, h⟩ := g_bind h
          refine m_iast rfl qμ17 dX12_write_104 ?_
          refine g_ic1 dX12_write_105 ?_
          obtain rfl := Option.some.inj h
          exact g_iret rfl (Nat.le_refl _) rfl dX12_write_106 ⟨rfl, rfl⟩
      · have h := g_ifp c5 h
        refine g_bipush (v := (-12)) dX12_write_39 (by decide) ?_
        obtain rfl := Option.some.inj h
        exact g_iret rfl (Nat.le_refl _) rfl dX12_write_41 ⟨rfl, rfl⟩
    · have h := g_ifn c3 h
      refine g_bipush (v := (-11)) dX12_write_18 (by decide) ?_
      obtain rfl := Option.some.inj h
      exact g_iret rfl (Nat.le_refl _) rfl dX12_write_20 ⟨rfl, rfl⟩
  · have h := g_ifp c1 h
    refine g_icm1 dX12_write_7 ?_
    obtain rfl := Option.some.inj h
    exact g_iret rfl (Nat.le_refl _) rfl dX12_write_8 ⟨rfl, rfl⟩
set_option maxRecDepth 100000 in
set_option maxHeartbeats 4000000 in
theorem k_X12_lacks {D : va_G} {cA : Nat → ClassId} {b k : Nat} {a1 : Int32} {a2 : Int32} {μ : g_M} {z : Int32} (h : f_X12_lacks a1 a2 μ = some z) : g_K (g_XM D cA b) yX12_lacks Y_X12_lacks 1 0 0 k [.ref 0, .int a1, .int a2] (μ, g_rfM) (fun r1 σ1 => r1 = some (.int z) ∧ σ1 = (μ, g_rfM)) := by
  unfold f_X12_lacks at h
  refine g_met 0 (by decide) rfl rfl (Nat.le_of_ble_eq_true rfl) ?_
  refine g_aload_n dX12_lacks_0 rfl ?_
  refine m_getR fl_X12_43 rfl rfl rfl dX12_lacks_1 ?_
  refine g_iload_n dX12_lacks_4 rfl ?_
  obtain ⟨x1, qx1, h⟩ := g_bind h
  refine m_iald rfl qx1 dX12_lacks_5 ?_
  refine g_if_ge 14 (by decide) dX12_lacks_6 (fun c2 => ?_) (fun c2 => ?_)
  · have h := g_ifp c2 h
    refine g_aload_n dX12_lacks_14 rfl ?_
    refine m_getR fl_X12_43 rfl rfl rfl dX12_lacks_15 ?_
    refine g_iload_n dX12_lacks_18 rfl ?_
    obtain ⟨x3, qx3, h⟩ := g_bind h
    refine m_iald rfl qx3 dX12_lacks_19 ?_
    refine g_iload_n dX12_lacks_20 rfl ?_
    refine g_icmp_eq 29 (by decide) dX12_lacks_21 (fun c4 => ?_) (fun c4 => ?_)
    · have h := g_ifp c4 h
      refine g_ic0 dX12_lacks_29 ?_
      obtain rfl := Option.some.inj h
      exact g_iret rfl (Nat.le_refl _) rfl dX12_lacks_30 ⟨rfl, rfl⟩
    · have h := g_ifn c4 h
      refine g_bipush (v := (-13)) dX12_lacks_24 (by decide) ?_
      refine g_goto 30 (by decide) dX12_lacks_26 ?_
      obtain rfl := Option.some.inj h
      exact g_iret rfl (Nat.le_refl _) rfl dX12_lacks_30 ⟨rfl, rfl⟩
  · have h := g_ifn c2 h
    refine g_bipush (v := (-11)) dX12_lacks_9 (by decide) ?_
    refine g_goto 30 (by decide) dX12_lacks_11 ?_
    obtain rfl := Option.some.inj h
    exact g_iret rfl (Nat.le_refl _) rfl dX12_lacks_30 ⟨rfl, rfl⟩
set_option maxRecDepth 100000 in
set_option maxHeartbeats 4000000 in
theorem k_X12_item {D : va_G} {cA : Nat → ClassId} {b k : Nat} {a1 : Int32} {a2 : Int32} {a3 : Int32} {μ : g_M} {z : Int32} (h : f_X12_item a1 a2 a3 μ = some z) : g_K (g_XM D cA b) yX12_item Y_X12_item 3 0 0 k [.ref 0, .int a1, .int a2, .int a3] (μ, g_rfM) (fun r1 σ1 => r1 = some (.int z) ∧ σ1 = (μ, g_rfM)) := by
  unfold f_X12_item at h
  refine g_met 0 (by decide) rfl rfl (Nat.le_of_ble_eq_true rfl) ?_
  refine g_iload_n dX12_item_0 rfl ?_
  refine m_cS mt_X12_isSheet ml_X12_345 ms_X12_isSheet dX12_item_1 (k_X12_isSheet rfl) rfl rfl (by decide) ⟨Nat.le_refl _, Nat.le_refl _⟩ (Nat.le_of_ble_eq_true rfl) ?_
  refine g_if_eq 19 (by decide) dX12_item_4 (fun c1 => ?_) (fun c1 => ?_)
  · have h := g_ifp c1 h
    refine g_icm1 dX12_item_19 ?_
    obtain rfl := Option.some.inj h
    exact g_iret rfl (Nat.le_refl _) rfl dX12_item_20 ⟨rfl, rfl⟩
  · have h := g_ifn c1 h
    refine g_iload_n dX12_item_7 rfl ?_
    refine g_i2l dX12_item_8 ?_
    refine g_lc0 dX12_item_9 ?_
    refine g_ldc2 kc_X12_126 dX12_item_10 ?_
    refine m_cS mt_X12_isIn ml_X12_66 ms_X12_isIn dX12_item_13 (k_X12_isIn rfl) rfl rfl (by decide) ⟨Nat.le_refl _, Nat.le_refl _⟩ (Nat.le_of_ble_eq_true rfl) ?_
    refine g_if_ne 21 (by decide) dX12_item_16 (fun c2 => ?_) (fun c2 => ?_)
    · have h := g_ifn c2 h
      refine g_aload_n dX12_item_21 rfl ?_
      refine g_iload_n dX12_item_22 rfl ?_
      refine g_iload_n dX12_item_23 rfl ?_
      obtain ⟨x3, q4, h⟩ := g_bind h
      refine m_cV mt_X12_lacks ml_X12_350 mv_X12_lacks dX12_item_24 (k_X12_lacks q4) rfl rfl rfl rfl (by decide) ⟨Nat.le_refl _, Nat.le_refl _⟩ (Nat.le_of_ble_eq_true rfl) ?_
      refine g_if_eq 37 (by decide) dX12_item_27 (fun c5 => ?_) (fun c5 => ?_)
      · have h := g_ifp c5 h
        refine g_iload_n dX12_item_37 rfl ?_
        refine g_i2l dX12_item_38 ?_
        refine g_lc0 dX12_item_39 ?_
        refine g_aload_n dX12_item_40 rfl ?_
        refine m_getR fl_X12_46 rfl rfl rfl dX12_item_41 ?_
        refine g_iload_n dX12_item_44 rfl ?_
        obtain ⟨x6, qx6, h⟩ := g_bind h
        refine m_iald rfl qx6 dX12_item_45 ?_
        refine g_ic1 dX12_item_46 ?_
        refine g_isub dX12_item_47 ?_
        refine g_i2l dX12_item_48 ?_
        refine m_cS mt_X12_isIn ml_X12_66 ms_X12_isIn dX12_item_49 (k_X12_isIn rfl) rfl rfl (by decide) ⟨Nat.le_refl _, Nat.le_refl _⟩ (Nat.le_of_ble_eq_true rfl) ?_
        refine g_if_eq 69 (by decide) dX12_item_52 (fun c7 => ?_) (fun c7 => ?_)
        · have h := g_ifp c7 h
          refine g_bipush (v := (-12)) dX12_item_69 (by decide) ?_
          obtain rfl := Option.some.inj h
          exact g_iret rfl (Nat.le_refl _) rfl dX12_item_71 ⟨rfl, rfl⟩
        · have h := g_ifn c7 h
          refine g_aload_n dX12_item_55 rfl ?_
          refine m_getR fl_X12_49 rfl rfl rfl dX12_item_56 ?_
          refine g_bipush (v := 40) dX12_item_59 (by decide) ?_
          refine g_iload_n dX12_item_61 rfl ?_
          refine g_imul dX12_item_62 ?_
          refine g_iload_n dX12_item_63 rfl ?_
          refine g_iadd dX12_item_64 ?_
          obtain ⟨x8, qx8, h⟩ := g_bind h
          refine m_iald rfl qx8 dX12_item_65 ?_
          refine g_goto 71 (by decide) dX12_item_66 ?_
          obtain rfl := Option.some.inj h
          exact g_iret rfl (Nat.le_refl _) rfl dX12_item_71 ⟨rfl, rfl⟩
      · have h := g_ifn c5 h
        refine g_aload_n dX12_item_30 rfl ?_
        refine g_iload_n dX12_item_31 rfl ?_
        refine g_iload_n dX12_item_32 rfl ?_
        obtain ⟨x9, q10, h⟩ := g_bind h
        refine m_cV mt_X12_lacks ml_X12_350 mv_X12_lacks dX12_item_33 (k_X12_lacks q10) rfl rfl rfl rfl (by decide) ⟨Nat.le_refl _, Nat.le_refl _⟩ (Nat.le_of_ble_eq_true rfl) ?_
        obtain rfl := Option.some.inj h
        exact g_iret rfl (Nat.le_refl _) rfl dX12_item_36 ⟨rfl, rfl⟩
    · have h := g_ifp c2 h
      refine g_icm1 dX12_item_19 ?_
      obtain rfl := Option.some.inj h
      exact g_iret rfl (Nat.le_refl _) rfl dX12_item_20 ⟨rfl, rfl⟩
set_option maxRecDepth 100000 in
set_option maxHeartbeats 4000000 in
theorem k_X12_goAll_L43 {D : va_G} {cA : Nat → ClassId} {b k : Nat} {Q : Option Value → g_S → Prop} {N : Nat} : ∀ (n : Nat) (x_1 : Int32) (x_2 : Int32) (x_3 : Int32) (x_4 : Int32) (x_5 : Int32) (μ : g_M) (z : (Int32 × g_M) ⊕ (Int32 × g_M)), f_X12_goAll_L43 N n x_1 x_2 x_3 x_4 x_5 μ = some z → (∀ q : Int32 × g_M, z = .inl q → Q (some (.int q.1)) (q.2, g_rfM)) → (∀ (z_4 : Int32) (z_μ : g_M), z = .inr (z_4, z_μ) → g_V (g_XM D cA b) Y_X12_goAll 8 0 0 Q k 0 0 127 [none, none, none, none, some (.int z_4), none, none] [] (z_μ, g_rfM)) → g_V (g_XM D cA b) Y_X12_goAll 8 0 0 Q k 0 0 43 [some (.ref 0), some (.int x_1), some (.int x_2), some (.int x_3), some (.int x_4), some (.int x_5), none] [] (μ, g_rfM) := by
  intro n
  induction n with
  | zero =>
    intro x_1 x_2 x_3 x_4 x_5 μ z h
    rw [f_X12_goAll_L43] at h
    cases h
  | succ n ih =>
    intro x_1 x_2 x_3 x_4 x_5 μ z h hr hc
    rw [f_X12_goAll_L43] at h
    refine g_iload dX12_goAll_43 rfl ?_
    refine g_iload_n dX12_goAll_45 rfl ?_
    refine g_icmp_ge 127 (by decide) dX12_goAll_46 (fun c6 => ?_) (fun c6 => ?_)
    · have h := g_ifp c6 h
      obtain rfl := Option.some.inj h
      exact g_less _ (g_subN (g_subN (g_subN (g_subN (g_subS (g_subN (g_subN g_sub0))))))) (hc _ _ rfl)
    · have h := g_ifn c6 h
      refine g_iload_n dX12_goAll_49 rfl ?_
      refine g_i2l dX12_goAll_50 ?_
      refine g_iload dX12_goAll_51 rfl ?_
      refine g_i2l dX12_goAll_53 ?_
      refine g_ladd dX12_goAll_54 ?_
      refine g_lc0 dX12_goAll_55 ?_
      refine g_aload_n dX12_goAll_56 rfl ?_
      refine m_getR fl_X12_46 rfl rfl rfl dX12_goAll_57 ?_
      refine g_iload_n dX12_goAll_60 rfl ?_
      obtain ⟨x7, qx7, h⟩ := g_bind h
      refine m_iald rfl qx7 dX12_goAll_61 ?_
      refine g_i2l dX12_goAll_62 ?_
      refine g_lc1 dX12_goAll_63 ?_
      refine g_lsub dX12_goAll_64 ?_
      refine m_cS mt_X12_isIn ml_X12_66 ms_X12_isIn dX12_goAll_65 (k_X12_isIn rfl) rfl rfl (by decide) ⟨Nat.le_refl _, Nat.le_refl _⟩ (Nat.le_of_ble_eq_true rfl) ?_
      refine g_if_ne 74 (by decide) dX12_goAll_68 (fun c8 => ?_) (fun c8 => ?_)
      · have h := g_ifn c8 h
        refine g_aload_n dX12_goAll_74 rfl ?_
        refine m_getR fl_X12_49 rfl rfl rfl dX12_goAll_75 ?_
        refine g_bipush (v := 40) dX12_goAll_78 (by decide) ?_
        refine g_iload_n dX12_goAll_80 rfl ?_
        refine g_imul dX12_goAll_81 ?_
        refine g_iload_n dX12_goAll_82 rfl ?_
        refine g_iadd dX12_goAll_83 ?_
        refine g_iload dX12_goAll_84 rfl ?_
        refine g_iadd dX12_goAll_86 ?_
        obtain ⟨x9, qx9, h⟩ := g_bind h
        refine m_iald rfl qx9 dX12_goAll_87 ?_
        refine g_istore_6 rfl (Nat.le_of_ble_eq_true rfl) dX12_goAll_88 ?_
        refine g_iload dX12_goAll_90 rfl ?_
        refine g_aload_n dX12_goAll_92 rfl ?_
        refine g_iload dX12_goAll_93 rfl ?_
        refine m_cV mt_X12_isAct ml_X12_342 mv_X12_isAct dX12_goAll_95 (k_X12_isAct rfl) rfl rfl rfl rfl (by decide) ⟨Nat.le_refl _, Nat.le_refl _⟩ (Nat.le_of_ble_eq_true rfl) ?_
        refine g_if_eq 117 (by decide) dX12_goAll_98 (fun c10 => ?_) (fun c10 => ?_)
        · have h := g_ifp c10 h
          refine g_ic0 dX12_goAll_117 ?_
          refine g_iadd dX12_goAll_118 ?_
          obtain ⟨x11, ex11, h⟩ := g_let h
          refine g_top ex11 ?_
          refine g_istore_4 rfl (Nat.le_of_ble_eq_true rfl) dX12_goAll_119 ?_
          refine g_iinc_5 (v := 1) rfl (by decide) (Nat.le_of_ble_eq_true rfl) dX12_goAll_121 ?_
          refine g_goto 43 (by decide) dX12_goAll_124 ?_
          exact g_less _ (g_subS (g_subS (g_subS (g_subS (g_subS (g_subS (g_subN g_sub0))))))) (ih _ _ _ _ _ _ _ h hr hc)
        · have h := g_ifn c10 h
          refine g_aload_n dX12_goAll_101 rfl ?_
          refine m_cV mt_X12_isOver ml_X12_133 mv_X12_isOver dX12_goAll_102 (k_X12_isOver rfl) rfl rfl rfl rfl (by decide) ⟨Nat.le_refl _, Nat.le_refl _⟩ (Nat.le_of_ble_eq_true rfl) ?_
          refine g_if_ne 117 (by decide) dX12_goAll_105 (fun c12 => ?_) (fun c12 => ?_)
          · have h := g_ifn c12 h
            refine g_ic0 dX12_goAll_117 ?_
            refine g_iadd dX12_goAll_118 ?_
            obtain ⟨x13, ex13, h⟩ := g_let h
            refine g_top ex13 ?_
            refine g_istore_4 rfl (Nat.le_of_ble_eq_true rfl) dX12_goAll_119 ?_
            refine g_iinc_5 (v := 1) rfl (by decide) (Nat.le_of_ble_eq_true rfl) dX12_goAll_121 ?_
            refine g_goto 43 (by decide) dX12_goAll_124 ?_
            exact g_less _ (g_subS (g_subS (g_subS (g_subS (g_subS (g_subS (g_subN g_sub0))))))) (ih _ _ _ _ _ _ _ h hr hc)
          · have h := g_ifp c12 h
            refine g_aload_n dX12_goAll_108 rfl ?_
            refine g_iload dX12_goAll_109 rfl ?_
            obtain ⟨⟨x14, μ16⟩, q15, h⟩ := g_bind h
            refine m_cV mt_X12_goesWith ml_X12_287 mv_X12_goesWith dX12_goAll_111 (k_X12_goesWith q15) rfl rfl rfl rfl (by decide) ⟨Nat.le_refl _, Nat.le_refl _⟩ (Nat.le_of_ble_eq_true rfl) ?_
            refine g_goto 118 (by decide) dX12_goAll_114 ?_
            refine g_iadd dX12_goAll_118 ?_
            obtain ⟨x17, ex17, h⟩ := g_let h
            refine g_top ex17 ?_
            refine g_istore_4 rfl (Nat.le_of_ble_eq_true rfl) dX12_goAll_119 ?_
            refine g_iinc_5 (v := 1) rfl (by decide) (Nat.le_of_ble_eq_true rfl) dX12_goAll_121 ?_
            refine g_goto 43 (by decide) dX12_goAll_124 ?_
            exact g_less _ (g_subS (g_subS (g_subS (g_subS (g_subS (g_subS (g_subN g_sub0))))))) (ih _ _ _ _ _ _ _ h hr hc)
      · have h := g_ifp c8 h
        refine g_bipush (v := (-12)) dX12_goAll_71 (by decide) ?_
        obtain rfl := Option.some.inj h
        exact g_iret rfl (Nat.le_refl _) rfl dX12_goAll_73 (hr _ rfl)
set_option maxRecDepth 100000 in
set_option maxHeartbeats 4000000 in
theorem k_X12_goAll {D : va_G} {cA : Nat → ClassId} {b k : Nat} {N : Nat} {a1 : Int32} {a2 : Int32} {a3 : Int32} {μ : g_M} {z : Int32 × g_M} (h : f_X12_goAll N a1 a2 a3 μ = some z) : g_K (g_XM D cA b) yX12_goAll Y_X12_goAll 8 0 0 k [.ref 0, .int a1, .int a2, .int a3] (μ, g_rfM) (fun r1 σ1 => r1 = some (.int z.1) ∧ σ1 = (z.2, g_rfM)) := by
  unfold f_X12_goAll at h
  refine g_met 3 (by decide) rfl rfl (Nat.le_of_ble_eq_true rfl) ?_
  refine g_iload_n dX12_goAll_0 rfl ?_
  refine m_cS mt_X12_isSheet ml_X12_345 ms_X12_isSheet dX12_goAll_1 (k_X12_isSheet rfl) rfl rfl (by decide) ⟨Nat.le_refl _, Nat.le_refl _⟩ (Nat.le_of_ble_eq_true rfl) ?_
  refine g_if_eq 19 (by decide) dX12_goAll_4 (fun c1 => ?_) (fun c1 => ?_)
  · have h := g_ifp c1 h
    refine g_icm1 dX12_goAll_19 ?_
    obtain rfl := Option.some.inj h
    exact g_iret rfl (Nat.le_refl _) rfl dX12_goAll_20 ⟨rfl, rfl⟩
  · have h := g_ifn c1 h
    refine g_iload_n dX12_goAll_7 rfl ?_
    refine g_i2l dX12_goAll_8 ?_
    refine g_lc0 dX12_goAll_9 ?_
    refine g_ldc2 kc_X12_313 dX12_goAll_10 ?_
    refine m_cS mt_X12_isIn ml_X12_66 ms_X12_isIn dX12_goAll_13 (k_X12_isIn rfl) rfl rfl (by decide) ⟨Nat.le_refl _, Nat.le_refl _⟩ (Nat.le_of_ble_eq_true rfl) ?_
    refine g_if_ne 21 (by decide) dX12_goAll_16 (fun c2 => ?_) (fun c2 => ?_)
    · have h := g_ifn c2 h
      refine g_aload_n dX12_goAll_21 rfl ?_
      refine g_iload_n dX12_goAll_22 rfl ?_
      refine g_ic0 dX12_goAll_23 ?_
      obtain ⟨x3, q4, h⟩ := g_bind h
      refine m_cV mt_X12_lacks ml_X12_350 mv_X12_lacks dX12_goAll_24 (k_X12_lacks q4) rfl rfl rfl rfl (by decide) ⟨Nat.le_refl _, Nat.le_refl _⟩ (Nat.le_of_ble_eq_true rfl) ?_
      refine g_if_eq 37 (by decide) dX12_goAll_27 (fun c5 => ?_) (fun c5 => ?_)
      · have h := g_ifp c5 h
        refine g_ic0 dX12_goAll_37 ?_
        refine g_istore_4 rfl (Nat.le_of_ble_eq_true rfl) dX12_goAll_38 ?_
        refine g_ic0 dX12_goAll_40 ?_
        refine g_istore_5 rfl (Nat.le_of_ble_eq_true rfl) dX12_goAll_41 ?_
        obtain ⟨w9, q8, h⟩ := g_bind h
        refine g_less _ (g_subS (g_subS (g_subS (g_subS (g_subS (g_subS (g_subN g_sub0))))))) (k_X12_goAll_L43 _ _ _ _ _ _ _ _ q8 ?_ ?_)
        · intro q0 e0
          subst e0
          cases h
          exact ⟨rfl, rfl⟩
        · intro x6 μ7 e0
          subst e0
          try dsimp only at h
          refine g_iload dX12_goAll_127 rfl ?_
          obtain rfl := Option.some.inj h
          exact g_iret rfl (Nat.le_refl _) rfl dX12_goAll_129 ⟨rfl, rfl⟩
      · have h := g_ifn c5 h
        refine g_aload_n dX12_goAll_30 rfl ?_
        refine g_iload_n dX12_goAll_31 rfl ?_
        refine g_ic0 dX12_goAll_32 ?_
        obtain ⟨x10, q11, h⟩ := g_bind h
        refine m_cV mt_X12_lacks ml_X12_350 mv_X12_lacks dX12_goAll_33 (k_X12_lacks q11) rfl rfl rfl rfl (by decide) ⟨Nat.le_refl _, Nat.le_refl _⟩ (Nat.le_of_ble_eq_true rfl) ?_
        obtain rfl := Option.some.inj h
        exact g_iret rfl (Nat.le_refl _) rfl dX12_goAll_36 ⟨rfl, rfl⟩
    · have h := g_ifp c2 h
      refine g_icm1 dX12_goAll_19 ?_
      obtain rfl := Option.some.inj h
      exact g_iret rfl (Nat.le_refl _) rfl dX12_goAll_20 ⟨rfl, rfl⟩
set_option maxRecDepth 100000 in
set_option maxHeartbeats 4000000 in
theorem k_X12_sumBy_L6 {D : va_G} {cA : Nat → ClassId} {b k : Nat} {Q : Option Value → g_S → Prop} {N : Nat} : ∀ (n : Nat) (x_1 : Int32) (x_2 : Int32) (x_3 : Int32) (x_4 : Int32) (x_5 : Int32) (μ : g_M) (z : (Int32 × g_M) ⊕ (Int32 × g_M)), f_X12_sumBy_L6 N n x_1 x_2 x_3 x_4 x_5 μ = some z → (∀ q : Int32 × g_M, z = .inl q → Q (some (.int q.1)) (q.2, g_rfM)) → (∀ (z_4 : Int32) (z_μ : g_M), z = .inr (z_4, z_μ) → g_V (g_XM D cA b) Y_X12_sumBy 8 0 0 Q k 0 0 89 [none, none, none, none, some (.int z_4), none, none] [] (z_μ, g_rfM)) → g_V (g_XM D cA b) Y_X12_sumBy 8 0 0 Q k 0 0 6 [some (.ref 0), some (.int x_1), some (.int x_2), some (.int x_3), some (.int x_4), some (.int x_5), none] [] (μ, g_rfM) := by
  intro n
  induction n with
  | zero =>
    intro x_1 x_2 x_3 x_4 x_5 μ z h
    rw [f_X12_sumBy_L6] at h
    cases h
  | succ n ih =>
    intro x_1 x_2 x_3 x_4 x_5 μ z h hr hc
    rw [f_X12_sumBy_L6] at h
    refine g_iload dX12_sumBy_6 rfl ?_
    refine g_iload_n dX12_sumBy_8 rfl ?_
    refine g_icmp_ge 89 (by decide) dX12_sumBy_9 (fun c1 => ?_) (fun c1 => ?_)
    · have h := g_ifp c1 h
      obtain rfl := Option.some.inj h
      exact g_less _ (g_subN (g_subN (g_subN (g_subN (g_subS (g_subN (g_subN g_sub0))))))) (hc _ _ rfl)
    · have h := g_ifn c1 h
      refine g_iload_n dX12_sumBy_12 rfl ?_
      refine g_i2l dX12_sumBy_13 ?_
      refine g_iload dX12_sumBy_14 rfl ?_
      refine g_i2l dX12_sumBy_16 ?_
      refine g_ladd dX12_sumBy_17 ?_
      refine g_lc0 dX12_sumBy_18 ?_
      refine g_aload_n dX12_sumBy_19 rfl ?_
      refine m_getR fl_X12_46 rfl rfl rfl dX12_sumBy_20 ?_
      refine g_iload_n dX12_sumBy_23 rfl ?_
      obtain ⟨x2, qx2, h⟩ := g_bind h
      refine m_iald rfl qx2 dX12_sumBy_24 ?_
      refine g_i2l dX12_sumBy_25 ?_
      refine g_lc1 dX12_sumBy_26 ?_
      refine g_lsub dX12_sumBy_27 ?_
      refine m_cS mt_X12_isIn ml_X12_66 ms_X12_isIn dX12_sumBy_28 (k_X12_isIn rfl) rfl rfl (by decide) ⟨Nat.le_refl _, Nat.le_refl _⟩ (Nat.le_of_ble_eq_true rfl) ?_
      refine g_if_ne 37 (by decide) dX12_sumBy_31 (fun c3 => ?_) (fun c3 => ?_)
      · have h := g_ifn c3 h
        refine g_aload_n dX12_sumBy_37 rfl ?_
        refine m_getR fl_X12_49 rfl rfl rfl dX12_sumBy_38 ?_
        refine g_bipush (v := 40) dX12_sumBy_41 (by decide) ?_
        refine g_iload_n dX12_sumBy_43 rfl ?_
        refine g_imul dX12_sumBy_44 ?_
        refine g_iload_n dX12_sumBy_45 rfl ?_
        refine g_iadd dX12_sumBy_46 ?_
        refine g_iload dX12_sumBy_47 rfl ?_
        refine g_iadd dX12_sumBy_49 ?_
        obtain ⟨x4, qx4, h⟩ := g_bind h
        refine m_iald rfl qx4 dX12_sumBy_50 ?_
        refine g_istore_6 rfl (Nat.le_of_ble_eq_true rfl) dX12_sumBy_51 ?_
        refine g_aload_n dX12_sumBy_53 rfl ?_
        refine g_iload dX12_sumBy_54 rfl ?_
        refine m_cV mt_X12_isAct ml_X12_342 mv_X12_isAct dX12_sumBy_56 (k_X12_isAct rfl) rfl rfl rfl rfl (by decide) ⟨Nat.le_refl _, Nat.le_refl _⟩ (Nat.le_of_ble_eq_true rfl) ?_
        refine g_if_eq 69 (by decide) dX12_sumBy_59 (fun c5 => ?_) (fun c5 => ?_)
        · have h := g_ifp c5 h
          refine g_bipush (v := (-4)) dX12_sumBy_69 (by decide) ?_
          obtain rfl := Option.some.inj h
          exact g_iret rfl (Nat.le_refl _) rfl dX12_sumBy_71 (hr _ rfl)
        · have h := g_ifn c5 h
          refine g_aload_n dX12_sumBy_62 rfl ?_
          refine m_cV mt_X12_isOver ml_X12_133 mv_X12_isOver dX12_sumBy_63 (k_X12_isOver rfl) rfl rfl rfl rfl (by decide) ⟨Nat.le_refl _, Nat.le_refl _⟩ (Nat.le_of_ble_eq_true rfl) ?_
          refine g_if_eq 72 (by decide) dX12_sumBy_66 (fun c6 => ?_) (fun c6 => ?_)
          · have h := g_ifp c6 h
            refine g_iload dX12_sumBy_72 rfl ?_
            refine g_aload_n dX12_sumBy_74 rfl ?_
            refine g_iload dX12_sumBy_75 rfl ?_
            obtain ⟨⟨x7, μ9⟩, q8, h⟩ := g_bind h
            refine m_cV mt_X12_goesWith ml_X12_287 mv_X12_goesWith dX12_sumBy_77 (k_X12_goesWith q8) rfl rfl rfl rfl (by decide) ⟨Nat.le_refl _, Nat.le_refl _⟩ (Nat.le_of_ble_eq_true rfl) ?_
            refine g_iadd dX12_sumBy_80 ?_
            obtain ⟨x10, ex10, h⟩ := g_let h
            refine g_top ex10 ?_
            refine g_istore_4 rfl (Nat.le_of_ble_eq_true rfl) dX12_sumBy_81 ?_
            refine g_iinc_5 (v := 1) rfl (by decide) (Nat.le_of_ble_eq_true rfl) dX12_sumBy_83 ?_
            refine g_goto 6 (by decide) dX12_sumBy_86 ?_
            exact g_less _ (g_subS (g_subS (g_subS (g_subS (g_subS (g_subS (g_subN g_sub0))))))) (ih _ _ _ _ _ _ _ h hr hc)
          · have h := g_ifn c6 h
            refine g_bipush (v := (-4)) dX12_sumBy_69 (by decide) ?_
            obtain rfl := Option.some.inj h
            exact g_iret rfl (Nat.le_refl _) rfl dX12_sumBy_71 (hr _ rfl)
      · have h := g_ifp c3 h
        refine g_bipush (v := (-12)) dX12_sumBy_34 (by decide) ?_
        obtain rfl := Option.some.inj h
        exact g_iret rfl (Nat.le_refl _) rfl dX12_sumBy_36 (hr _ rfl)
set_option maxRecDepth 100000 in
set_option maxHeartbeats 4000000 in
theorem k_X12_sumBy {D : va_G} {cA : Nat → ClassId} {b k : Nat} {N : Nat} {a1 : Int32} {a2 : Int32} {a3 : Int32} {μ : g_M} {z : Int32 × g_M} (h : f_X12_sumBy N a1 a2 a3 μ = some z) : g_K (g_XM D cA b) yX12_sumBy Y_X12_sumBy 8 0 0 k [.ref 0, .int a1, .int a2, .int a3] (μ, g_rfM) (fun r1 σ1 => r1 = some (.int z.1) ∧ σ1 = (z.2, g_rfM)) := by
  unfold f_X12_sumBy at h
  refine g_met 3 (by decide) rfl rfl (Nat.le_of_ble_eq_true rfl) ?_
  refine g_ic0 dX12_sumBy_0 ?_
  refine g_istore_4 rfl (Nat.le_of_ble_eq_true rfl) dX12_sumBy_1 ?_
  refine g_ic0 dX12_sumBy_3 ?_
  refine g_istore_5 rfl (Nat.le_of_ble_eq_true rfl) dX12_sumBy_4 ?_
  obtain ⟨w4, q3, h⟩ := g_bind h
  refine g_less _ (g_subS (g_subS (g_subS (g_subS (g_subS (g_subS (g_subN g_sub0))))))) (k_X12_sumBy_L6 _ _ _ _ _ _ _ _ q3 ?_ ?_)
  · intro q0 e0
    subst e0
    cases h
    exact ⟨rfl, rfl⟩
  · intro x1 μ2 e0
    subst e0
    try dsimp only at h
    refine g_iload dX12_sumBy_89 rfl ?_
    obtain rfl := Option.some.inj h
    exact g_iret rfl (Nat.le_refl _) rfl dX12_sumBy_91 ⟨rfl, rfl⟩
set_option maxRecDepth 100000 in
set_option maxHeartbeats 4000000 in
theorem k_X12_wouldBe {D : va_G} {cA : Nat → ClassId} {b k : Nat} {N : Nat} {a1 : Int32} {a2 : Int32} {a3 : Int32} {μ : g_M} {z : Int32 × g_M} (h : f_X12_wouldBe N a1 a2 a3 μ = some z) : g_K (g_XM D cA b) yX12_wouldBe Y_X12_wouldBe 9 0 0 k [.ref 0, .int a1, .int a2, .int a3] (μ, g_rfM) (fun r1 σ1 => r1 = some (.int z.1) ∧ σ1 = (z.2, g_rfM)) := by
  unfold f_X12_wouldBe at h
  refine g_met 1 (by decide) rfl rfl (Nat.le_of_ble_eq_true rfl) ?_
  refine g_iload_n dX12_wouldBe_0 rfl ?_
  refine m_cS mt_X12_isSheet ml_X12_345 ms_X12_isSheet dX12_wouldBe_1 (k_X12_isSheet rfl) rfl rfl (by decide) ⟨Nat.le_refl _, Nat.le_refl _⟩ (Nat.le_of_ble_eq_true rfl) ?_
  refine g_if_eq 19 (by decide) dX12_wouldBe_4 (fun c1 => ?_) (fun c1 => ?_)
  · have h := g_ifp c1 h
    refine g_icm1 dX12_wouldBe_19 ?_
    obtain rfl := Option.some.inj h
    exact g_iret rfl (Nat.le_refl _) rfl dX12_wouldBe_20 ⟨rfl, rfl⟩
  · have h := g_ifn c1 h
    refine g_iload_n dX12_wouldBe_7 rfl ?_
    refine g_i2l dX12_wouldBe_8 ?_
    refine g_lc0 dX12_wouldBe_9 ?_
    refine g_ldc2 kc_X12_313 dX12_wouldBe_10 ?_
    refine m_cS mt_X12_isIn ml_X12_66 ms_X12_isIn dX12_wouldBe_13 (k_X12_isIn rfl) rfl rfl (by decide) ⟨Nat.le_refl _, Nat.le_refl _⟩ (Nat.le_of_ble_eq_true rfl) ?_
    refine g_if_ne 21 (by decide) dX12_wouldBe_16 (fun c2 => ?_) (fun c2 => ?_)
    · have h := g_ifn c2 h
      refine g_aload_n dX12_wouldBe_21 rfl ?_
      refine g_iload_n dX12_wouldBe_22 rfl ?_
      refine g_ic0 dX12_wouldBe_23 ?_
      obtain ⟨x3, q4, h⟩ := g_bind h
      refine m_cV mt_X12_lacks ml_X12_350 mv_X12_lacks dX12_wouldBe_24 (k_X12_lacks q4) rfl rfl rfl rfl (by decide) ⟨Nat.le_refl _, Nat.le_refl _⟩ (Nat.le_of_ble_eq_true rfl) ?_
      refine g_if_eq 37 (by decide) dX12_wouldBe_27 (fun c5 => ?_) (fun c5 => ?_)
      · have h := g_ifp c5 h
        refine g_aload_n dX12_wouldBe_37 rfl ?_
        refine g_ic0 dX12_wouldBe_38 ?_
        obtain ⟨μ8, q7, h⟩ := g_bind h
        refine m_cVv mt_X12_laysAside ml_X12_234 mv_X12_laysAside dX12_wouldBe_39 (k_X12_laysAside q7) rfl rfl rfl rfl (by decide) ⟨Nat.le_refl _, Nat.le_refl _⟩ (Nat.le_of_ble_eq_true rfl) ?_
        refine g_aload_n dX12_wouldBe_42 rfl ?_
        refine g_iload_n dX12_wouldBe_43 rfl ?_
        refine g_iload_n dX12_wouldBe_44 rfl ?_
        refine g_iload_n dX12_wouldBe_45 rfl ?_
        obtain ⟨⟨x9, μ11⟩, q10, h⟩ := g_bind h
        refine m_cV mt_X12_sumBy ml_X12_353 mv_X12_sumBy dX12_wouldBe_46 (k_X12_sumBy q10) rfl rfl rfl rfl (by decide) ⟨Nat.le_refl _, Nat.le_refl _⟩ (Nat.le_of_ble_eq_true rfl) ?_
        refine g_istore_4 rfl (Nat.le_of_ble_eq_true rfl) dX12_wouldBe_49 ?_
        refine g_aload_n dX12_wouldBe_51 rfl ?_
        refine g_ic0 dX12_wouldBe_52 ?_
        obtain ⟨μ14, q13, h⟩ := g_bind h
        refine m_cVv mt_X12_laysBack ml_X12_237 mv_X12_laysBack dX12_wouldBe_53 (k_X12_laysBack q13) rfl rfl rfl rfl (by decide) ⟨Nat.le_refl _, Nat.le_refl _⟩ (Nat.le_of_ble_eq_true rfl) ?_
        refine g_iload dX12_wouldBe_56 rfl ?_
        obtain rfl := Option.some.inj h
        exact g_iret rfl (Nat.le_refl _) rfl dX12_wouldBe_58 ⟨rfl, rfl⟩
      · have h := g_ifn c5 h
        refine g_aload_n dX12_wouldBe_30 rfl ?_
        refine g_iload_n dX12_wouldBe_31 rfl ?_
        refine g_ic0 dX12_wouldBe_32 ?_
        obtain ⟨x15, q16, h⟩ := g_bind h
        refine m_cV mt_X12_lacks ml_X12_350 mv_X12_lacks dX12_wouldBe_33 (k_X12_lacks q16) rfl rfl rfl rfl (by decide) ⟨Nat.le_refl _, Nat.le_refl _⟩ (Nat.le_of_ble_eq_true rfl) ?_
        obtain rfl := Option.some.inj h
        exact g_iret rfl (Nat.le_refl _) rfl dX12_wouldBe_36 ⟨rfl, rfl⟩
    · have h := g_ifp c2 h
      refine g_icm1 dX12_wouldBe_19 ?_
      obtain rfl := Option.some.inj h
      exact g_iret rfl (Nat.le_refl _) rfl dX12_wouldBe_20 ⟨rfl, rfl⟩
set_option maxRecDepth 100000 in
set_option maxHeartbeats 4000000 in
theorem k_X12_shelf {D : va_G} {cA : Nat → ClassId} {b k : Nat} {a1 : Int32} {a2 : Int32} {a3 : Int32} {μ : g_M} {z : Int32 × g_M} (h : f_X12_shelf a1 a2 a3 μ = some z) : g_K (g_XM D cA b) yX12_shelf Y_X12_shelf 3 0 0 k [.ref 0, .int a1, .int a2, .int a3] (μ, g_rfM) (fun r1 σ1 => r1 = some (.int z.1) ∧ σ1 = (z.2, g_rfM)) := by
  unfold f_X12_shelf at h
  refine g_met 1 (by decide) rfl rfl (Nat.le_of_ble_eq_true rfl) ?_
  refine g_iload_n dX12_shelf_0 rfl ?_
  refine m_cS mt_X12_isShelf ml_X12_356 ms_X12_isShelf dX12_shelf_1 (k_X12_isShelf rfl) rfl rfl (by decide) ⟨Nat.le_refl _, Nat.le_refl _⟩ (Nat.le_of_ble_eq_true rfl) ?_
  refine g_if_eq 43 (by decide) dX12_shelf_4 (fun c1 => ?_) (fun c1 => ?_)
  · have h := g_ifp c1 h
    refine g_icm1 dX12_shelf_43 ?_
    obtain rfl := Option.some.inj h
    exact g_iret rfl (Nat.le_refl _) rfl dX12_shelf_44 ⟨rfl, rfl⟩
  · have h := g_ifn c1 h
    refine g_iload_n dX12_shelf_7 rfl ?_
    refine g_i2l dX12_shelf_8 ?_
    refine g_lc0 dX12_shelf_9 ?_
    refine g_ldc2 kc_X12_88 dX12_shelf_10 ?_
    refine m_cS mt_X12_isIn ml_X12_66 ms_X12_isIn dX12_shelf_13 (k_X12_isIn rfl) rfl rfl (by decide) ⟨Nat.le_refl _, Nat.le_refl _⟩ (Nat.le_of_ble_eq_true rfl) ?_
    refine g_if_eq 43 (by decide) dX12_shelf_16 (fun c2 => ?_) (fun c2 => ?_)
    · have h := g_ifp c2 h
      refine g_icm1 dX12_shelf_43 ?_
      obtain rfl := Option.some.inj h
      exact g_iret rfl (Nat.le_refl _) rfl dX12_shelf_44 ⟨rfl, rfl⟩
    · have h := g_ifn c2 h
      refine g_iload_n dX12_shelf_19 rfl ?_
      refine g_if_ne 31 (by decide) dX12_shelf_20 (fun c3 => ?_) (fun c3 => ?_)
      · have h := g_ifn c3 h
        refine g_iload_n dX12_shelf_31 rfl ?_
        refine g_ic1 dX12_shelf_32 ?_
        refine g_icmp_ne 45 (by decide) dX12_shelf_33 (fun c4 => ?_) (fun c4 => ?_)
        · have h := g_ifn c4 h
          refine g_iload_n dX12_shelf_45 rfl ?_
          refine g_ic1 dX12_shelf_46 ?_
          refine g_icmp_ne 63 (by decide) dX12_shelf_47 (fun c9 => ?_) (fun cd => absurd cd c4)
          refine g_ic0 dX12_shelf_63 ?_
          refine g_istore_4 rfl (Nat.le_of_ble_eq_true rfl) dX12_shelf_64 ?_
          refine g_aload_n dX12_shelf_66 rfl ?_
          refine m_getR fl_X12_52 rfl rfl rfl dX12_shelf_67 ?_
          refine g_iload_n dX12_shelf_70 rfl ?_
          refine g_iload_n dX12_shelf_71 rfl ?_
          refine g_if_ne 79 (by decide) dX12_shelf_72 (fun c9 => ?_) (fun cd => absurd cd c3)
          refine g_iload dX12_shelf_79 rfl ?_
          refine g_if_eq 88 (by decide) dX12_shelf_81 (fun c9 => ?_) (fun cd => absurd (by decide) cd)
          refine g_ic0 dX12_shelf_88 ?_
          obtain ⟨μ5, qμ5, h⟩ := g_bind h
          refine m_iast rfl qμ5 dX12_shelf_89 ?_
          refine g_aload_n dX12_shelf_90 rfl ?_
          refine m_getR fl_X12_55 rfl rfl rfl dX12_shelf_91 ?_
          refine g_iload_n dX12_shelf_94 rfl ?_
          refine g_iload_n dX12_shelf_95 rfl ?_
          refine g_if_ne 103 (by decide) dX12_shelf_96 (fun c9 => ?_) (fun cd => absurd cd c3)
          refine g_iload dX12_shelf_103 rfl ?_
          refine g_if_eq 117 (by decide) dX12_shelf_105 (fun c9 => ?_) (fun cd => absurd (by decide) cd)
          refine g_ic0 dX12_shelf_117 ?_
          obtain ⟨μ6, qμ6, h⟩ := g_bind h
          refine m_iast rfl qμ6 dX12_shelf_118 ?_
          refine g_aload_n dX12_shelf_119 rfl ?_
          refine m_getR fl_X12_58 rfl rfl rfl dX12_shelf_120 ?_
          refine g_iload_n dX12_shelf_123 rfl ?_
          refine g_iload dX12_shelf_124 rfl ?_
          refine g_if_eq 138 (by decide) dX12_shelf_126 (fun c9 => ?_) (fun cd => absurd (by decide) cd)
          refine g_ic0 dX12_shelf_138 ?_
          obtain ⟨μ7, qμ7, h⟩ := g_bind h
          refine m_iast rfl qμ7 dX12_shelf_139 ?_
          refine g_ic1 dX12_shelf_140 ?_
          obtain rfl := Option.some.inj h
          exact g_iret rfl (Nat.le_refl _) rfl dX12_shelf_141 ⟨rfl, rfl⟩
        · have h := g_ifp c4 h
          refine g_iload_n dX12_shelf_36 rfl ?_
          refine m_cS mt_X12_isSheet ml_X12_345 ms_X12_isSheet dX12_shelf_37 (k_X12_isSheet rfl) rfl rfl (by decide) ⟨Nat.le_refl _, Nat.le_refl _⟩ (Nat.le_of_ble_eq_true rfl) ?_
          refine g_if_ne 45 (by decide) dX12_shelf_40 (fun c8 => ?_) (fun c8 => ?_)
          · have h := g_ifn c8 h
            refine g_iload_n dX12_shelf_45 rfl ?_
            refine g_ic1 dX12_shelf_46 ?_
            refine g_icmp_ne 63 (by decide) dX12_shelf_47 (fun cd => absurd c4 cd) (fun c9 => ?_)
            refine g_aload_n dX12_shelf_50 rfl ?_
            refine m_getR fl_X12_43 rfl rfl rfl dX12_shelf_51 ?_
            refine g_iload_n dX12_shelf_54 rfl ?_
            obtain ⟨x9, qx9, h⟩ := g_bind h
            refine m_iald rfl qx9 dX12_shelf_55 ?_
            refine g_if_lt 63 (by decide) dX12_shelf_56 (fun c10 => ?_) (fun c10 => ?_)
            · have h := g_ifp c10 h
              refine g_ic0 dX12_shelf_63 ?_
              refine g_istore_4 rfl (Nat.le_of_ble_eq_true rfl) dX12_shelf_64 ?_
              refine g_aload_n dX12_shelf_66 rfl ?_
              refine m_getR fl_X12_52 rfl rfl rfl dX12_shelf_67 ?_
              refine g_iload_n dX12_shelf_70 rfl ?_
              refine g_iload_n dX12_shelf_71 rfl ?_
              refine g_if_ne 79 (by decide) dX12_shelf_72 (fun c9 => ?_) (fun cd => absurd cd c3)
              refine g_iload dX12_shelf_79 rfl ?_
              refine g_if_eq 88 (by decide) dX12_shelf_81 (fun c9 => ?_) (fun cd => absurd (by decide) cd)
              refine g_ic0 dX12_shelf_88 ?_
              obtain ⟨μ11, qμ11, h⟩ := g_bind h
              refine m_iast rfl qμ11 dX12_shelf_89 ?_
              refine g_aload_n dX12_shelf_90 rfl ?_
              refine m_getR fl_X12_55 rfl rfl rfl dX12_shelf_91 ?_
              refine g_iload_n dX12_shelf_94 rfl ?_
              refine g_iload_n dX12_shelf_95 rfl ?_
              refine g_if_ne 103 (by decide) dX12_shelf_96 (fun c9 => ?_) (fun cd => absurd cd c3)
              refine g_iload dX12_shelf_103 rfl ?_
              refine g_if_eq 117 (by decide) dX12_shelf_105 (fun c9 => ?_) (fun cd => absurd (by decide) cd)
              refine g_ic0 dX12_shelf_117 ?_
              obtain ⟨μ12, qμ12, h⟩ := g_bind h
              refine m_iast rfl qμ12 dX12_shelf_118 ?_
              refine g_aload_n dX12_shelf_119 rfl ?_
              refine m_getR fl_X12_58 rfl rfl rfl dX12_shelf_120 ?_
              refine g_iload_n dX12_shelf_123 rfl ?_
              refine g_iload dX12_shelf_124 rfl ?_
              refine g_if_eq 138 (by decide) dX12_shelf_126 (fun c9 => ?_) (fun cd => absurd (by decide) cd)
              refine g_ic0 dX12_shelf_138 ?_
              obtain ⟨μ13, qμ13, h⟩ := g_bind h
              refine m_iast rfl qμ13 dX12_shelf_139 ?_
              refine g_ic1 dX12_shelf_140 ?_
              obtain rfl := Option.some.inj h
              exact g_iret rfl (Nat.le_refl _) rfl dX12_shelf_141 ⟨rfl, rfl⟩
            · have h := g_ifn c10 h
              refine g_ic1 dX12_shelf_59 ?_
              refine g_goto 64 (by decide) dX12_shelf_60 ?_
              refine g_istore_4 rfl (Nat.le_of_ble_eq_true rfl) dX12_shelf_64 ?_
              refine g_aload_n dX12_shelf_66 rfl ?_
              refine m_getR fl_X12_52 rfl rfl rfl dX12_shelf_67 ?_
              refine g_iload_n dX12_shelf_70 rfl ?_
              refine g_iload_n dX12_shelf_71 rfl ?_
              refine g_if_ne 79 (by decide) dX12_shelf_72 (fun c9 => ?_) (fun cd => absurd cd c3)
              refine g_iload dX12_shelf_79 rfl ?_
              refine g_if_eq 88 (by decide) dX12_shelf_81 (fun cd => absurd cd (by decide)) (fun c9 => ?_)
              refine g_ic2 dX12_shelf_84 ?_
              refine g_goto 89 (by decide) dX12_shelf_85 ?_
              obtain ⟨μ14, qμ14, h⟩ := g_bind h
              refine m_iast rfl qμ14 dX12_shelf_89 ?_
              refine g_aload_n dX12_shelf_90 rfl ?_
              refine m_getR fl_X12_55 rfl rfl rfl dX12_shelf_91 ?_
              refine g_iload_n dX12_shelf_94 rfl ?_
              refine g_iload_n dX12_shelf_95 rfl ?_
              refine g_if_ne 103 (by decide) dX12_shelf_96 (fun c9 => ?_) (fun cd => absurd cd c3)
              refine g_iload dX12_shelf_103 rfl ?_
              refine g_if_eq 117 (by decide) dX12_shelf_105 (fun cd => absurd cd (by decide)) (fun c9 => ?_)
              refine g_aload_n dX12_shelf_108 rfl ?_
              refine m_getR fl_X12_43 rfl rfl rfl dX12_shelf_109 ?_
              refine g_iload_n dX12_shelf_112 rfl ?_
              obtain ⟨x15, qx15, h⟩ := g_bind h
              refine m_iald rfl qx15 dX12_shelf_113 ?_
              refine g_goto 118 (by decide) dX12_shelf_114 ?_
              obtain ⟨μ16, qμ16, h⟩ := g_bind h
              refine m_iast rfl qμ16 dX12_shelf_118 ?_
              refine g_aload_n dX12_shelf_119 rfl ?_
              refine m_getR fl_X12_58 rfl rfl rfl dX12_shelf_120 ?_
              refine g_iload_n dX12_shelf_123 rfl ?_
              refine g_iload dX12_shelf_124 rfl ?_
              refine g_if_eq 138 (by decide) dX12_shelf_126 (fun cd => absurd cd (by decide)) (fun c9 => ?_)
              refine g_aload_n dX12_shelf_129 rfl ?_
              refine m_getR fl_X12_46 rfl rfl rfl dX12_shelf_130 ?_
              refine g_iload_n dX12_shelf_133 rfl ?_
              obtain ⟨x17, qx17, h⟩ := g_bind h
              refine m_iald rfl qx17 dX12_shelf_134 ?_
              refine g_goto 139 (by decide) dX12_shelf_135 ?_
              obtain ⟨μ18, qμ18, h⟩ := g_bind h
              refine m_iast rfl qμ18 dX12_shelf_139 ?_
              refine g_ic1 dX12_shelf_140 ?_
              obtain rfl := Option.some.inj h
              exact g_iret rfl (Nat.le_refl _) rfl dX12_shelf_141 ⟨rfl, rfl⟩
          · have h := g_ifp c8 h
            refine g_icm1 dX12_shelf_43 ?_
            obtain rfl := Option.some.inj h
            exact g_iret rfl (Nat.le_refl _) rfl dX12_shelf_44 ⟨rfl, rfl⟩
      · have h := g_ifp c3 h
        refine g_aload_n dX12_shelf_23 rfl ?_
        refine g_iload_n dX12_shelf_24 rfl ?_
        refine m_cV mt_X12_isOven ml_X12_110 mv_X12_isOven dX12_shelf_25 (k_X12_isOven rfl) rfl rfl rfl rfl (by decide) ⟨Nat.le_refl _, Nat.le_refl _⟩ (Nat.le_of_ble_eq_true rfl) ?_
        refine g_if_eq 43 (by decide) dX12_shelf_28 (fun c19 => ?_) (fun c19 => ?_)
        · have h := g_ifp c19 h
          refine g_icm1 dX12_shelf_43 ?_
          obtain rfl := Option.some.inj h
          exact g_iret rfl (Nat.le_refl _) rfl dX12_shelf_44 ⟨rfl, rfl⟩
        · have h := g_ifn c19 h
          refine g_iload_n dX12_shelf_31 rfl ?_
          refine g_ic1 dX12_shelf_32 ?_
          refine g_icmp_ne 45 (by decide) dX12_shelf_33 (fun c20 => ?_) (fun c20 => ?_)
          · have h := g_ifn c20 h
            refine g_iload_n dX12_shelf_45 rfl ?_
            refine g_ic1 dX12_shelf_46 ?_
            refine g_icmp_ne 63 (by decide) dX12_shelf_47 (fun c9 => ?_) (fun cd => absurd cd c20)
            refine g_ic0 dX12_shelf_63 ?_
            refine g_istore_4 rfl (Nat.le_of_ble_eq_true rfl) dX12_shelf_64 ?_
            refine g_aload_n dX12_shelf_66 rfl ?_
            refine m_getR fl_X12_52 rfl rfl rfl dX12_shelf_67 ?_
            refine g_iload_n dX12_shelf_70 rfl ?_
            refine g_iload_n dX12_shelf_71 rfl ?_
            refine g_if_ne 79 (by decide) dX12_shelf_72 (fun cd => absurd c3 cd) (fun c9 => ?_)
            refine g_ic1 dX12_shelf_75 ?_
            refine g_goto 89 (by decide) dX12_shelf_76 ?_
            obtain ⟨μ21, qμ21, h⟩ := g_bind h
            refine m_iast rfl qμ21 dX12_shelf_89 ?_
            refine g_aload_n dX12_shelf_90 rfl ?_
            refine m_getR fl_X12_55 rfl rfl rfl dX12_shelf_91 ?_
            refine g_iload_n dX12_shelf_94 rfl ?_
            refine g_iload_n dX12_shelf_95 rfl ?_
            refine g_if_ne 103 (by decide) dX12_shelf_96 (fun cd => absurd c3 cd) (fun c9 => ?_)
            refine g_iload_n dX12_shelf_99 rfl ?_
            refine g_goto 118 (by decide) dX12_shelf_100 ?_
            obtain ⟨μ22, qμ22, h⟩ := g_bind h
            refine m_iast rfl qμ22 dX12_shelf_118 ?_
            refine g_aload_n dX12_shelf_119 rfl ?_
            refine m_getR fl_X12_58 rfl rfl rfl dX12_shelf_120 ?_
            refine g_iload_n dX12_shelf_123 rfl ?_
            refine g_iload dX12_shelf_124 rfl ?_
            refine g_if_eq 138 (by decide) dX12_shelf_126 (fun c9 => ?_) (fun cd => absurd (by decide) cd)
            refine g_ic0 dX12_shelf_138 ?_
            obtain ⟨μ23, qμ23, h⟩ := g_bind h
            refine m_iast rfl qμ23 dX12_shelf_139 ?_
            refine g_ic1 dX12_shelf_140 ?_
            obtain rfl := Option.some.inj h
            exact g_iret rfl (Nat.le_refl _) rfl dX12_shelf_141 ⟨rfl, rfl⟩
          · have h := g_ifp c20 h
            refine g_iload_n dX12_shelf_36 rfl ?_
            refine m_cS mt_X12_isSheet ml_X12_345 ms_X12_isSheet dX12_shelf_37 (k_X12_isSheet rfl) rfl rfl (by decide) ⟨Nat.le_refl _, Nat.le_refl _⟩ (Nat.le_of_ble_eq_true rfl) ?_
            refine g_if_ne 45 (by decide) dX12_shelf_40 (fun c24 => ?_) (fun c24 => ?_)
            · have h := g_ifn c24 h
              refine g_iload_n dX12_shelf_45 rfl ?_
              refine g_ic1 dX12_shelf_46 ?_
              refine g_icmp_ne 63 (by decide) dX12_shelf_47 (fun cd => absurd c20 cd) (fun c9 => ?_)
              refine g_aload_n dX12_shelf_50 rfl ?_
              refine m_getR fl_X12_43 rfl rfl rfl dX12_shelf_51 ?_
              refine g_iload_n dX12_shelf_54 rfl ?_
              obtain ⟨x25, qx25, h⟩ := g_bind h
              refine m_iald rfl qx25 dX12_shelf_55 ?_
              refine g_if_lt 63 (by decide) dX12_shelf_56 (fun c26 => ?_) (fun c26 => ?_)
              · have h := g_ifp c26 h
                refine g_ic0 dX12_shelf_63 ?_
                refine g_istore_4 rfl (Nat.le_of_ble_eq_true rfl) dX12_shelf_64 ?_
                refine g_aload_n dX12_shelf_66 rfl ?_
                refine m_getR fl_X12_52 rfl rfl rfl dX12_shelf_67 ?_
                refine g_iload_n dX12_shelf_70 rfl ?_
                refine g_iload_n dX12_shelf_71 rfl ?_
                refine g_if_ne 79 (by decide) dX12_shelf_72 (fun cd => absurd c3 cd) (fun c9 => ?_)
                refine g_ic1 dX12_shelf_75 ?_
                refine g_goto 89 (by decide) dX12_shelf_76 ?_
                obtain ⟨μ27, qμ27, h⟩ := g_bind h
                refine m_iast rfl qμ27 dX12_shelf_89 ?_
                refine g_aload_n dX12_shelf_90 rfl ?_
                refine m_getR fl_X12_55 rfl rfl rfl dX12_shelf_91 ?_
                refine g_iload_n dX12_shelf_94 rfl ?_
                refine g_iload_n dX12_shelf_95 rfl ?_
                refine g_if_ne 103 (by decide) dX12_shelf_96 (fun cd => absurd c3 cd) (fun c9 => ?_)
                refine g_iload_n dX12_shelf_99 rfl ?_
                refine g_goto 118 (by decide) dX12_shelf_100 ?_
                obtain ⟨μ28, qμ28, h⟩ := g_bind h
                refine m_iast rfl qμ28 dX12_shelf_118 ?_
                refine g_aload_n dX12_shelf_119 rfl ?_
                refine m_getR fl_X12_58 rfl rfl rfl dX12_shelf_120 ?_
                refine g_iload_n dX12_shelf_123 rfl ?_
                refine g_iload dX12_shelf_124 rfl ?_
                refine g_if_eq 138 (by decide) dX12_shelf_126 (fun c9 => ?_) (fun cd => absurd (by decide) cd)
                refine g_ic0 dX12_shelf_138 ?_
                obtain ⟨μ29, qμ29, h⟩ := g_bind h
                refine m_iast rfl qμ29 dX12_shelf_139 ?_
                refine g_ic1 dX12_shelf_140 ?_
                obtain rfl := Option.some.inj h
                exact g_iret rfl (Nat.le_refl _) rfl dX12_shelf_141 ⟨rfl, rfl⟩
              · have h := g_ifn c26 h
                refine g_ic1 dX12_shelf_59 ?_
                refine g_goto 64 (by decide) dX12_shelf_60 ?_
                refine g_istore_4 rfl (Nat.le_of_ble_eq_true rfl) dX12_shelf_64 ?_
                refine g_aload_n dX12_shelf_66 rfl ?_
                refine m_getR fl_X12_52 rfl rfl rfl dX12_shelf_67 ?_
                refine g_iload_n dX12_shelf_70 rfl ?_
                refine g_iload_n dX12_shelf_71 rfl ?_
                refine g_if_ne 79 (by decide) dX12_shelf_72 (fun cd => absurd c3 cd) (fun c9 => ?_)
                refine g_ic1 dX12_shelf_75 ?_
                refine g_goto 89 (by decide) dX12_shelf_76 ?_
                obtain ⟨μ30, qμ30, h⟩ := g_bind h
                refine m_iast rfl qμ30 dX12_shelf_89 ?_
                refine g_aload_n dX12_shelf_90 rfl ?_
                refine m_getR fl_X12_55 rfl rfl rfl dX12_shelf_91 ?_
                refine g_iload_n dX12_shelf_94 rfl ?_
                refine g_iload_n dX12_shelf_95 rfl ?_
                refine g_if_ne 103 (by decide) dX12_shelf_96 (fun cd => absurd c3 cd) (fun c9 => ?_)
                refine g_iload_n dX12_shelf_99 rfl ?_
                refine g_goto 118 (by decide) dX12_shelf_100 ?_
                obtain ⟨μ31, qμ31, h⟩ := g_bind h
                refine m_iast rfl qμ31 dX12_shelf_118 ?_
                refine g_aload_n dX12_shelf_119 rfl ?_
                refine m_getR fl_X12_58 rfl rfl rfl dX12_shelf_120 ?_
                refine g_iload_n dX12_shelf_123 rfl ?_
                refine g_iload dX12_shelf_124 rfl ?_
                refine g_if_eq 138 (by decide) dX12_shelf_126 (fun cd => absurd cd (by decide)) (fun c9 => ?_)
                refine g_aload_n dX12_shelf_129 rfl ?_
                refine m_getR fl_X12_46 rfl rfl rfl dX12_shelf_130 ?_
                refine g_iload_n dX12_shelf_133 rfl ?_
                obtain ⟨x32, qx32, h⟩ := g_bind h
                refine m_iald rfl qx32 dX12_shelf_134 ?_
                refine g_goto 139 (by decide) dX12_shelf_135 ?_
                obtain ⟨μ33, qμ33, h⟩ := g_bind h
                refine m_iast rfl qμ33 dX12_shelf_139 ?_
                refine g_ic1 dX12_shelf_140 ?_
                obtain rfl := Option.some.inj h
                exact g_iret rfl (Nat.le_refl _) rfl dX12_shelf_141 ⟨rfl, rfl⟩
            · have h := g_ifp c24 h
              refine g_icm1 dX12_shelf_43 ?_
              obtain rfl := Option.some.inj h
              exact g_iret rfl (Nat.le_refl _) rfl dX12_shelf_44 ⟨rfl, rfl⟩
set_option maxRecDepth 100000 in
set_option maxHeartbeats 4000000 in
theorem k_X12_heldOn {D : va_G} {cA : Nat → ClassId} {b k : Nat} {a1 : Int32} {μ : g_M} {z : Int32} (h : f_X12_heldOn a1 μ = some z) : g_K (g_XM D cA b) yX12_heldOn Y_X12_heldOn 2 0 0 k [.ref 0, .int a1] (μ, g_rfM) (fun r1 σ1 => r1 = some (.int z) ∧ σ1 = (μ, g_rfM)) := by
  unfold f_X12_heldOn at h
  refine g_met 0 (by decide) rfl rfl (Nat.le_of_ble_eq_true rfl) ?_
  refine g_aload_n dX12_heldOn_0 rfl ?_
  refine m_getR fl_X12_52 rfl rfl rfl dX12_heldOn_1 ?_
  refine g_iload_n dX12_heldOn_4 rfl ?_
  obtain ⟨x1, qx1, h⟩ := g_bind h
  refine m_iald rfl qx1 dX12_heldOn_5 ?_
  refine g_ic1 dX12_heldOn_6 ?_
  refine g_icmp_ne 27 (by decide) dX12_heldOn_7 (fun c2 => ?_) (fun c2 => ?_)
  · have h := g_ifn c2 h
    refine g_aload_n dX12_heldOn_27 rfl ?_
    refine m_getR fl_X12_52 rfl rfl rfl dX12_heldOn_28 ?_
    refine g_iload_n dX12_heldOn_31 rfl ?_
    obtain ⟨x3, qx3, h⟩ := g_bind h
    refine m_iald rfl qx3 dX12_heldOn_32 ?_
    obtain rfl := Option.some.inj h
    exact g_iret rfl (Nat.le_refl _) rfl dX12_heldOn_33 ⟨rfl, rfl⟩
  · have h := g_ifp c2 h
    refine g_aload_n dX12_heldOn_10 rfl ?_
    refine g_aload_n dX12_heldOn_11 rfl ?_
    refine m_getR fl_X12_55 rfl rfl rfl dX12_heldOn_12 ?_
    refine g_iload_n dX12_heldOn_15 rfl ?_
    obtain ⟨x4, qx4, h⟩ := g_bind h
    refine m_iald rfl qx4 dX12_heldOn_16 ?_
    refine m_cV mt_X12_isOven ml_X12_110 mv_X12_isOven dX12_heldOn_17 (k_X12_isOven rfl) rfl rfl rfl rfl (by decide) ⟨Nat.le_refl _, Nat.le_refl _⟩ (Nat.le_of_ble_eq_true rfl) ?_
    refine g_if_ne 27 (by decide) dX12_heldOn_20 (fun c5 => ?_) (fun c5 => ?_)
    · have h := g_ifn c5 h
      refine g_aload_n dX12_heldOn_27 rfl ?_
      refine m_getR fl_X12_52 rfl rfl rfl dX12_heldOn_28 ?_
      refine g_iload_n dX12_heldOn_31 rfl ?_
      obtain ⟨x6, qx6, h⟩ := g_bind h
      refine m_iald rfl qx6 dX12_heldOn_32 ?_
      obtain rfl := Option.some.inj h
      exact g_iret rfl (Nat.le_refl _) rfl dX12_heldOn_33 ⟨rfl, rfl⟩
    · have h := g_ifp c5 h
      refine g_ic0 dX12_heldOn_23 ?_
      refine g_goto 33 (by decide) dX12_heldOn_24 ?_
      obtain rfl := Option.some.inj h
      exact g_iret rfl (Nat.le_refl _) rfl dX12_heldOn_33 ⟨rfl, rfl⟩
set_option maxRecDepth 100000 in
set_option maxHeartbeats 4000000 in
theorem k_X12_taken {D : va_G} {cA : Nat → ClassId} {b k : Nat} {a1 : Int32} {a2 : Int32} {μ : g_M} {z : Int32} (h : f_X12_taken a1 a2 μ = some z) : g_K (g_XM D cA b) yX12_taken Y_X12_taken 3 0 0 k [.ref 0, .int a1, .int a2] (μ, g_rfM) (fun r1 σ1 => r1 = some (.int z) ∧ σ1 = (μ, g_rfM)) := by
  unfold f_X12_taken at h
  refine g_met 1 (by decide) rfl rfl (Nat.le_of_ble_eq_true rfl) ?_
  refine g_iload_n dX12_taken_0 rfl ?_
  refine m_cS mt_X12_isShelf ml_X12_356 ms_X12_isShelf dX12_taken_1 (k_X12_isShelf rfl) rfl rfl (by decide) ⟨Nat.le_refl _, Nat.le_refl _⟩ (Nat.le_of_ble_eq_true rfl) ?_
  refine g_if_eq 33 (by decide) dX12_taken_4 (fun c1 => ?_) (fun c1 => ?_)
  · have h := g_ifp c1 h
    refine g_icm1 dX12_taken_33 ?_
    obtain rfl := Option.some.inj h
    exact g_iret rfl (Nat.le_refl _) rfl dX12_taken_34 ⟨rfl, rfl⟩
  · have h := g_ifn c1 h
    refine g_iload_n dX12_taken_7 rfl ?_
    refine g_i2l dX12_taken_8 ?_
    refine g_lc0 dX12_taken_9 ?_
    refine g_ldc2 kc_X12_359 dX12_taken_10 ?_
    refine m_cS mt_X12_isIn ml_X12_66 ms_X12_isIn dX12_taken_13 (k_X12_isIn rfl) rfl rfl (by decide) ⟨Nat.le_refl _, Nat.le_refl _⟩ (Nat.le_of_ble_eq_true rfl) ?_
    refine g_if_eq 33 (by decide) dX12_taken_16 (fun c2 => ?_) (fun c2 => ?_)
    · have h := g_ifp c2 h
      refine g_icm1 dX12_taken_33 ?_
      obtain rfl := Option.some.inj h
      exact g_iret rfl (Nat.le_refl _) rfl dX12_taken_34 ⟨rfl, rfl⟩
    · have h := g_ifn c2 h
      refine g_iload_n dX12_taken_19 rfl ?_
      refine g_i2l dX12_taken_20 ?_
      refine g_ldc2 kc_X12_361 dX12_taken_21 ?_
      refine g_ldc2 kc_X12_70 dX12_taken_24 ?_
      refine m_cS mt_X12_isIn ml_X12_66 ms_X12_isIn dX12_taken_27 (k_X12_isIn rfl) rfl rfl (by decide) ⟨Nat.le_refl _, Nat.le_refl _⟩ (Nat.le_of_ble_eq_true rfl) ?_
      refine g_if_eq 35 (by decide) dX12_taken_30 (fun c3 => ?_) (fun c3 => ?_)
      · have h := g_ifp c3 h
        refine g_aload_n dX12_taken_35 rfl ?_
        refine g_iload_n dX12_taken_36 rfl ?_
        obtain ⟨x4, q5, h⟩ := g_bind h
        refine m_cV mt_X12_heldOn ml_X12_363 mv_X12_heldOn dX12_taken_37 (k_X12_heldOn q5) rfl rfl rfl rfl (by decide) ⟨Nat.le_refl _, Nat.le_refl _⟩ (Nat.le_of_ble_eq_true rfl) ?_
        refine g_istore_3 rfl (Nat.le_of_ble_eq_true rfl) dX12_taken_40 ?_
        refine g_iload_n dX12_taken_41 rfl ?_
        refine g_if_ne 48 (by decide) dX12_taken_42 (fun c6 => ?_) (fun c6 => ?_)
        · have h := g_ifn c6 h
          refine g_iload_n dX12_taken_48 rfl ?_
          refine g_bipush (v := 10) dX12_taken_49 (by decide) ?_
          refine g_icmp_ge 89 (by decide) dX12_taken_51 (fun c7 => ?_) (fun c7 => ?_)
          · have h := g_ifp c7 h
            refine g_iload_n dX12_taken_89 rfl ?_
            refine g_ic2 dX12_taken_90 ?_
            refine g_icmp_ne 116 (by decide) dX12_taken_91 (fun c8 => ?_) (fun c8 => ?_)
            · have h := g_ifn c8 h
              refine g_bipush (v := (-13)) dX12_taken_116 (by decide) ?_
              obtain rfl := Option.some.inj h
              exact g_iret rfl (Nat.le_refl _) rfl dX12_taken_118 ⟨rfl, rfl⟩
            · have h := g_ifp c8 h
              refine g_aload_n dX12_taken_94 rfl ?_
              refine m_getR fl_X12_55 rfl rfl rfl dX12_taken_95 ?_
              refine g_iload_n dX12_taken_98 rfl ?_
              obtain ⟨x9, qx9, h⟩ := g_bind h
              refine m_iald rfl qx9 dX12_taken_99 ?_
              refine g_iload_n dX12_taken_100 rfl ?_
              refine g_bipush (v := 10) dX12_taken_101 (by decide) ?_
              refine g_isub dX12_taken_103 ?_
              refine g_icmp_ne 116 (by decide) dX12_taken_104 (fun c10 => ?_) (fun c10 => ?_)
              · have h := g_ifn c10 h
                refine g_bipush (v := (-13)) dX12_taken_116 (by decide) ?_
                obtain rfl := Option.some.inj h
                exact g_iret rfl (Nat.le_refl _) rfl dX12_taken_118 ⟨rfl, rfl⟩
              · have h := g_ifp c10 h
                refine g_aload_n dX12_taken_107 rfl ?_
                refine m_getR fl_X12_58 rfl rfl rfl dX12_taken_108 ?_
                refine g_iload_n dX12_taken_111 rfl ?_
                obtain ⟨x11, qx11, h⟩ := g_bind h
                refine m_iald rfl qx11 dX12_taken_112 ?_
                refine g_goto 118 (by decide) dX12_taken_113 ?_
                obtain rfl := Option.some.inj h
                exact g_iret rfl (Nat.le_refl _) rfl dX12_taken_118 ⟨rfl, rfl⟩
          · have h := g_ifn c7 h
            refine g_iload_n dX12_taken_54 rfl ?_
            refine g_ic1 dX12_taken_55 ?_
            refine g_icmp_ne 86 (by decide) dX12_taken_56 (fun c12 => ?_) (fun c12 => ?_)
            · have h := g_ifn c12 h
              refine g_bipush (v := (-13)) dX12_taken_86 (by decide) ?_
              obtain rfl := Option.some.inj h
              exact g_iret rfl (Nat.le_refl _) rfl dX12_taken_88 ⟨rfl, rfl⟩
            · have h := g_ifp c12 h
              refine g_aload_n dX12_taken_59 rfl ?_
              refine g_aload_n dX12_taken_60 rfl ?_
              refine m_getR fl_X12_55 rfl rfl rfl dX12_taken_61 ?_
              refine g_iload_n dX12_taken_64 rfl ?_
              obtain ⟨x13, qx13, h⟩ := g_bind h
              refine m_iald rfl qx13 dX12_taken_65 ?_
              refine g_ic0 dX12_taken_66 ?_
              obtain ⟨x14, q15, h⟩ := g_bind h
              refine m_cV mt_X12_its ml_X12_78 mv_X12_its dX12_taken_67 (k_X12_its q15) rfl rfl rfl rfl (by decide) ⟨Nat.le_refl _, Nat.le_refl _⟩ (Nat.le_of_ble_eq_true rfl) ?_
              refine g_iload_n dX12_taken_70 rfl ?_
              refine m_cS mt_X12_isUnder ml_X12_92 ms_X12_isUnder dX12_taken_71 (k_X12_isUnder rfl) rfl rfl (by decide) ⟨Nat.le_refl _, Nat.le_refl _⟩ (Nat.le_of_ble_eq_true rfl) ?_
              refine g_if_eq 86 (by decide) dX12_taken_74 (fun c16 => ?_) (fun c16 => ?_)
              · have h := g_ifp c16 h
                refine g_bipush (v := (-13)) dX12_taken_86 (by decide) ?_
                obtain rfl := Option.some.inj h
                exact g_iret rfl (Nat.le_refl _) rfl dX12_taken_88 ⟨rfl, rfl⟩
              · have h := g_ifn c16 h
                refine g_aload_n dX12_taken_77 rfl ?_
                refine m_getR fl_X12_55 rfl rfl rfl dX12_taken_78 ?_
                refine g_iload_n dX12_taken_81 rfl ?_
                obtain ⟨x17, qx17, h⟩ := g_bind h
                refine m_iald rfl qx17 dX12_taken_82 ?_
                refine g_goto 88 (by decide) dX12_taken_83 ?_
                obtain rfl := Option.some.inj h
                exact g_iret rfl (Nat.le_refl _) rfl dX12_taken_88 ⟨rfl, rfl⟩
        · have h := g_ifp c6 h
          refine g_bipush (v := (-11)) dX12_taken_45 (by decide) ?_
          obtain rfl := Option.some.inj h
          exact g_iret rfl (Nat.le_refl _) rfl dX12_taken_47 ⟨rfl, rfl⟩
      · have h := g_ifn c3 h
        refine g_icm1 dX12_taken_33 ?_
        obtain rfl := Option.some.inj h
        exact g_iret rfl (Nat.le_refl _) rfl dX12_taken_34 ⟨rfl, rfl⟩
set_option maxRecDepth 100000 in
set_option maxHeartbeats 4000000 in
theorem k_X12_runs {D : va_G} {cA : Nat → ClassId} {b k : Nat} {a1 : Int32} {μ : g_M} {z : g_M} (h : f_X12_runs a1 μ = some z) : g_K (g_XM D cA b) yX12_runs Y_X12_runs 1 0 0 k [.ref 0, .int a1] (μ, g_rfM) (fun r1 σ1 => r1 = none ∧ σ1 = (z, g_rfM)) := by
  unfold f_X12_runs at h
  refine g_met 0 (by decide) rfl rfl (Nat.le_of_ble_eq_true rfl) ?_
  refine g_aload_n dX12_runs_0 rfl ?_
  refine m_getI fl_X12_366 rfl rfl dX12_runs_1 ?_
  refine g_bipush (v := 30) dX12_runs_4 (by decide) ?_
  refine g_icmp_ge 29 (by decide) dX12_runs_6 (fun c1 => ?_) (fun c1 => ?_)
  · have h := g_ifp c1 h
    obtain rfl := Option.some.inj h
    exact g_vret rfl (Nat.le_refl _) rfl dX12_runs_29 ⟨rfl, rfl⟩
  · have h := g_ifn c1 h
    refine g_aload_n dX12_runs_9 rfl ?_
    refine m_getR fl_X12_61 rfl rfl rfl dX12_runs_10 ?_
    refine g_aload_n dX12_runs_13 rfl ?_
    refine m_getI fl_X12_366 rfl rfl dX12_runs_14 ?_
    refine g_iload_n dX12_runs_17 rfl ?_
    obtain ⟨μ2, qμ2, h⟩ := g_bind h
    refine m_iast rfl qμ2 dX12_runs_18 ?_
    refine g_aload_n dX12_runs_19 rfl ?_
    refine g_dup dX12_runs_20 rfl ?_
    refine m_getI fl_X12_366 rfl rfl dX12_runs_21 ?_
    refine g_ic1 dX12_runs_24 ?_
    refine g_iadd dX12_runs_25 ?_
    obtain ⟨μ3, eμ3, h⟩ := g_let h
    refine m_putI fl_X12_366 fw_12_40 rfl rfl rfl rfl dX12_runs_26 eμ3 ?_
    obtain rfl := Option.some.inj h
    exact g_vret rfl (Nat.le_refl _) rfl dX12_runs_29 ⟨rfl, rfl⟩
set_option maxRecDepth 100000 in
set_option maxHeartbeats 4000000 in
theorem k_X12_glowsPlain {D : va_G} {cA : Nat → ClassId} {b k : Nat} {a1 : Int32} {μ : g_M} {z : Int32 × g_M} (h : f_X12_glowsPlain a1 μ = some z) : g_K (g_XM D cA b) yX12_glowsPlain Y_X12_glowsPlain 2 0 0 k [.ref 0, .int a1] (μ, g_rfM) (fun r1 σ1 => r1 = some (.int z.1) ∧ σ1 = (z.2, g_rfM)) := by
  unfold f_X12_glowsPlain at h
  refine g_met 0 (by decide) rfl rfl (Nat.le_of_ble_eq_true rfl) ?_
  refine g_aload_n dX12_glowsPlain_0 rfl ?_
  refine g_bipush (v := 10) dX12_glowsPlain_1 (by decide) ?_
  obtain ⟨μ3, q2, h⟩ := g_bind h
  refine m_cVv mt_X12_runs ml_X12_369 mv_X12_runs dX12_glowsPlain_3 (k_X12_runs q2) rfl rfl rfl rfl (by decide) ⟨Nat.le_refl _, Nat.le_refl _⟩ (Nat.le_of_ble_eq_true rfl) ?_
  refine g_iload_n dX12_glowsPlain_6 rfl ?_
  refine g_aload_n dX12_glowsPlain_7 rfl ?_
  refine m_getI fl_X12_372 rfl rfl dX12_glowsPlain_8 ?_
  refine g_ic3 dX12_glowsPlain_11 ?_
  refine g_imul dX12_glowsPlain_12 ?_
  refine g_isub dX12_glowsPlain_13 ?_
  obtain rfl := Option.some.inj h
  exact g_iret rfl (Nat.le_refl _) rfl dX12_glowsPlain_14 ⟨rfl, rfl⟩
set_option maxRecDepth 100000 in
set_option maxHeartbeats 4000000 in
theorem k_X12_glows {D : va_G} {cA : Nat → ClassId} {b k : Nat} {a1 : Int32} {μ : g_M} {z : Int32 × g_M} (h : f_X12_glows a1 μ = some z) : g_K (g_XM D cA b) yX12_glows Y_X12_glows 3 0 0 k [.ref 0, .int a1] (μ, g_rfM) (fun r1 σ1 => r1 = some (.int z.1) ∧ σ1 = (z.2, g_rfM)) := by
  unfold f_X12_glows at h
  refine g_met 0 (by decide) rfl rfl (Nat.le_of_ble_eq_true rfl) ?_
  refine g_aload_n dX12_glows_0 rfl ?_
  refine m_getI fl_X12_375 rfl rfl dX12_glows_1 ?_
  refine g_ic1 dX12_glows_4 ?_
  refine g_icmp_ne 22 (by decide) dX12_glows_5 (fun c1 => ?_) (fun c1 => ?_)
  · have h := g_ifn c1 h
    refine g_aload_n dX12_glows_22 rfl ?_
    refine m_getI fl_X12_375 rfl rfl dX12_glows_23 ?_
    refine g_ic3 dX12_glows_26 ?_
    refine g_icmp_ne 44 (by decide) dX12_glows_27 (fun c2 => ?_) (fun c2 => ?_)
    · have h := g_ifn c2 h
      refine g_aload_n dX12_glows_44 rfl ?_
      refine g_iload_n dX12_glows_45 rfl ?_
      obtain ⟨⟨x3, μ5⟩, q4, h⟩ := g_bind h
      refine m_cV mt_X12_glowsPlain ml_X12_378 mv_X12_glowsPlain dX12_glows_46 (k_X12_glowsPlain q4) rfl rfl rfl rfl (by decide) ⟨Nat.le_refl _, Nat.le_refl _⟩ (Nat.le_of_ble_eq_true rfl) ?_
      obtain rfl := Option.some.inj h
      exact g_iret rfl (Nat.le_refl _) rfl dX12_glows_49 ⟨rfl, rfl⟩
    · have h := g_ifp c2 h
      refine g_aload_n dX12_glows_30 rfl ?_
      refine g_bipush (v := 50) dX12_glows_31 (by decide) ?_
      obtain ⟨μ8, q7, h⟩ := g_bind h
      refine m_cVv mt_X12_runs ml_X12_369 mv_X12_runs dX12_glows_33 (k_X12_runs q7) rfl rfl rfl rfl (by decide) ⟨Nat.le_refl _, Nat.le_refl _⟩ (Nat.le_of_ble_eq_true rfl) ?_
      refine g_aload_n dX12_glows_36 rfl ?_
      refine g_iload_n dX12_glows_37 rfl ?_
      obtain ⟨⟨x9, μ11⟩, q10, h⟩ := g_bind h
      refine m_cV mt_X12_glowsPlain ml_X12_378 mv_X12_glowsPlain dX12_glows_38 (k_X12_glowsPlain q10) rfl rfl rfl rfl (by decide) ⟨Nat.le_refl _, Nat.le_refl _⟩ (Nat.le_of_ble_eq_true rfl) ?_
      refine g_ic3 dX12_glows_41 ?_
      refine g_ixor dX12_glows_42 ?_
      obtain rfl := Option.some.inj h
      exact g_iret rfl (Nat.le_refl _) rfl dX12_glows_43 ⟨rfl, rfl⟩
  · have h := g_ifp c1 h
    refine g_aload_n dX12_glows_8 rfl ?_
    refine g_bipush (v := 20) dX12_glows_9 (by decide) ?_
    obtain ⟨μ14, q13, h⟩ := g_bind h
    refine m_cVv mt_X12_runs ml_X12_369 mv_X12_runs dX12_glows_11 (k_X12_runs q13) rfl rfl rfl rfl (by decide) ⟨Nat.le_refl _, Nat.le_refl _⟩ (Nat.le_of_ble_eq_true rfl) ?_
    refine g_aload_n dX12_glows_14 rfl ?_
    refine g_iload_n dX12_glows_15 rfl ?_
    obtain ⟨⟨x15, μ17⟩, q16, h⟩ := g_bind h
    refine m_cV mt_X12_glowsPlain ml_X12_378 mv_X12_glowsPlain dX12_glows_16 (k_X12_glowsPlain q16) rfl rfl rfl rfl (by decide) ⟨Nat.le_refl _, Nat.le_refl _⟩ (Nat.le_of_ble_eq_true rfl) ?_
    refine g_ic2 dX12_glows_19 ?_
    refine g_imul dX12_glows_20 ?_
    obtain rfl := Option.some.inj h
    exact g_iret rfl (Nat.le_refl _) rfl dX12_glows_21 ⟨rfl, rfl⟩
set_option maxRecDepth 100000 in
set_option maxHeartbeats 4000000 in
theorem k_X12_longsPlain {D : va_G} {cA : Nat → ClassId} {b k : Nat} {a1 : Int32} {μ : g_M} {z : Int32 × g_M} (h : f_X12_longsPlain a1 μ = some z) : g_K (g_XM D cA b) yX12_longsPlain Y_X12_longsPlain 4 0 0 k [.ref 0, .int a1] (μ, g_rfM) (fun r1 σ1 => r1 = some (.int z.1) ∧ σ1 = (z.2, g_rfM)) := by
  unfold f_X12_longsPlain at h
  refine g_met 0 (by decide) rfl rfl (Nat.le_of_ble_eq_true rfl) ?_
  refine g_aload_n dX12_longsPlain_0 rfl ?_
  refine g_bipush (v := 11) dX12_longsPlain_1 (by decide) ?_
  obtain ⟨μ3, q2, h⟩ := g_bind h
  refine m_cVv mt_X12_runs ml_X12_369 mv_X12_runs dX12_longsPlain_3 (k_X12_runs q2) rfl rfl rfl rfl (by decide) ⟨Nat.le_refl _, Nat.le_refl _⟩ (Nat.le_of_ble_eq_true rfl) ?_
  refine g_aload_n dX12_longsPlain_6 rfl ?_
  refine g_iload_n dX12_longsPlain_7 rfl ?_
  obtain ⟨⟨x4, μ6⟩, q5, h⟩ := g_bind h
  refine m_cV mt_X12_glows ml_X12_381 mv_X12_glows dX12_longsPlain_8 (k_X12_glows q5) rfl rfl rfl rfl (by decide) ⟨Nat.le_refl _, Nat.le_refl _⟩ (Nat.le_of_ble_eq_true rfl) ?_
  refine g_aload_n dX12_longsPlain_11 rfl ?_
  refine m_getI fl_X12_384 rfl rfl dX12_longsPlain_12 ?_
  refine g_ixor dX12_longsPlain_15 ?_
  obtain rfl := Option.some.inj h
  exact g_iret rfl (Nat.le_refl _) rfl dX12_longsPlain_16 ⟨rfl, rfl⟩
set_option maxRecDepth 100000 in
set_option maxHeartbeats 4000000 in
theorem k_X12_longsActs {D : va_G} {cA : Nat → ClassId} {b k : Nat} {a1 : Int32} {μ : g_M} {z : Int32 × g_M} (h : f_X12_longsActs a1 μ = some z) : g_K (g_XM D cA b) yX12_longsActs Y_X12_longsActs 5 0 0 k [.ref 0, .int a1] (μ, g_rfM) (fun r1 σ1 => r1 = some (.int z.1) ∧ σ1 = (z.2, g_rfM)) := by
  unfold f_X12_longsActs at h
  refine g_met 0 (by decide) rfl rfl (Nat.le_of_ble_eq_true rfl) ?_
  refine g_aload_n dX12_longsActs_0 rfl ?_
  refine m_getI fl_X12_375 rfl rfl dX12_longsActs_1 ?_
  refine g_ic2 dX12_longsActs_4 ?_
  refine g_icmp_eq 16 (by decide) dX12_longsActs_5 (fun c1 => ?_) (fun c1 => ?_)
  · have h := g_ifp c1 h
    refine g_aload_n dX12_longsActs_16 rfl ?_
    refine g_bipush (v := 30) dX12_longsActs_17 (by decide) ?_
    obtain ⟨μ4, q3, h⟩ := g_bind h
    refine m_cVv mt_X12_runs ml_X12_369 mv_X12_runs dX12_longsActs_19 (k_X12_runs q3) rfl rfl rfl rfl (by decide) ⟨Nat.le_refl _, Nat.le_refl _⟩ (Nat.le_of_ble_eq_true rfl) ?_
    refine g_aload_n dX12_longsActs_22 rfl ?_
    refine g_iload_n dX12_longsActs_23 rfl ?_
    obtain ⟨⟨x5, μ7⟩, q6, h⟩ := g_bind h
    refine m_cV mt_X12_longsPlain ml_X12_387 mv_X12_longsPlain dX12_longsActs_24 (k_X12_longsPlain q6) rfl rfl rfl rfl (by decide) ⟨Nat.le_refl _, Nat.le_refl _⟩ (Nat.le_of_ble_eq_true rfl) ?_
    refine g_aload_n dX12_longsActs_27 rfl ?_
    refine m_getI fl_X12_372 rfl rfl dX12_longsActs_28 ?_
    refine g_isub dX12_longsActs_31 ?_
    obtain rfl := Option.some.inj h
    exact g_iret rfl (Nat.le_refl _) rfl dX12_longsActs_32 ⟨rfl, rfl⟩
  · have h := g_ifn c1 h
    refine g_aload_n dX12_longsActs_8 rfl ?_
    refine m_getI fl_X12_375 rfl rfl dX12_longsActs_9 ?_
    refine g_ic3 dX12_longsActs_12 ?_
    refine g_icmp_ne 33 (by decide) dX12_longsActs_13 (fun c8 => ?_) (fun c8 => ?_)
    · have h := g_ifn c8 h
      refine g_aload_n dX12_longsActs_33 rfl ?_
      refine m_getI fl_X12_375 rfl rfl dX12_longsActs_34 ?_
      refine g_ic5 dX12_longsActs_37 ?_
      refine g_icmp_ne 55 (by decide) dX12_longsActs_38 (fun c9 => ?_) (fun c9 => ?_)
      · have h := g_ifn c9 h
        refine g_aload_n dX12_longsActs_55 rfl ?_
        refine g_iload_n dX12_longsActs_56 rfl ?_
        obtain ⟨⟨x10, μ12⟩, q11, h⟩ := g_bind h
        refine m_cV mt_X12_longsPlain ml_X12_387 mv_X12_longsPlain dX12_longsActs_57 (k_X12_longsPlain q11) rfl rfl rfl rfl (by decide) ⟨Nat.le_refl _, Nat.le_refl _⟩ (Nat.le_of_ble_eq_true rfl) ?_
        obtain rfl := Option.some.inj h
        exact g_iret rfl (Nat.le_refl _) rfl dX12_longsActs_60 ⟨rfl, rfl⟩
      · have h := g_ifp c9 h
        refine g_aload_n dX12_longsActs_41 rfl ?_
        refine g_bipush (v := 60) dX12_longsActs_42 (by decide) ?_
        obtain ⟨μ15, q14, h⟩ := g_bind h
        refine m_cVv mt_X12_runs ml_X12_369 mv_X12_runs dX12_longsActs_44 (k_X12_runs q14) rfl rfl rfl rfl (by decide) ⟨Nat.le_refl _, Nat.le_refl _⟩ (Nat.le_of_ble_eq_true rfl) ?_
        refine g_ic0 dX12_longsActs_47 ?_
        refine g_aload_n dX12_longsActs_48 rfl ?_
        refine g_iload_n dX12_longsActs_49 rfl ?_
        obtain ⟨⟨x16, μ18⟩, q17, h⟩ := g_bind h
        refine m_cV mt_X12_longsPlain ml_X12_387 mv_X12_longsPlain dX12_longsActs_50 (k_X12_longsPlain q17) rfl rfl rfl rfl (by decide) ⟨Nat.le_refl _, Nat.le_refl _⟩ (Nat.le_of_ble_eq_true rfl) ?_
        refine g_isub dX12_longsActs_53 ?_
        obtain rfl := Option.some.inj h
        exact g_iret rfl (Nat.le_refl _) rfl dX12_longsActs_54 ⟨rfl, rfl⟩
    · have h := g_ifp c8 h
      refine g_aload_n dX12_longsActs_16 rfl ?_
      refine g_bipush (v := 30) dX12_longsActs_17 (by decide) ?_
      obtain ⟨μ21, q20, h⟩ := g_bind h
      refine m_cVv mt_X12_runs ml_X12_369 mv_X12_runs dX12_longsActs_19 (k_X12_runs q20) rfl rfl rfl rfl (by decide) ⟨Nat.le_refl _, Nat.le_refl _⟩ (Nat.le_of_ble_eq_true rfl) ?_
      refine g_aload_n dX12_longsActs_22 rfl ?_
      refine g_iload_n dX12_longsActs_23 rfl ?_
      obtain ⟨⟨x22, μ24⟩, q23, h⟩ := g_bind h
      refine m_cV mt_X12_longsPlain ml_X12_387 mv_X12_longsPlain dX12_longsActs_24 (k_X12_longsPlain q23) rfl rfl rfl rfl (by decide) ⟨Nat.le_refl _, Nat.le_refl _⟩ (Nat.le_of_ble_eq_true rfl) ?_
      refine g_aload_n dX12_longsActs_27 rfl ?_
      refine m_getI fl_X12_372 rfl rfl dX12_longsActs_28 ?_
      refine g_isub dX12_longsActs_31 ?_
      obtain rfl := Option.some.inj h
      exact g_iret rfl (Nat.le_refl _) rfl dX12_longsActs_32 ⟨rfl, rfl⟩
set_option maxRecDepth 100000 in
set_option maxHeartbeats 4000000 in
theorem k_X12_partsPlain {D : va_G} {cA : Nat → ClassId} {b k : Nat} {a1 : Int32} {μ : g_M} {z : Int32 × g_M} (h : f_X12_partsPlain a1 μ = some z) : g_K (g_XM D cA b) yX12_partsPlain Y_X12_partsPlain 2 0 0 k [.ref 0, .int a1] (μ, g_rfM) (fun r1 σ1 => r1 = some (.int z.1) ∧ σ1 = (z.2, g_rfM)) := by
  unfold f_X12_partsPlain at h
  refine g_met 0 (by decide) rfl rfl (Nat.le_of_ble_eq_true rfl) ?_
  refine g_aload_n dX12_partsPlain_0 rfl ?_
  refine g_bipush (v := 12) dX12_partsPlain_1 (by decide) ?_
  obtain ⟨μ3, q2, h⟩ := g_bind h
  refine m_cVv mt_X12_runs ml_X12_369 mv_X12_runs dX12_partsPlain_3 (k_X12_runs q2) rfl rfl rfl rfl (by decide) ⟨Nat.le_refl _, Nat.le_refl _⟩ (Nat.le_of_ble_eq_true rfl) ?_
  refine g_aload_n dX12_partsPlain_6 rfl ?_
  refine g_aload_n dX12_partsPlain_7 rfl ?_
  refine m_getI fl_X12_390 rfl rfl dX12_partsPlain_8 ?_
  refine g_if_ne 25 (by decide) dX12_partsPlain_11 (fun c4 => ?_) (fun c4 => ?_)
  · have h := g_ifn c4 h
    refine g_ic1 dX12_partsPlain_25 ?_
    refine g_goto 30 (by decide) dX12_partsPlain_26 ?_
    obtain ⟨μ5, eμ5, h⟩ := g_let h
    refine m_putI fl_X12_390 fw_12_44 rfl rfl rfl rfl dX12_partsPlain_30 eμ5 ?_
    refine g_aload_n dX12_partsPlain_33 rfl ?_
    refine m_getI fl_X12_390 rfl rfl dX12_partsPlain_34 ?_
    refine g_if_eq 44 (by decide) dX12_partsPlain_37 (fun c6 => ?_) (fun c6 => ?_)
    · have h := g_ifp c6 h
      refine g_iload_n dX12_partsPlain_44 rfl ?_
      refine g_aload_n dX12_partsPlain_45 rfl ?_
      refine m_getI fl_X12_372 rfl rfl dX12_partsPlain_46 ?_
      refine g_aload_n dX12_partsPlain_49 rfl ?_
      refine m_getI fl_X12_384 rfl rfl dX12_partsPlain_50 ?_
      refine g_isub dX12_partsPlain_53 ?_
      obtain ⟨x7, qx7, h⟩ := g_bind h
      refine m_irem dX12_partsPlain_54 qx7 ?_
      obtain rfl := Option.some.inj h
      exact g_iret rfl (Nat.le_refl _) rfl dX12_partsPlain_55 ⟨rfl, rfl⟩
    · have h := g_ifn c6 h
      refine g_ic0 dX12_partsPlain_40 ?_
      refine g_goto 55 (by decide) dX12_partsPlain_41 ?_
      obtain rfl := Option.some.inj h
      exact g_iret rfl (Nat.le_refl _) rfl dX12_partsPlain_55 ⟨rfl, rfl⟩
  · have h := g_ifp c4 h
    refine g_aload_n dX12_partsPlain_14 rfl ?_
    refine m_getI fl_X12_372 rfl rfl dX12_partsPlain_15 ?_
    refine g_aload_n dX12_partsPlain_18 rfl ?_
    refine m_getI fl_X12_384 rfl rfl dX12_partsPlain_19 ?_
    refine g_icmp_ne 29 (by decide) dX12_partsPlain_22 (fun c8 => ?_) (fun c8 => ?_)
    · have h := g_ifn c8 h
      refine g_ic0 dX12_partsPlain_29 ?_
      obtain ⟨μ9, eμ9, h⟩ := g_let h
      refine m_putI fl_X12_390 fw_12_44 rfl rfl rfl rfl dX12_partsPlain_30 eμ9 ?_
      refine g_aload_n dX12_partsPlain_33 rfl ?_
      refine m_getI fl_X12_390 rfl rfl dX12_partsPlain_34 ?_
      refine g_if_eq 44 (by decide) dX12_partsPlain_37 (fun c10 => ?_) (fun c10 => ?_)
      · have h := g_ifp c10 h
        refine g_iload_n dX12_partsPlain_44 rfl ?_
        refine g_aload_n dX12_partsPlain_45 rfl ?_
        refine m_getI fl_X12_372 rfl rfl dX12_partsPlain_46 ?_
        refine g_aload_n dX12_partsPlain_49 rfl ?_
        refine m_getI fl_X12_384 rfl rfl dX12_partsPlain_50 ?_
        refine g_isub dX12_partsPlain_53 ?_
        obtain ⟨x11, qx11, h⟩ := g_bind h
        refine m_irem dX12_partsPlain_54 qx11 ?_
        obtain rfl := Option.some.inj h
        exact g_iret rfl (Nat.le_refl _) rfl dX12_partsPlain_55 ⟨rfl, rfl⟩
      · have h := g_ifn c10 h
        refine g_ic0 dX12_partsPlain_40 ?_
        refine g_goto 55 (by decide) dX12_partsPlain_41 ?_
        obtain rfl := Option.some.inj h
        exact g_iret rfl (Nat.le_refl _) rfl dX12_partsPlain_55 ⟨rfl, rfl⟩
    · have h := g_ifp c8 h
      refine g_ic1 dX12_partsPlain_25 ?_
      refine g_goto 30 (by decide) dX12_partsPlain_26 ?_
      obtain ⟨μ12, eμ12, h⟩ := g_let h
      refine m_putI fl_X12_390 fw_12_44 rfl rfl rfl rfl dX12_partsPlain_30 eμ12 ?_
      refine g_aload_n dX12_partsPlain_33 rfl ?_
      refine m_getI fl_X12_390 rfl rfl dX12_partsPlain_34 ?_
      refine g_if_eq 44 (by decide) dX12_partsPlain_37 (fun c13 => ?_) (fun c13 => ?_)
      · have h := g_ifp c13 h
        refine g_iload_n dX12_partsPlain_44 rfl ?_
        refine g_aload_n dX12_partsPlain_45 rfl ?_
        refine m_getI fl_X12_372 rfl rfl dX12_partsPlain_46 ?_
        refine g_aload_n dX12_partsPlain_49 rfl ?_
        refine m_getI fl_X12_384 rfl rfl dX12_partsPlain_50 ?_
        refine g_isub dX12_partsPlain_53 ?_
        obtain ⟨x14, qx14, h⟩ := g_bind h
        refine m_irem dX12_partsPlain_54 qx14 ?_
        obtain rfl := Option.some.inj h
        exact g_iret rfl (Nat.le_refl _) rfl dX12_partsPlain_55 ⟨rfl, rfl⟩
      · have h := g_ifn c13 h
        refine g_ic0 dX12_partsPlain_40 ?_
        refine g_goto 55 (by decide) dX12_partsPlain_41 ?_
        obtain rfl := Option.some.inj h
        exact g_iret rfl (Nat.le_refl _) rfl dX12_partsPlain_55 ⟨rfl, rfl⟩
set_option maxRecDepth 100000 in
set_option maxHeartbeats 4000000 in
theorem k_X12_partsPortable {D : va_G} {cA : Nat → ClassId} {b k : Nat} {a1 : Int32} {μ : g_M} {z : Int32 × g_M} (h : f_X12_partsPortable a1 μ = some z) : g_K (g_XM D cA b) yX12_partsPortable Y_X12_partsPortable 3 0 0 k [.ref 0, .int a1] (μ, g_rfM) (fun r1 σ1 => r1 = some (.int z.1) ∧ σ1 = (z.2, g_rfM)) := by
  unfold f_X12_partsPortable at h
  refine g_met 0 (by decide) rfl rfl (Nat.le_of_ble_eq_true rfl) ?_
  refine g_aload_n dX12_partsPortable_0 rfl ?_
  refine g_bipush (v := 40) dX12_partsPortable_1 (by decide) ?_
  obtain ⟨μ3, q2, h⟩ := g_bind h
  refine m_cVv mt_X12_runs ml_X12_369 mv_X12_runs dX12_partsPortable_3 (k_X12_runs q2) rfl rfl rfl rfl (by decide) ⟨Nat.le_refl _, Nat.le_refl _⟩ (Nat.le_of_ble_eq_true rfl) ?_
  refine g_aload_n dX12_partsPortable_6 rfl ?_
  refine g_iload_n dX12_partsPortable_7 rfl ?_
  obtain ⟨⟨x4, μ6⟩, q5, h⟩ := g_bind h
  refine m_cV mt_X12_partsPlain ml_X12_393 mv_X12_partsPlain dX12_partsPortable_8 (k_X12_partsPlain q5) rfl rfl rfl rfl (by decide) ⟨Nat.le_refl _, Nat.le_refl _⟩ (Nat.le_of_ble_eq_true rfl) ?_
  refine g_aload_n dX12_partsPortable_11 rfl ?_
  refine m_getI fl_X12_384 rfl rfl dX12_partsPortable_12 ?_
  refine g_iadd dX12_partsPortable_15 ?_
  obtain rfl := Option.some.inj h
  exact g_iret rfl (Nat.le_refl _) rfl dX12_partsPortable_16 ⟨rfl, rfl⟩
set_option maxRecDepth 100000 in
set_option maxHeartbeats 4000000 in
theorem k_X12_parts {D : va_G} {cA : Nat → ClassId} {b k : Nat} {a1 : Int32} {μ : g_M} {z : Int32 × g_M} (h : f_X12_parts a1 μ = some z) : g_K (g_XM D cA b) yX12_parts Y_X12_parts 4 0 0 k [.ref 0, .int a1] (μ, g_rfM) (fun r1 σ1 => r1 = some (.int z.1) ∧ σ1 = (z.2, g_rfM)) := by
  unfold f_X12_parts at h
  refine g_met 1 (by decide) rfl rfl (Nat.le_of_ble_eq_true rfl) ?_
  refine g_aload_n dX12_parts_0 rfl ?_
  refine m_getI fl_X12_375 rfl rfl dX12_parts_1 ?_
  refine g_ic4 dX12_parts_4 ?_
  refine g_icmp_ne 14 (by decide) dX12_parts_5 (fun c1 => ?_) (fun c1 => ?_)
  · have h := g_ifn c1 h
    refine g_aload_n dX12_parts_14 rfl ?_
    refine m_getI fl_X12_375 rfl rfl dX12_parts_15 ?_
    refine g_ic5 dX12_parts_18 ?_
    refine g_icmp_eq 28 (by decide) dX12_parts_19 (fun c2 => ?_) (fun c2 => ?_)
    · have h := g_ifp c2 h
      refine g_aload_n dX12_parts_28 rfl ?_
      refine g_bipush (v := 61) dX12_parts_29 (by decide) ?_
      obtain ⟨μ5, q4, h⟩ := g_bind h
      refine m_cVv mt_X12_runs ml_X12_369 mv_X12_runs dX12_parts_31 (k_X12_runs q4) rfl rfl rfl rfl (by decide) ⟨Nat.le_refl _, Nat.le_refl _⟩ (Nat.le_of_ble_eq_true rfl) ?_
      refine g_aload_n dX12_parts_34 rfl ?_
      refine g_iload_n dX12_parts_35 rfl ?_
      obtain ⟨⟨x6, μ8⟩, q7, h⟩ := g_bind h
      refine m_cV mt_X12_partsPortable ml_X12_396 mv_X12_partsPortable dX12_parts_36 (k_X12_partsPortable q7) rfl rfl rfl rfl (by decide) ⟨Nat.le_refl _, Nat.le_refl _⟩ (Nat.le_of_ble_eq_true rfl) ?_
      refine g_istore_2 rfl (Nat.le_of_ble_eq_true rfl) dX12_parts_39 ?_
      refine g_aload_n dX12_parts_40 rfl ?_
      refine m_getI fl_X12_390 rfl rfl dX12_parts_41 ?_
      refine g_if_eq 51 (by decide) dX12_parts_44 (fun c9 => ?_) (fun c9 => ?_)
      · have h := g_ifp c9 h
        refine g_iload_n dX12_parts_51 rfl ?_
        refine g_aload_n dX12_parts_52 rfl ?_
        refine g_aload_n dX12_parts_53 rfl ?_
        refine m_getI fl_X12_372 rfl rfl dX12_parts_54 ?_
        obtain ⟨⟨x10, μ12⟩, q11, h⟩ := g_bind h
        refine m_cV mt_X12_glows ml_X12_381 mv_X12_glows dX12_parts_57 (k_X12_glows q11) rfl rfl rfl rfl (by decide) ⟨Nat.le_refl _, Nat.le_refl _⟩ (Nat.le_of_ble_eq_true rfl) ?_
        refine g_isub dX12_parts_60 ?_
        obtain rfl := Option.some.inj h
        exact g_iret rfl (Nat.le_refl _) rfl dX12_parts_61 ⟨rfl, rfl⟩
      · have h := g_ifn c9 h
        refine g_ic0 dX12_parts_47 ?_
        refine g_goto 61 (by decide) dX12_parts_48 ?_
        obtain rfl := Option.some.inj h
        exact g_iret rfl (Nat.le_refl _) rfl dX12_parts_61 ⟨rfl, rfl⟩
    · have h := g_ifn c2 h
      refine g_aload_n dX12_parts_22 rfl ?_
      refine g_iload_n dX12_parts_23 rfl ?_
      obtain ⟨⟨x13, μ15⟩, q14, h⟩ := g_bind h
      refine m_cV mt_X12_partsPlain ml_X12_393 mv_X12_partsPlain dX12_parts_24 (k_X12_partsPlain q14) rfl rfl rfl rfl (by decide) ⟨Nat.le_refl _, Nat.le_refl _⟩ (Nat.le_of_ble_eq_true rfl) ?_
      obtain rfl := Option.some.inj h
      exact g_iret rfl (Nat.le_refl _) rfl dX12_parts_27 ⟨rfl, rfl⟩
  · have h := g_ifp c1 h
    refine g_aload_n dX12_parts_8 rfl ?_
    refine g_iload_n dX12_parts_9 rfl ?_
    obtain ⟨⟨x16, μ18⟩, q17, h⟩ := g_bind h
    refine m_cV mt_X12_partsPortable ml_X12_396 mv_X12_partsPortable dX12_parts_10 (k_X12_partsPortable q17) rfl rfl rfl rfl (by decide) ⟨Nat.le_refl _, Nat.le_refl _⟩ (Nat.le_of_ble_eq_true rfl) ?_
    obtain rfl := Option.some.inj h
    exact g_iret rfl (Nat.le_refl _) rfl dX12_parts_13 ⟨rfl, rfl⟩
set_option maxRecDepth 100000 in
set_option maxHeartbeats 4000000 in
theorem k_X12_wedsPlain {D : va_G} {cA : Nat → ClassId} {b k : Nat} {a1 : Int32} {μ : g_M} {z : Int32 × g_M} (h : f_X12_wedsPlain a1 μ = some z) : g_K (g_XM D cA b) yX12_wedsPlain Y_X12_wedsPlain 6 0 0 k [.ref 0, .int a1] (μ, g_rfM) (fun r1 σ1 => r1 = some (.int z.1) ∧ σ1 = (z.2, g_rfM)) := by
  unfold f_X12_wedsPlain at h
  refine g_met 0 (by decide) rfl rfl (Nat.le_of_ble_eq_true rfl) ?_
  refine g_aload_n dX12_wedsPlain_0 rfl ?_
  refine g_bipush (v := 13) dX12_wedsPlain_1 (by decide) ?_
  obtain ⟨μ3, q2, h⟩ := g_bind h
  refine m_cVv mt_X12_runs ml_X12_369 mv_X12_runs dX12_wedsPlain_3 (k_X12_runs q2) rfl rfl rfl rfl (by decide) ⟨Nat.le_refl _, Nat.le_refl _⟩ (Nat.le_of_ble_eq_true rfl) ?_
  refine g_aload_n dX12_wedsPlain_6 rfl ?_
  refine g_iload_n dX12_wedsPlain_7 rfl ?_
  obtain ⟨⟨x4, μ6⟩, q5, h⟩ := g_bind h
  refine m_cV mt_X12_longsActs ml_X12_399 mv_X12_longsActs dX12_wedsPlain_8 (k_X12_longsActs q5) rfl rfl rfl rfl (by decide) ⟨Nat.le_refl _, Nat.le_refl _⟩ (Nat.le_of_ble_eq_true rfl) ?_
  refine g_ic1 dX12_wedsPlain_11 ?_
  refine g_iadd dX12_wedsPlain_12 ?_
  obtain rfl := Option.some.inj h
  exact g_iret rfl (Nat.le_refl _) rfl dX12_wedsPlain_13 ⟨rfl, rfl⟩
set_option maxRecDepth 100000 in
set_option maxHeartbeats 4000000 in
theorem k_X12_wedsActs {D : va_G} {cA : Nat → ClassId} {b k : Nat} {a1 : Int32} {μ : g_M} {z : Int32 × g_M} (h : f_X12_wedsActs a1 μ = some z) : g_K (g_XM D cA b) yX12_wedsActs Y_X12_wedsActs 7 0 0 k [.ref 0, .int a1] (μ, g_rfM) (fun r1 σ1 => r1 = some (.int z.1) ∧ σ1 = (z.2, g_rfM)) := by
  unfold f_X12_wedsActs at h
  refine g_met 1 (by decide) rfl rfl (Nat.le_of_ble_eq_true rfl) ?_
  refine g_aload_n dX12_wedsActs_0 rfl ?_
  refine m_getI fl_X12_375 rfl rfl dX12_wedsActs_1 ?_
  refine g_ic3 dX12_wedsActs_4 ?_
  refine g_icmp_eq 14 (by decide) dX12_wedsActs_5 (fun c1 => ?_) (fun c1 => ?_)
  · have h := g_ifp c1 h
    refine g_aload_n dX12_wedsActs_14 rfl ?_
    refine g_bipush (v := 51) dX12_wedsActs_15 (by decide) ?_
    obtain ⟨μ4, q3, h⟩ := g_bind h
    refine m_cVv mt_X12_runs ml_X12_369 mv_X12_runs dX12_wedsActs_17 (k_X12_runs q3) rfl rfl rfl rfl (by decide) ⟨Nat.le_refl _, Nat.le_refl _⟩ (Nat.le_of_ble_eq_true rfl) ?_
    refine g_aload_n dX12_wedsActs_20 rfl ?_
    refine g_iload_n dX12_wedsActs_21 rfl ?_
    obtain ⟨⟨x5, μ7⟩, q6, h⟩ := g_bind h
    refine m_cV mt_X12_wedsPlain ml_X12_402 mv_X12_wedsPlain dX12_wedsActs_22 (k_X12_wedsPlain q6) rfl rfl rfl rfl (by decide) ⟨Nat.le_refl _, Nat.le_refl _⟩ (Nat.le_of_ble_eq_true rfl) ?_
    refine g_istore_2 rfl (Nat.le_of_ble_eq_true rfl) dX12_wedsActs_25 ?_
    refine g_iload_n dX12_wedsActs_26 rfl ?_
    refine g_aload_n dX12_wedsActs_27 rfl ?_
    refine g_iload_n dX12_wedsActs_28 rfl ?_
    obtain ⟨⟨x8, μ10⟩, q9, h⟩ := g_bind h
    refine m_cV mt_X12_parts ml_X12_405 mv_X12_parts dX12_wedsActs_29 (k_X12_parts q9) rfl rfl rfl rfl (by decide) ⟨Nat.le_refl _, Nat.le_refl _⟩ (Nat.le_of_ble_eq_true rfl) ?_
    refine g_imul dX12_wedsActs_32 ?_
    obtain rfl := Option.some.inj h
    exact g_iret rfl (Nat.le_refl _) rfl dX12_wedsActs_33 ⟨rfl, rfl⟩
  · have h := g_ifn c1 h
    refine g_aload_n dX12_wedsActs_8 rfl ?_
    refine g_iload_n dX12_wedsActs_9 rfl ?_
    obtain ⟨⟨x11, μ13⟩, q12, h⟩ := g_bind h
    refine m_cV mt_X12_wedsPlain ml_X12_402 mv_X12_wedsPlain dX12_wedsActs_10 (k_X12_wedsPlain q12) rfl rfl rfl rfl (by decide) ⟨Nat.le_refl _, Nat.le_refl _⟩ (Nat.le_of_ble_eq_true rfl) ?_
    obtain rfl := Option.some.inj h
    exact g_iret rfl (Nat.le_refl _) rfl dX12_wedsActs_13 ⟨rfl, rfl⟩
set_option maxRecDepth 100000 in
set_option maxHeartbeats 4000000 in
theorem k_X12_act {D : va_G} {cA : Nat → ClassId} {b k : Nat} {a1 : Int32} {a2 : Int32} {a3 : Int32} {μ : g_M} {z : Int32 × g_M} (h : f_X12_act a1 a2 a3 μ = some z) : g_K (g_XM D cA b) yX12_act Y_X12_act 8 0 0 k [.ref 0, .int a1, .int a2, .int a3] (μ, g_rfM) (fun r1 σ1 => r1 = some (.int z.1) ∧ σ1 = (z.2, g_rfM)) := by
  unfold f_X12_act at h
  refine g_met 1 (by decide) rfl rfl (Nat.le_of_ble_eq_true rfl) ?_
  refine g_aload_n dX12_act_0 rfl ?_
  refine g_ic0 dX12_act_1 ?_
  obtain ⟨μ1, eμ1, h⟩ := g_let h
  refine m_putI fl_X12_366 fw_12_40 rfl rfl rfl rfl dX12_act_2 eμ1 ?_
  refine g_iload_n dX12_act_5 rfl ?_
  refine m_cS mt_X12_isShelf ml_X12_356 ms_X12_isShelf dX12_act_6 (k_X12_isShelf rfl) rfl rfl (by decide) ⟨Nat.le_refl _, Nat.le_refl _⟩ (Nat.le_of_ble_eq_true rfl) ?_
  refine g_if_eq 33 (by decide) dX12_act_9 (fun c2 => ?_) (fun c2 => ?_)
  · have h := g_ifp c2 h
    refine g_ic0 dX12_act_33 ?_
    obtain rfl := Option.some.inj h
    exact g_iret rfl (Nat.le_refl _) rfl dX12_act_34 ⟨rfl, rfl⟩
  · have h := g_ifn c2 h
    refine g_iload_n dX12_act_12 rfl ?_
    refine g_i2l dX12_act_13 ?_
    refine g_lc0 dX12_act_14 ?_
    refine g_ldc2 kc_X12_300 dX12_act_15 ?_
    refine m_cS mt_X12_isIn ml_X12_66 ms_X12_isIn dX12_act_18 (k_X12_isIn rfl) rfl rfl (by decide) ⟨Nat.le_refl _, Nat.le_refl _⟩ (Nat.le_of_ble_eq_true rfl) ?_
    refine g_if_eq 33 (by decide) dX12_act_21 (fun c3 => ?_) (fun c3 => ?_)
    · have h := g_ifp c3 h
      refine g_ic0 dX12_act_33 ?_
      obtain rfl := Option.some.inj h
      exact g_iret rfl (Nat.le_refl _) rfl dX12_act_34 ⟨rfl, rfl⟩
    · have h := g_ifn c3 h
      refine g_aload_n dX12_act_24 rfl ?_
      refine g_iload_n dX12_act_25 rfl ?_
      obtain ⟨x4, q5, h⟩ := g_bind h
      refine m_cV mt_X12_heldOn ml_X12_363 mv_X12_heldOn dX12_act_26 (k_X12_heldOn q5) rfl rfl rfl rfl (by decide) ⟨Nat.le_refl _, Nat.le_refl _⟩ (Nat.le_of_ble_eq_true rfl) ?_
      refine g_ic1 dX12_act_29 ?_
      refine g_icmp_eq 35 (by decide) dX12_act_30 (fun c6 => ?_) (fun c6 => ?_)
      · have h := g_ifp c6 h
        refine g_aload_n dX12_act_35 rfl ?_
        refine g_ic0 dX12_act_36 ?_
        obtain ⟨μ7, eμ7, h⟩ := g_let h
        refine m_putI fl_X12_390 fw_12_44 rfl rfl rfl rfl dX12_act_37 eμ7 ?_
        refine g_aload_n dX12_act_40 rfl ?_
        refine g_aload_n dX12_act_41 rfl ?_
        refine g_aload_n dX12_act_42 rfl ?_
        refine m_getR fl_X12_55 rfl rfl rfl dX12_act_43 ?_
        refine g_iload_n dX12_act_46 rfl ?_
        obtain ⟨x8, qx8, h⟩ := g_bind h
        refine m_iald rfl qx8 dX12_act_47 ?_
        refine g_ic0 dX12_act_48 ?_
        obtain ⟨x9, q10, h⟩ := g_bind h
        refine m_cV mt_X12_its ml_X12_78 mv_X12_its dX12_act_49 (k_X12_its q10) rfl rfl rfl rfl (by decide) ⟨Nat.le_refl _, Nat.le_refl _⟩ (Nat.le_of_ble_eq_true rfl) ?_
        obtain ⟨μ11, eμ11, h⟩ := g_let h
        refine m_putI fl_X12_375 fw_12_41 rfl rfl rfl rfl dX12_act_52 eμ11 ?_
        refine g_aload_n dX12_act_55 rfl ?_
        refine g_aload_n dX12_act_56 rfl ?_
        refine m_getR fl_X12_55 rfl rfl rfl dX12_act_57 ?_
        refine g_iload_n dX12_act_60 rfl ?_
        obtain ⟨x12, qx12, h⟩ := g_bind h
        refine m_iald rfl qx12 dX12_act_61 ?_
        obtain ⟨μ13, eμ13, h⟩ := g_let h
        refine m_putI fl_X12_372 fw_12_42 rfl rfl rfl rfl dX12_act_62 eμ13 ?_
        refine g_aload_n dX12_act_65 rfl ?_
        refine g_aload_n dX12_act_66 rfl ?_
        refine g_aload_n dX12_act_67 rfl ?_
        refine m_getR fl_X12_55 rfl rfl rfl dX12_act_68 ?_
        refine g_iload_n dX12_act_71 rfl ?_
        obtain ⟨x14, qx14, h⟩ := g_bind h
        refine m_iald rfl qx14 dX12_act_72 ?_
        refine g_ic3 dX12_act_73 ?_
        obtain ⟨x15, q16, h⟩ := g_bind h
        refine m_cV mt_X12_its ml_X12_78 mv_X12_its dX12_act_74 (k_X12_its q16) rfl rfl rfl rfl (by decide) ⟨Nat.le_refl _, Nat.le_refl _⟩ (Nat.le_of_ble_eq_true rfl) ?_
        obtain ⟨μ17, eμ17, h⟩ := g_let h
        refine m_putI fl_X12_384 fw_12_43 rfl rfl rfl rfl dX12_act_77 eμ17 ?_
        refine g_iload_n dX12_act_80 rfl ?_
        refine g_if_ne 92 (by decide) dX12_act_81 (fun c18 => ?_) (fun c18 => ?_)
        · have h := g_ifn c18 h
          refine g_iload_n dX12_act_92 rfl ?_
          refine g_ic1 dX12_act_93 ?_
          refine g_icmp_ne 105 (by decide) dX12_act_94 (fun c19 => ?_) (fun c19 => ?_)
          · have h := g_ifn c19 h
            refine g_iload_n dX12_act_105 rfl ?_
            refine g_ic2 dX12_act_106 ?_
            refine g_icmp_ne 118 (by decide) dX12_act_107 (fun c20 => ?_) (fun c20 => ?_)
            · have h := g_ifn c20 h
              refine g_aload_n dX12_act_118 rfl ?_
              refine g_iload_n dX12_act_119 rfl ?_
              obtain ⟨⟨x21, μ23⟩, q22, h⟩ := g_bind h
              refine m_cV mt_X12_wedsActs ml_X12_408 mv_X12_wedsActs dX12_act_120 (k_X12_wedsActs q22) rfl rfl rfl rfl (by decide) ⟨Nat.le_refl _, Nat.le_refl _⟩ (Nat.le_of_ble_eq_true rfl) ?_
              refine g_istore_4 rfl (Nat.le_of_ble_eq_true rfl) dX12_act_123 ?_
              refine g_aload_n dX12_act_125 rfl ?_
              refine m_getI fl_X12_390 rfl rfl dX12_act_126 ?_
              refine g_if_eq 137 (by decide) dX12_act_129 (fun c24 => ?_) (fun c24 => ?_)
              · have h := g_ifp c24 h
                refine g_iload dX12_act_137 rfl ?_
                obtain rfl := Option.some.inj h
                exact g_iret rfl (Nat.le_refl _) rfl dX12_act_139 ⟨rfl, rfl⟩
              · have h := g_ifn c24 h
                refine g_bipush (v := (-15)) dX12_act_132 (by decide) ?_
                refine g_goto 139 (by decide) dX12_act_134 ?_
                obtain rfl := Option.some.inj h
                exact g_iret rfl (Nat.le_refl _) rfl dX12_act_139 ⟨rfl, rfl⟩
            · have h := g_ifp c20 h
              refine g_aload_n dX12_act_110 rfl ?_
              refine g_iload_n dX12_act_111 rfl ?_
              obtain ⟨⟨x25, μ27⟩, q26, h⟩ := g_bind h
              refine m_cV mt_X12_parts ml_X12_405 mv_X12_parts dX12_act_112 (k_X12_parts q26) rfl rfl rfl rfl (by decide) ⟨Nat.le_refl _, Nat.le_refl _⟩ (Nat.le_of_ble_eq_true rfl) ?_
              refine g_goto 123 (by decide) dX12_act_115 ?_
              refine g_istore_4 rfl (Nat.le_of_ble_eq_true rfl) dX12_act_123 ?_
              refine g_aload_n dX12_act_125 rfl ?_
              refine m_getI fl_X12_390 rfl rfl dX12_act_126 ?_
              refine g_if_eq 137 (by decide) dX12_act_129 (fun c28 => ?_) (fun c28 => ?_)
              · have h := g_ifp c28 h
                refine g_iload dX12_act_137 rfl ?_
                obtain rfl := Option.some.inj h
                exact g_iret rfl (Nat.le_refl _) rfl dX12_act_139 ⟨rfl, rfl⟩
              · have h := g_ifn c28 h
                refine g_bipush (v := (-15)) dX12_act_132 (by decide) ?_
                refine g_goto 139 (by decide) dX12_act_134 ?_
                obtain rfl := Option.some.inj h
                exact g_iret rfl (Nat.le_refl _) rfl dX12_act_139 ⟨rfl, rfl⟩
          · have h := g_ifp c19 h
            refine g_aload_n dX12_act_97 rfl ?_
            refine g_iload_n dX12_act_98 rfl ?_
            obtain ⟨⟨x29, μ31⟩, q30, h⟩ := g_bind h
            refine m_cV mt_X12_longsActs ml_X12_399 mv_X12_longsActs dX12_act_99 (k_X12_longsActs q30) rfl rfl rfl rfl (by decide) ⟨Nat.le_refl _, Nat.le_refl _⟩ (Nat.le_of_ble_eq_true rfl) ?_
            refine g_goto 123 (by decide) dX12_act_102 ?_
            refine g_istore_4 rfl (Nat.le_of_ble_eq_true rfl) dX12_act_123 ?_
            refine g_aload_n dX12_act_125 rfl ?_
            refine m_getI fl_X12_390 rfl rfl dX12_act_126 ?_
            refine g_if_eq 137 (by decide) dX12_act_129 (fun c32 => ?_) (fun c32 => ?_)
            · have h := g_ifp c32 h
              refine g_iload dX12_act_137 rfl ?_
              obtain rfl := Option.some.inj h
              exact g_iret rfl (Nat.le_refl _) rfl dX12_act_139 ⟨rfl, rfl⟩
            · have h := g_ifn c32 h
              refine g_bipush (v := (-15)) dX12_act_132 (by decide) ?_
              refine g_goto 139 (by decide) dX12_act_134 ?_
              obtain rfl := Option.some.inj h
              exact g_iret rfl (Nat.le_refl _) rfl dX12_act_139 ⟨rfl, rfl⟩
        · have h := g_ifp c18 h
          refine g_aload_n dX12_act_84 rfl ?_
          refine g_iload_n dX12_act_85 rfl ?_
          obtain ⟨⟨x33, μ35⟩, q34, h⟩ := g_bind h
          refine m_cV mt_X12_glows ml_X12_381 mv_X12_glows dX12_act_86 (k_X12_glows q34) rfl rfl rfl rfl (by decide) ⟨Nat.le_refl _, Nat.le_refl _⟩ (Nat.le_of_ble_eq_true rfl) ?_
          refine g_goto 123 (by decide) dX12_act_89 ?_
          refine g_istore_4 rfl (Nat.le_of_ble_eq_true rfl) dX12_act_123 ?_
          refine g_aload_n dX12_act_125 rfl ?_
          refine m_getI fl_X12_390 rfl rfl dX12_act_126 ?_
          refine g_if_eq 137 (by decide) dX12_act_129 (fun c36 => ?_) (fun c36 => ?_)
          · have h := g_ifp c36 h
            refine g_iload dX12_act_137 rfl ?_
            obtain rfl := Option.some.inj h
            exact g_iret rfl (Nat.le_refl _) rfl dX12_act_139 ⟨rfl, rfl⟩
          · have h := g_ifn c36 h
            refine g_bipush (v := (-15)) dX12_act_132 (by decide) ?_
            refine g_goto 139 (by decide) dX12_act_134 ?_
            obtain rfl := Option.some.inj h
            exact g_iret rfl (Nat.le_refl _) rfl dX12_act_139 ⟨rfl, rfl⟩
      · have h := g_ifn c6 h
        refine g_ic0 dX12_act_33 ?_
        obtain rfl := Option.some.inj h
        exact g_iret rfl (Nat.le_refl _) rfl dX12_act_34 ⟨rfl, rfl⟩
set_option maxRecDepth 100000 in
set_option maxHeartbeats 4000000 in
theorem k_X12_trace {D : va_G} {cA : Nat → ClassId} {b k : Nat} {a1 : Int32} {μ : g_M} {z : Int32} (h : f_X12_trace a1 μ = some z) : g_K (g_XM D cA b) yX12_trace Y_X12_trace 2 0 0 k [.ref 0, .int a1] (μ, g_rfM) (fun r1 σ1 => r1 = some (.int z) ∧ σ1 = (μ, g_rfM)) := by
  unfold f_X12_trace at h
  refine g_met 0 (by decide) rfl rfl (Nat.le_of_ble_eq_true rfl) ?_
  refine g_iload_n dX12_trace_0 rfl ?_
  refine g_i2l dX12_trace_1 ?_
  refine g_lc0 dX12_trace_2 ?_
  refine g_aload_n dX12_trace_3 rfl ?_
  refine m_getI fl_X12_366 rfl rfl dX12_trace_4 ?_
  refine g_ic1 dX12_trace_7 ?_
  refine g_isub dX12_trace_8 ?_
  refine g_i2l dX12_trace_9 ?_
  refine m_cS mt_X12_isIn ml_X12_66 ms_X12_isIn dX12_trace_10 (k_X12_isIn rfl) rfl rfl (by decide) ⟨Nat.le_refl _, Nat.le_refl _⟩ (Nat.le_of_ble_eq_true rfl) ?_
  refine g_if_eq 25 (by decide) dX12_trace_13 (fun c1 => ?_) (fun c1 => ?_)
  · have h := g_ifp c1 h
    refine g_bipush (v := (-3)) dX12_trace_25 (by decide) ?_
    obtain rfl := Option.some.inj h
    exact g_iret rfl (Nat.le_refl _) rfl dX12_trace_27 ⟨rfl, rfl⟩
  · have h := g_ifn c1 h
    refine g_aload_n dX12_trace_16 rfl ?_
    refine m_getR fl_X12_61 rfl rfl rfl dX12_trace_17 ?_
    refine g_iload_n dX12_trace_20 rfl ?_
    obtain ⟨x2, qx2, h⟩ := g_bind h
    refine m_iald rfl qx2 dX12_trace_21 ?_
    refine g_goto 27 (by decide) dX12_trace_22 ?_
    obtain rfl := Option.some.inj h
    exact g_iret rfl (Nat.le_refl _) rfl dX12_trace_27 ⟨rfl, rfl⟩
set_option maxRecDepth 100000 in
set_option maxHeartbeats 4000000 in
theorem k_X12_many {D : va_G} {cA : Nat → ClassId} {b k : Nat} {N : Nat} {a1 : Int32} {μ : g_M} {z : Int32} (h : f_X12_many N a1 μ = some z) : g_K (g_XM D cA b) yX12_many Y_X12_many 3 0 0 k [.ref 0, .int a1] (μ, g_rfM) (fun r1 σ1 => r1 = some (.int z) ∧ σ1 = (μ, g_rfM)) := by
  unfold f_X12_many at h
  refine g_met 0 (by decide) rfl rfl (Nat.le_of_ble_eq_true rfl) ?_
  refine g_iload_n dX12_many_0 rfl ?_
  by_cases c1 : a1 = 0
  · have h := g_ifp c1 h
    refine m_tab 0 44 c1 dX12_many_1 (by decide) (by decide) rfl (by decide) ?_
    refine g_aload_n dX12_many_44 rfl ?_
    refine m_getR fl_X12_7 rfl rfl rfl dX12_many_45 ?_
    refine g_ic0 dX12_many_48 ?_
    refine m_ialdc 0 rfl rfl (by decide) (by decide) dX12_many_49 ?_
    obtain rfl := Option.some.inj h
    exact g_iret rfl (Nat.le_refl _) rfl dX12_many_50 ⟨rfl, rfl⟩
  have h := g_ifn c1 h
  by_cases c2 : a1 = 1
  · have h := g_ifp c2 h
    refine m_tab 1 51 c2 dX12_many_1 (by decide) (by decide) rfl (by decide) ?_
    refine g_aload_n dX12_many_51 rfl ?_
    refine m_getR fl_X12_7 rfl rfl rfl dX12_many_52 ?_
    refine g_ic5 dX12_many_55 ?_
    refine m_ialdc 5 rfl rfl (by decide) (by decide) dX12_many_56 ?_
    obtain rfl := Option.some.inj h
    exact g_iret rfl (Nat.le_refl _) rfl dX12_many_57 ⟨rfl, rfl⟩
  have h := g_ifn c2 h
  by_cases c3 : a1 = 2
  · have h := g_ifp c3 h
    refine m_tab 2 58 c3 dX12_many_1 (by decide) (by decide) rfl (by decide) ?_
    refine g_aload_n dX12_many_58 rfl ?_
    obtain ⟨x4, q5, h⟩ := g_bind h
    refine m_cV mt_X12_home ml_X12_137 mv_X12_home dX12_many_59 (k_X12_home q5) rfl rfl rfl rfl (by decide) ⟨Nat.le_refl _, Nat.le_refl _⟩ (Nat.le_of_ble_eq_true rfl) ?_
    obtain ⟨x6, q7, h⟩ := g_bind h
    refine m_cS mt_X12_size ml_X12_263 ms_X12_size dX12_many_62 (k_X12_size q7) rfl rfl (by decide) ⟨Nat.le_refl _, Nat.le_refl _⟩ (Nat.le_of_ble_eq_true rfl) ?_
    obtain rfl := Option.some.inj h
    exact g_iret rfl (Nat.le_refl _) rfl dX12_many_65 ⟨rfl, rfl⟩
  have h := g_ifn c3 h
  by_cases c8 : a1 = 3
  · have h := g_ifp c8 h
    refine m_tab 3 66 c8 dX12_many_1 (by decide) (by decide) rfl (by decide) ?_
    refine g_aload_n dX12_many_66 rfl ?_
    refine m_getR fl_X12_7 rfl rfl rfl dX12_many_67 ?_
    refine g_bipush (v := 6) dX12_many_70 (by decide) ?_
    refine m_ialdc 6 rfl rfl (by decide) (by decide) dX12_many_72 ?_
    obtain rfl := Option.some.inj h
    exact g_iret rfl (Nat.le_refl _) rfl dX12_many_73 ⟨rfl, rfl⟩
  have h := g_ifn c8 h
  by_cases c9 : a1 = 4
  · have h := g_ifp c9 h
    refine m_tab 4 74 c9 dX12_many_1 (by decide) (by decide) rfl (by decide) ?_
    refine g_aload_n dX12_many_74 rfl ?_
    refine m_getI fl_X12_336 rfl rfl dX12_many_75 ?_
    obtain rfl := Option.some.inj h
    exact g_iret rfl (Nat.le_refl _) rfl dX12_many_78 ⟨rfl, rfl⟩
  have h := g_ifn c9 h
  by_cases c10 : a1 = 5
  · have h := g_ifp c10 h
    refine m_tab 5 79 c10 dX12_many_1 (by decide) (by decide) rfl (by decide) ?_
    refine g_aload_n dX12_many_79 rfl ?_
    refine m_getI fl_X12_143 rfl rfl dX12_many_80 ?_
    obtain rfl := Option.some.inj h
    exact g_iret rfl (Nat.le_refl _) rfl dX12_many_83 ⟨rfl, rfl⟩
  have h := g_ifn c10 h
  by_cases c11 : a1 = 6
  · have h := g_ifp c11 h
    refine m_tab 6 84 c11 dX12_many_1 (by decide) (by decide) rfl (by decide) ?_
    refine g_aload_n dX12_many_84 rfl ?_
    refine m_getI fl_X12_366 rfl rfl dX12_many_85 ?_
    obtain rfl := Option.some.inj h
    exact g_iret rfl (Nat.le_refl _) rfl dX12_many_88 ⟨rfl, rfl⟩
  have h := g_ifn c11 h
  refine g_tabOut 89 dX12_many_1 (by have nc1 := m_ne 0 0 c1 (by decide); have nc2 := m_ne 1 1 c2 (by decide); have nc3 := m_ne 2 2 c3 (by decide); have nc8 := m_ne 3 3 c8 (by decide); have nc9 := m_ne 4 4 c9 (by decide); have nc10 := m_ne 5 5 c10 (by decide); have nc11 := m_ne 6 6 c11 (by decide); omega) (by decide) ?_
  refine g_icm1 dX12_many_89 ?_
  obtain rfl := Option.some.inj h
  exact g_iret rfl (Nat.le_refl _) rfl dX12_many_90 ⟨rfl, rfl⟩
set_option maxRecDepth 100000 in
set_option maxHeartbeats 4000000 in
theorem k_X12_keep_L2 {D : va_G} {cA : Nat → ClassId} {b k : Nat} {Q : Option Value → g_S → Prop} {N : Nat} : ∀ (n : Nat) (x_1 : Int32) (μ : g_M) (z_μ : g_M), f_X12_keep_L2 N n x_1 μ = some z_μ → g_V (g_XM D cA b) Y_X12_keep 1 0 0 Q k 0 0 27 [some (.ref 0), none] [] (z_μ, g_rfM) → g_V (g_XM D cA b) Y_X12_keep 1 0 0 Q k 0 0 2 [some (.ref 0), some (.int x_1)] [] (μ, g_rfM) := by
  intro n
  induction n with
  | zero =>
    intro x_1 μ z_μ h
    rw [f_X12_keep_L2] at h
    cases h
  | succ n ih =>
    intro x_1 μ z_μ h hc
    rw [f_X12_keep_L2] at h
    refine g_iload_n dX12_keep_2 rfl ?_
    refine g_sipush (v := 544) dX12_keep_3 (by decide) ?_
    refine g_icmp_ge 27 (by decide) dX12_keep_6 (fun c1 => ?_) (fun c1 => ?_)
    · have h := g_ifp c1 h
      obtain rfl := Option.some.inj h
      exact g_less _ (g_subS (g_subN g_sub0)) hc
    · have h := g_ifn c1 h
      refine g_aload_n dX12_keep_9 rfl ?_
      refine m_getR fl_X12_13 rfl rfl rfl dX12_keep_10 ?_
      refine g_iload_n dX12_keep_13 rfl ?_
      refine g_aload_n dX12_keep_14 rfl ?_
      refine m_getR fl_X12_7 rfl rfl rfl dX12_keep_15 ?_
      refine g_iload_n dX12_keep_18 rfl ?_
      obtain ⟨x2, qx2, h⟩ := g_bind h
      refine m_iald rfl qx2 dX12_keep_19 ?_
      obtain ⟨μ3, qμ3, h⟩ := g_bind h
      refine m_iast rfl qμ3 dX12_keep_20 ?_
      refine g_iinc_1 (v := 1) rfl (by decide) (Nat.le_of_ble_eq_true rfl) dX12_keep_21 ?_
      refine g_goto 2 (by decide) dX12_keep_24 ?_
      exact g_less _ (g_subS (g_subS g_sub0)) (ih _ _ _ h hc)
set_option maxRecDepth 100000 in
set_option maxHeartbeats 4000000 in
theorem k_X12_keep {D : va_G} {cA : Nat → ClassId} {b k : Nat} {N : Nat} {μ : g_M} {z : Int32 × g_M} (h : f_X12_keep N μ = some z) : g_K (g_XM D cA b) yX12_keep Y_X12_keep 1 0 0 k [.ref 0] (μ, g_rfM) (fun r1 σ1 => r1 = some (.int z.1) ∧ σ1 = (z.2, g_rfM)) := by
  unfold f_X12_keep at h
  refine g_met 1 (by decide) rfl rfl (Nat.le_of_ble_eq_true rfl) ?_
  refine g_ic0 dX12_keep_0 ?_
  refine g_istore_1 rfl (Nat.le_of_ble_eq_true rfl) dX12_keep_1 ?_
  obtain ⟨μ1, q2, h⟩ := g_bind h
  refine g_less _ (g_subS (g_subS g_sub0)) (k_X12_keep_L2 _ _ _ _ q2 ?_)
  refine g_aload_n dX12_keep_27 rfl ?_
  refine g_ic1 dX12_keep_28 ?_
  obtain ⟨μ3, eμ3, h⟩ := g_let h
  refine m_putI fl_X12_411 fw_12_2 rfl rfl rfl rfl dX12_keep_29 eμ3 ?_
  refine g_ic1 dX12_keep_32 ?_
  obtain rfl := Option.some.inj h
  exact g_iret rfl (Nat.le_refl _) rfl dX12_keep_33 ⟨rfl, rfl⟩
set_option maxRecDepth 100000 in
set_option maxHeartbeats 4000000 in
theorem k_X12_again_L12 {D : va_G} {cA : Nat → ClassId} {b k : Nat} {Q : Option Value → g_S → Prop} {N : Nat} : ∀ (n : Nat) (x_1 : Int32) (μ : g_M) (z_μ : g_M), f_X12_again_L12 N n x_1 μ = some z_μ → g_V (g_XM D cA b) Y_X12_again 1 0 0 Q k 0 0 37 [some (.ref 0), none] [] (z_μ, g_rfM) → g_V (g_XM D cA b) Y_X12_again 1 0 0 Q k 0 0 12 [some (.ref 0), some (.int x_1)] [] (μ, g_rfM) := by
  intro n
  induction n with
  | zero =>
    intro x_1 μ z_μ h
    rw [f_X12_again_L12] at h
    cases h
  | succ n ih =>
    intro x_1 μ z_μ h hc
    rw [f_X12_again_L12] at h
    refine g_iload_n dX12_again_12 rfl ?_
    refine g_sipush (v := 544) dX12_again_13 (by decide) ?_
    refine g_icmp_ge 37 (by decide) dX12_again_16 (fun c2 => ?_) (fun c2 => ?_)
    · have h := g_ifp c2 h
      obtain rfl := Option.some.inj h
      exact g_less _ (g_subS (g_subN g_sub0)) hc
    · have h := g_ifn c2 h
      refine g_aload_n dX12_again_19 rfl ?_
      refine m_getR fl_X12_7 rfl rfl rfl dX12_again_20 ?_
      refine g_iload_n dX12_again_23 rfl ?_
      refine g_aload_n dX12_again_24 rfl ?_
      refine m_getR fl_X12_13 rfl rfl rfl dX12_again_25 ?_
      refine g_iload_n dX12_again_28 rfl ?_
      obtain ⟨x3, qx3, h⟩ := g_bind h
      refine m_iald rfl qx3 dX12_again_29 ?_
      obtain ⟨μ4, qμ4, h⟩ := g_bind h
      refine m_iast rfl qμ4 dX12_again_30 ?_
      refine g_iinc_1 (v := 1) rfl (by decide) (Nat.le_of_ble_eq_true rfl) dX12_again_31 ?_
      refine g_goto 12 (by decide) dX12_again_34 ?_
      exact g_less _ (g_subS (g_subS g_sub0)) (ih _ _ _ h hc)
set_option maxRecDepth 100000 in
set_option maxHeartbeats 4000000 in
theorem k_X12_again {D : va_G} {cA : Nat → ClassId} {b k : Nat} {N : Nat} {μ : g_M} {z : Int32 × g_M} (h : f_X12_again N μ = some z) : g_K (g_XM D cA b) yX12_again Y_X12_again 1 0 0 k [.ref 0] (μ, g_rfM) (fun r1 σ1 => r1 = some (.int z.1) ∧ σ1 = (z.2, g_rfM)) := by
  unfold f_X12_again at h
  refine g_met 1 (by decide) rfl rfl (Nat.le_of_ble_eq_true rfl) ?_
  refine g_aload_n dX12_again_0 rfl ?_
  refine m_getI fl_X12_411 rfl rfl dX12_again_1 ?_
  refine g_if_ne 10 (by decide) dX12_again_4 (fun c1 => ?_) (fun c1 => ?_)
  · have h := g_ifn c1 h
    refine g_ic0 dX12_again_10 ?_
    refine g_istore_1 rfl (Nat.le_of_ble_eq_true rfl) dX12_again_11 ?_
    obtain ⟨μ2, q3, h⟩ := g_bind h
    refine g_less _ (g_subS (g_subS g_sub0)) (k_X12_again_L12 _ _ _ _ q3 ?_)
    refine g_aload_n dX12_again_37 rfl ?_
    refine m_getR fl_X12_7 rfl rfl rfl dX12_again_38 ?_
    refine g_ic0 dX12_again_41 ?_
    refine m_ialdc 0 rfl rfl (by decide) (by decide) dX12_again_42 ?_
    obtain rfl := Option.some.inj h
    exact g_iret rfl (Nat.le_refl _) rfl dX12_again_43 ⟨rfl, rfl⟩
  · have h := g_ifp c1 h
    refine g_bipush (v := (-3)) dX12_again_7 (by decide) ?_
    obtain rfl := Option.some.inj h
    exact g_iret rfl (Nat.le_refl _) rfl dX12_again_9 ⟨rfl, rfl⟩
