set_option maxRecDepth 100000 in
set_option maxHeartbeats 4000000 in
theorem k_X9_fits_L3 {D : va_G} {cA : Nat → ClassId} {b b2 k : Nat} {dyn : Nat → Nat} {t s : Nat} {Q : Option Value → g_S → Prop} {N : Nat} : ∀ (n : Nat) (x_1 : Int32) (x_2 : Int32) (x_3 : Int32) (x_4 : Int32) (μ : g_M) (z : (Int32) ⊕ (Unit)), f_X9_fits_L3 N n x_1 x_2 x_3 x_4 μ = some z → (∀ q : Int32, z = .inl q → Q (some (.int q)) (μ, (g_rfX t s))) → (z = .inr () → g_V (g_XX D cA b b2 dyn) Y_X9_fits 4 0 0 Q k 0 0 37 [none, none, none, none, none] [] (μ, (g_rfX t s))) → g_V (g_XX D cA b b2 dyn) Y_X9_fits 4 0 0 Q k 0 0 3 [some (.ref 1), some (.int x_1), some (.int x_2), some (.int x_3), some (.int x_4)] [] (μ, (g_rfX t s)) := by
  intro n
  induction n with
  | zero =>
    intro x_1 x_2 x_3 x_4 μ z h
    rw [f_X9_fits_L3] at h
    cases h
  | succ n ih =>
    intro x_1 x_2 x_3 x_4 μ z h hr hc
    rw [f_X9_fits_L3] at h
    refine g_iload dX9_fits_3 rfl ?_
    refine g_aload_n dX9_fits_5 rfl ?_
    refine m_getI fl_X9_95 rfl rfl dX9_fits_6 ?_
    refine g_icmp_ge 37 (by decide) dX9_fits_9 (fun c1 => ?_) (fun c1 => ?_)
    · have h := g_ifp c1 h
      obtain rfl := Option.some.inj h
      exact g_less _ (g_subN (g_subN (g_subN (g_subN (g_subN g_sub0))))) (hc  rfl)
    · have h := g_ifn c1 h
      refine g_iload dX9_fits_12 rfl ?_
      refine g_iload_n dX9_fits_14 rfl ?_
      refine g_icmp_eq 31 (by decide) dX9_fits_15 (fun c2 => ?_) (fun c2 => ?_)
      · have h := g_ifp c2 h
        refine g_iinc_4 (v := 1) rfl (by decide) (Nat.le_of_ble_eq_true rfl) dX9_fits_31 ?_
        refine g_goto 3 (by decide) dX9_fits_34 ?_
        exact g_less _ (g_subS (g_subS (g_subS (g_subS (g_subS g_sub0))))) (ih _ _ _ _ _ _ h hr hc)
      · have h := g_ifn c2 h
        refine g_aload_n dX9_fits_18 rfl ?_
        refine g_iload dX9_fits_19 rfl ?_
        refine g_iload_n dX9_fits_21 rfl ?_
        refine g_iload_n dX9_fits_22 rfl ?_
        obtain ⟨x3, q4, h⟩ := g_bind h
        refine m_cV mt_X9_isSo ml_X9_163 mv_X9_isSo dX9_fits_23 (k_X9_isSo q4) rfl rfl rfl rfl (by decide) ⟨Nat.le_refl _, Nat.le_refl _⟩ (Nat.le_of_ble_eq_true rfl) ?_
        refine g_if_ne 31 (by decide) dX9_fits_26 (fun c5 => ?_) (fun c5 => ?_)
        · have h := g_ifn c5 h
          refine g_iinc_4 (v := 1) rfl (by decide) (Nat.le_of_ble_eq_true rfl) dX9_fits_31 ?_
          refine g_goto 3 (by decide) dX9_fits_34 ?_
          exact g_less _ (g_subS (g_subS (g_subS (g_subS (g_subS g_sub0))))) (ih _ _ _ _ _ _ h hr hc)
        · have h := g_ifp c5 h
          refine g_ic0 dX9_fits_29 ?_
          obtain rfl := Option.some.inj h
          exact g_zret rfl (Nat.le_refl _) rfl rfl dX9_fits_30 (hr _ rfl)
set_option maxRecDepth 100000 in
set_option maxHeartbeats 4000000 in
theorem k_X9_fits {D : va_G} {cA : Nat → ClassId} {b b2 k : Nat} {dyn : Nat → Nat} {t s : Nat} {N : Nat} {a1 : Int32} {a2 : Int32} {a3 : Int32} {μ : g_M} {z : Int32} (h : f_X9_fits N a1 a2 a3 μ = some z) : g_K (g_XX D cA b b2 dyn) yX9_fits Y_X9_fits 4 0 0 k [.ref 1, .int a1, .int a2, .int a3] (μ, (g_rfX t s)) (fun r1 σ1 => r1 = some (.int z) ∧ σ1 = (μ, (g_rfX t s))) := by
  unfold f_X9_fits at h
  refine g_met 1 (by decide) rfl rfl (Nat.le_of_ble_eq_true rfl) ?_
  refine g_ic0 dX9_fits_0 ?_
  refine g_istore_4 rfl (Nat.le_of_ble_eq_true rfl) dX9_fits_1 ?_
  obtain ⟨w2, q1, h⟩ := g_bind h
  refine g_less _ (g_subS (g_subS (g_subS (g_subS (g_subS g_sub0))))) (k_X9_fits_L3 _ _ _ _ _ _ _ q1 ?_ ?_)
  · intro q0 e0
    subst e0
    cases h
    exact ⟨rfl, rfl⟩
  · intro  e0
    subst e0
    try dsimp only at h
    refine g_ic1 dX9_fits_37 ?_
    obtain rfl := Option.some.inj h
    exact g_zret rfl (Nat.le_refl _) rfl rfl dX9_fits_38 ⟨rfl, rfl⟩
set_option maxRecDepth 100000 in
set_option maxHeartbeats 4000000 in
theorem k_X9_fitting_L4 {D : va_G} {cA : Nat → ClassId} {b b2 k : Nat} {dyn : Nat → Nat} {t s : Nat} {Q : Option Value → g_S → Prop} {N : Nat} : ∀ (n : Nat) (x_1 : Int32) (x_2 : Int32) (x_3 : Int32) (μ : g_M) (z_2 : Int32), f_X9_fitting_L4 N n x_1 x_2 x_3 μ = some z_2 → g_V (g_XX D cA b b2 dyn) Y_X9_fitting 5 0 0 Q k 0 0 36 [none, none, some (.int z_2), none] [] (μ, (g_rfX t s)) → g_V (g_XX D cA b b2 dyn) Y_X9_fitting 5 0 0 Q k 0 0 4 [some (.ref 1), some (.int x_1), some (.int x_2), some (.int x_3)] [] (μ, (g_rfX t s)) := by
  intro n
  induction n with
  | zero =>
    intro x_1 x_2 x_3 μ z_2 h
    rw [f_X9_fitting_L4] at h
    cases h
  | succ n ih =>
    intro x_1 x_2 x_3 μ z_2 h hc
    rw [f_X9_fitting_L4] at h
    refine g_iload_n dX9_fitting_4 rfl ?_
    refine g_sipush (v := 160) dX9_fitting_5 (by decide) ?_
    refine g_icmp_ge 36 (by decide) dX9_fitting_8 (fun c1 => ?_) (fun c1 => ?_)
    · have h := g_ifp c1 h
      obtain rfl := Option.some.inj h
      exact g_less _ (g_subN (g_subN (g_subS (g_subN g_sub0)))) hc
    · have h := g_ifn c1 h
      refine g_aload_n dX9_fitting_11 rfl ?_
      refine g_iload_n dX9_fitting_12 rfl ?_
      refine g_bipush (v := 10) dX9_fitting_13 (by decide) ?_
      refine g_idiv dX9_fitting_15 (by decide) ?_
      refine g_iload_n dX9_fitting_16 rfl ?_
      refine g_bipush (v := 10) dX9_fitting_17 (by decide) ?_
      refine g_irem dX9_fitting_19 (by decide) ?_
      refine g_iload_n dX9_fitting_20 rfl ?_
      obtain ⟨x2, q3, h⟩ := g_bind h
      refine m_cV mt_X9_fits ml_X9_167 mv_X9_fits dX9_fitting_21 (k_X9_fits q3) rfl rfl rfl rfl (by decide) ⟨Nat.le_refl _, Nat.le_refl _⟩ (Nat.le_of_ble_eq_true rfl) ?_
      refine g_if_eq 30 (by decide) dX9_fitting_24 (fun c4 => ?_) (fun c4 => ?_)
      · have h := g_ifp c4 h
        refine g_iinc_3 (v := 1) rfl (by decide) (Nat.le_of_ble_eq_true rfl) dX9_fitting_30 ?_
        refine g_goto 4 (by decide) dX9_fitting_33 ?_
        exact g_less _ (g_subS (g_subS (g_subS (g_subS g_sub0)))) (ih _ _ _ _ _ h hc)
      · have h := g_ifn c4 h
        refine g_iinc_2 (v := 1) rfl (by decide) (Nat.le_of_ble_eq_true rfl) dX9_fitting_27 ?_
        refine g_iinc_3 (v := 1) rfl (by decide) (Nat.le_of_ble_eq_true rfl) dX9_fitting_30 ?_
        refine g_goto 4 (by decide) dX9_fitting_33 ?_
        exact g_less _ (g_subS (g_subS (g_subS (g_subS g_sub0)))) (ih _ _ _ _ _ h hc)
set_option maxRecDepth 100000 in
set_option maxHeartbeats 4000000 in
theorem k_X9_fitting {D : va_G} {cA : Nat → ClassId} {b b2 k : Nat} {dyn : Nat → Nat} {t s : Nat} {N : Nat} {a1 : Int32} {μ : g_M} {z : Int32} (h : f_X9_fitting N a1 μ = some z) : g_K (g_XX D cA b b2 dyn) yX9_fitting Y_X9_fitting 5 0 0 k [.ref 1, .int a1] (μ, (g_rfX t s)) (fun r1 σ1 => r1 = some (.int z) ∧ σ1 = (μ, (g_rfX t s))) := by
  unfold f_X9_fitting at h
  refine g_met 2 (by decide) rfl rfl (Nat.le_of_ble_eq_true rfl) ?_
  refine g_ic0 dX9_fitting_0 ?_
  refine g_istore_2 rfl (Nat.le_of_ble_eq_true rfl) dX9_fitting_1 ?_
  refine g_ic0 dX9_fitting_2 ?_
  refine g_istore_3 rfl (Nat.le_of_ble_eq_true rfl) dX9_fitting_3 ?_
  obtain ⟨x1, q2, h⟩ := g_bind h
  refine g_less _ (g_subS (g_subS (g_subS (g_subS g_sub0)))) (k_X9_fitting_L4 _ _ _ _ _ _ q2 ?_)
  refine g_iload_n dX9_fitting_36 rfl ?_
  obtain rfl := Option.some.inj h
  exact g_iret rfl (Nat.le_refl _) rfl dX9_fitting_37 ⟨rfl, rfl⟩
set_option maxRecDepth 100000 in
set_option maxHeartbeats 4000000 in
theorem k_X9_firstFitting_L2 {D : va_G} {cA : Nat → ClassId} {b b2 k : Nat} {dyn : Nat → Nat} {t s : Nat} {Q : Option Value → g_S → Prop} {N : Nat} : ∀ (n : Nat) (x_1 : Int32) (x_2 : Int32) (μ : g_M) (z : (Int32) ⊕ (Unit)), f_X9_firstFitting_L2 N n x_1 x_2 μ = some z → (∀ q : Int32, z = .inl q → Q (some (.int q)) (μ, (g_rfX t s))) → (z = .inr () → g_V (g_XX D cA b b2 dyn) Y_X9_firstFitting 5 0 0 Q k 0 0 33 [none, none, none] [] (μ, (g_rfX t s))) → g_V (g_XX D cA b b2 dyn) Y_X9_firstFitting 5 0 0 Q k 0 0 2 [some (.ref 1), some (.int x_1), some (.int x_2)] [] (μ, (g_rfX t s)) := by
  intro n
  induction n with
  | zero =>
    intro x_1 x_2 μ z h
    rw [f_X9_firstFitting_L2] at h
    cases h
  | succ n ih =>
    intro x_1 x_2 μ z h hr hc
    rw [f_X9_firstFitting_L2] at h
    refine g_iload_n dX9_firstFitting_2 rfl ?_
    refine g_sipush (v := 160) dX9_firstFitting_3 (by decide) ?_
    refine g_icmp_ge 33 (by decide) dX9_firstFitting_6 (fun c1 => ?_) (fun c1 => ?_)
    · have h := g_ifp c1 h
      obtain rfl := Option.some.inj h
      exact g_less _ (g_subN (g_subN (g_subN g_sub0))) (hc  rfl)
    · have h := g_ifn c1 h
      refine g_aload_n dX9_firstFitting_9 rfl ?_
      refine g_iload_n dX9_firstFitting_10 rfl ?_
      refine g_bipush (v := 10) dX9_firstFitting_11 (by decide) ?_
      refine g_idiv dX9_firstFitting_13 (by decide) ?_
      refine g_iload_n dX9_firstFitting_14 rfl ?_
      refine g_bipush (v := 10) dX9_firstFitting_15 (by decide) ?_
      refine g_irem dX9_firstFitting_17 (by decide) ?_
      refine g_iload_n dX9_firstFitting_18 rfl ?_
      obtain ⟨x2, q3, h⟩ := g_bind h
      refine m_cV mt_X9_fits ml_X9_167 mv_X9_fits dX9_firstFitting_19 (k_X9_fits q3) rfl rfl rfl rfl (by decide) ⟨Nat.le_refl _, Nat.le_refl _⟩ (Nat.le_of_ble_eq_true rfl) ?_
      refine g_if_eq 27 (by decide) dX9_firstFitting_22 (fun c4 => ?_) (fun c4 => ?_)
      · have h := g_ifp c4 h
        refine g_iinc_2 (v := 1) rfl (by decide) (Nat.le_of_ble_eq_true rfl) dX9_firstFitting_27 ?_
        refine g_goto 2 (by decide) dX9_firstFitting_30 ?_
        exact g_less _ (g_subS (g_subS (g_subS g_sub0))) (ih _ _ _ _ h hr hc)
      · have h := g_ifn c4 h
        refine g_iload_n dX9_firstFitting_25 rfl ?_
        obtain rfl := Option.some.inj h
        exact g_iret rfl (Nat.le_refl _) rfl dX9_firstFitting_26 (hr _ rfl)
set_option maxRecDepth 100000 in
set_option maxHeartbeats 4000000 in
theorem k_X9_firstFitting {D : va_G} {cA : Nat → ClassId} {b b2 k : Nat} {dyn : Nat → Nat} {t s : Nat} {N : Nat} {a1 : Int32} {μ : g_M} {z : Int32} (h : f_X9_firstFitting N a1 μ = some z) : g_K (g_XX D cA b b2 dyn) yX9_firstFitting Y_X9_firstFitting 5 0 0 k [.ref 1, .int a1] (μ, (g_rfX t s)) (fun r1 σ1 => r1 = some (.int z) ∧ σ1 = (μ, (g_rfX t s))) := by
  unfold f_X9_firstFitting at h
  refine g_met 1 (by decide) rfl rfl (Nat.le_of_ble_eq_true rfl) ?_
  refine g_ic0 dX9_firstFitting_0 ?_
  refine g_istore_2 rfl (Nat.le_of_ble_eq_true rfl) dX9_firstFitting_1 ?_
  obtain ⟨w2, q1, h⟩ := g_bind h
  refine g_less _ (g_subS (g_subS (g_subS g_sub0))) (k_X9_firstFitting_L2 _ _ _ _ _ q1 ?_ ?_)
  · intro q0 e0
    subst e0
    cases h
    exact ⟨rfl, rfl⟩
  · intro  e0
    subst e0
    try dsimp only at h
    refine g_icm1 dX9_firstFitting_33 ?_
    obtain rfl := Option.some.inj h
    exact g_iret rfl (Nat.le_refl _) rfl dX9_firstFitting_34 ⟨rfl, rfl⟩
set_option maxRecDepth 100000 in
set_option maxHeartbeats 4000000 in
theorem k_X11_span {D : va_G} {cA : Nat → ClassId} {b b2 k : Nat} {dyn : Nat → Nat} {t s : Nat} {N : Nat} {a1 : Int32} {μ : g_M} {z : Int32} (h : f_X11_span N a1 μ = some z) : g_K (g_XX D cA b b2 dyn) yX11_span Y_X11_span 6 0 0 k [.ref 0, .int a1] (μ, (g_rfX t s)) (fun r1 σ1 => r1 = some (.int z) ∧ σ1 = (μ, (g_rfX t s))) := by
  unfold f_X11_span at h
  refine g_met 1 (by decide) rfl rfl (Nat.le_of_ble_eq_true rfl) ?_
  refine g_iload_n dX11_span_0 rfl ?_
  refine g_ic0 dX11_span_1 ?_
  refine g_ic2 dX11_span_2 ?_
  refine m_cS mt_X11_isBetween ml_X11_120 ms_X11_isBetween dX11_span_3 (k_X11_isBetween rfl) rfl rfl (by decide) ⟨Nat.le_refl _, Nat.le_refl _⟩ (Nat.le_of_ble_eq_true rfl) ?_
  refine g_if_ne 11 (by decide) dX11_span_6 (fun c1 => ?_) (fun c1 => ?_)
  · have h := g_ifn c1 h
    refine g_iload_n dX11_span_11 rfl ?_
    refine g_if_ne 25 (by decide) dX11_span_12 (fun c2 => ?_) (fun c2 => ?_)
    · have h := g_ifn c2 h
      refine g_aload_n dX11_span_25 rfl ?_
      refine m_getR fl_X11_10 rfl rfl rfl dX11_span_26 ?_
      refine g_bipush (v := 6) dX11_span_29 (by decide) ?_
      obtain ⟨x3, q4, h⟩ := g_bind h
      refine m_cV mt_X9_firstFitting ml_X11_259 mv_X9_firstFitting dX11_span_31 (k_X9_firstFitting q4) rfl rfl rfl rfl (by decide) ⟨Nat.le_refl _, Nat.le_refl _⟩ (Nat.le_of_ble_eq_true rfl) ?_
      refine g_istore_2 rfl (Nat.le_of_ble_eq_true rfl) dX11_span_34 ?_
      refine g_iload_n dX11_span_35 rfl ?_
      refine g_if_ge 42 (by decide) dX11_span_36 (fun c5 => ?_) (fun c5 => ?_)
      · have h := g_ifp c5 h
        refine g_iload_n dX11_span_42 rfl ?_
        refine g_ic1 dX11_span_43 ?_
        refine g_icmp_ne 54 (by decide) dX11_span_44 (fun c6 => ?_) (fun c6 => ?_)
        · have h := g_ifn c6 h
          refine g_iload_n dX11_span_54 rfl ?_
          refine g_bipush (v := 10) dX11_span_55 (by decide) ?_
          refine g_irem dX11_span_57 (by decide) ?_
          obtain rfl := Option.some.inj h
          exact g_iret rfl (Nat.le_refl _) rfl dX11_span_58 ⟨rfl, rfl⟩
        · have h := g_ifp c6 h
          refine g_iload_n dX11_span_47 rfl ?_
          refine g_bipush (v := 10) dX11_span_48 (by decide) ?_
          refine g_idiv dX11_span_50 (by decide) ?_
          refine g_goto 58 (by decide) dX11_span_51 ?_
          obtain rfl := Option.some.inj h
          exact g_iret rfl (Nat.le_refl _) rfl dX11_span_58 ⟨rfl, rfl⟩
      · have h := g_ifn c5 h
        refine g_bipush (v := (-3)) dX11_span_39 (by decide) ?_
        obtain rfl := Option.some.inj h
        exact g_iret rfl (Nat.le_refl _) rfl dX11_span_41 ⟨rfl, rfl⟩
    · have h := g_ifp c2 h
      refine g_aload_n dX11_span_15 rfl ?_
      refine m_getR fl_X11_10 rfl rfl rfl dX11_span_16 ?_
      refine g_bipush (v := 6) dX11_span_19 (by decide) ?_
      obtain ⟨x7, q8, h⟩ := g_bind h
      refine m_cV mt_X9_fitting ml_X11_256 mv_X9_fitting dX11_span_21 (k_X9_fitting q8) rfl rfl rfl rfl (by decide) ⟨Nat.le_refl _, Nat.le_refl _⟩ (Nat.le_of_ble_eq_true rfl) ?_
      obtain rfl := Option.some.inj h
      exact g_iret rfl (Nat.le_refl _) rfl dX11_span_24 ⟨rfl, rfl⟩
  · have h := g_ifp c1 h
    refine g_icm1 dX11_span_9 ?_
    obtain rfl := Option.some.inj h
    exact g_iret rfl (Nat.le_refl _) rfl dX11_span_10 ⟨rfl, rfl⟩
set_option maxRecDepth 100000 in
set_option maxHeartbeats 4000000 in
theorem k_X11_liar_L17 {D : va_G} {cA : Nat → ClassId} {b b2 k : Nat} {dyn : Nat → Nat} {t s : Nat} {Q : Option Value → g_S → Prop} {N : Nat} : ∀ (n : Nat) (x_1 : Int32) (μ : g_M) (z : (Int32) ⊕ (Unit)), f_X11_liar_L17 N n x_1 μ = some z → (∀ q : Int32, z = .inl q → Q (some (.int q)) (μ, (g_rfX t s))) → (z = .inr () → g_V (g_XX D cA b b2 dyn) Y_X11_liar 6 0 0 Q k 0 0 47 [none, none] [] (μ, (g_rfX t s))) → g_V (g_XX D cA b b2 dyn) Y_X11_liar 6 0 0 Q k 0 0 17 [some (.ref 0), some (.int x_1)] [] (μ, (g_rfX t s)) := by
  intro n
  induction n with
  | zero =>
    intro x_1 μ z h
    rw [f_X11_liar_L17] at h
    cases h
  | succ n ih =>
    intro x_1 μ z h hr hc
    rw [f_X11_liar_L17] at h
    refine g_iload_n dX11_liar_17 rfl ?_
    refine g_aload_n dX11_liar_18 rfl ?_
    refine m_getR fl_X11_10 rfl rfl rfl dX11_liar_19 ?_
    refine m_getI fl_X11_250 rfl rfl dX11_liar_22 ?_
    refine g_icmp_ge 47 (by decide) dX11_liar_25 (fun c4 => ?_) (fun c4 => ?_)
    · have h := g_ifp c4 h
      obtain rfl := Option.some.inj h
      exact g_less _ (g_subN (g_subN g_sub0)) (hc  rfl)
    · have h := g_ifn c4 h
      refine g_aload_n dX11_liar_28 rfl ?_
      refine m_getR fl_X11_10 rfl rfl rfl dX11_liar_29 ?_
      refine g_iload_n dX11_liar_32 rfl ?_
      obtain ⟨x5, q6, h⟩ := g_bind h
      refine m_cV mt_X9_firstFitting ml_X11_259 mv_X9_firstFitting dX11_liar_33 (k_X9_firstFitting q6) rfl rfl rfl rfl (by decide) ⟨Nat.le_refl _, Nat.le_refl _⟩ (Nat.le_of_ble_eq_true rfl) ?_
      refine g_if_lt 41 (by decide) dX11_liar_36 (fun c7 => ?_) (fun c7 => ?_)
      · have h := g_ifp c7 h
        refine g_iinc_1 (v := 1) rfl (by decide) (Nat.le_of_ble_eq_true rfl) dX11_liar_41 ?_
        refine g_goto 17 (by decide) dX11_liar_44 ?_
        exact g_less _ (g_subS (g_subS g_sub0)) (ih _ _ _ h hr hc)
      · have h := g_ifn c7 h
        refine g_iload_n dX11_liar_39 rfl ?_
        obtain rfl := Option.some.inj h
        exact g_iret rfl (Nat.le_refl _) rfl dX11_liar_40 (hr _ rfl)
set_option maxRecDepth 100000 in
set_option maxHeartbeats 4000000 in
theorem k_X11_liar {D : va_G} {cA : Nat → ClassId} {b b2 k : Nat} {dyn : Nat → Nat} {t s : Nat} {N : Nat} {μ : g_M} {z : Int32} (h : f_X11_liar N μ = some z) : g_K (g_XX D cA b b2 dyn) yX11_liar Y_X11_liar 6 0 0 k [.ref 0] (μ, (g_rfX t s)) (fun r1 σ1 => r1 = some (.int z) ∧ σ1 = (μ, (g_rfX t s))) := by
  unfold f_X11_liar at h
  refine g_met 1 (by decide) rfl rfl (Nat.le_of_ble_eq_true rfl) ?_
  refine g_aload_n dX11_liar_0 rfl ?_
  refine m_getR fl_X11_10 rfl rfl rfl dX11_liar_1 ?_
  refine g_bipush (v := 6) dX11_liar_4 (by decide) ?_
  obtain ⟨x1, q2, h⟩ := g_bind h
  refine m_cV mt_X9_firstFitting ml_X11_259 mv_X9_firstFitting dX11_liar_6 (k_X9_firstFitting q2) rfl rfl rfl rfl (by decide) ⟨Nat.le_refl _, Nat.le_refl _⟩ (Nat.le_of_ble_eq_true rfl) ?_
  refine g_if_lt 15 (by decide) dX11_liar_9 (fun c3 => ?_) (fun c3 => ?_)
  · have h := g_ifp c3 h
    refine g_ic0 dX11_liar_15 ?_
    refine g_istore_1 rfl (Nat.le_of_ble_eq_true rfl) dX11_liar_16 ?_
    obtain ⟨w5, q4, h⟩ := g_bind h
    refine g_less _ (g_subS (g_subS g_sub0)) (k_X11_liar_L17 _ _ _ _ q4 ?_ ?_)
    · intro q0 e0
      subst e0
      cases h
      exact ⟨rfl, rfl⟩
    · intro  e0
      subst e0
      try dsimp only at h
      refine g_bipush (v := (-3)) dX11_liar_47 (by decide) ?_
      obtain rfl := Option.some.inj h
      exact g_iret rfl (Nat.le_refl _) rfl dX11_liar_49 ⟨rfl, rfl⟩
  · have h := g_ifn c3 h
    refine g_bipush (v := (-3)) dX11_liar_12 (by decide) ?_
    obtain rfl := Option.some.inj h
    exact g_iret rfl (Nat.le_refl _) rfl dX11_liar_14 ⟨rfl, rfl⟩
set_option maxRecDepth 100000 in
set_option maxHeartbeats 4000000 in
theorem k_X11_seed {D : va_G} {cA : Nat → ClassId} {b b2 k : Nat} {dyn : Nat → Nat} {t s : Nat} {a1 : Int32} {μ : g_M} {z : Int32 × g_M} (h : f_X11_seed a1 μ = some z) : g_K (g_XX D cA b b2 dyn) yX11_seed Y_X11_seed 1 0 0 k [.ref 0, .int a1] (μ, (g_rfX t s)) (fun r1 σ1 => r1 = some (.int z.1) ∧ σ1 = (z.2, (g_rfX t s))) := by
  unfold f_X11_seed at h
  refine g_met 1 (by decide) rfl rfl (Nat.le_of_ble_eq_true rfl) ?_
  refine g_aload_n dX11_seed_0 rfl ?_
  refine m_getR fl_X11_10 rfl rfl rfl dX11_seed_1 ?_
  refine m_getI fl_X11_262 rfl rfl dX11_seed_4 ?_
  refine g_istore_2 rfl (Nat.le_of_ble_eq_true rfl) dX11_seed_7 ?_
  refine g_aload_n dX11_seed_8 rfl ?_
  refine m_getR fl_X11_10 rfl rfl rfl dX11_seed_9 ?_
  refine g_iload_n dX11_seed_12 rfl ?_
  obtain ⟨μ1, eμ1, h⟩ := g_let h
  refine m_putI fl_X11_262 fw_9_16 rfl rfl rfl rfl dX11_seed_13 eμ1 ?_
  refine g_iload_n dX11_seed_16 rfl ?_
  obtain rfl := Option.some.inj h
  exact g_iret rfl (Nat.le_refl _) rfl dX11_seed_17 ⟨rfl, rfl⟩
set_option maxRecDepth 100000 in
set_option maxHeartbeats 4000000 in
theorem k_X11_nextLot {D : va_G} {cA : Nat → ClassId} {b b2 k : Nat} {dyn : Nat → Nat} {t s : Nat} {a1 : Int32} {μ : g_M} {z : Int32} (h : f_X11_nextLot a1 = z) : g_K (g_XX D cA b b2 dyn) yX11_nextLot Y_X11_nextLot 1 0 0 k [.int a1] (μ, (g_rfX t s)) (fun r1 σ1 => r1 = some (.int z) ∧ σ1 = (μ, (g_rfX t s))) := by
  unfold f_X11_nextLot at h
  refine g_met 0 (by decide) rfl rfl (Nat.le_of_ble_eq_true rfl) ?_
  refine g_iload_n dX11_nextLot_0 rfl ?_
  refine g_ldcw kc_X11_360 dX11_nextLot_1 ?_
  refine g_imul dX11_nextLot_4 ?_
  refine g_sipush (v := 12345) dX11_nextLot_5 (by decide) ?_
  refine g_iadd dX11_nextLot_8 ?_
  subst h
  exact g_iret rfl (Nat.le_refl _) rfl dX11_nextLot_9 ⟨rfl, rfl⟩
set_option maxRecDepth 100000 in
set_option maxHeartbeats 4000000 in
theorem k_X9_actByLot {D : va_G} {cA : Nat → ClassId} {b b2 k : Nat} {dyn : Nat → Nat} {t s : Nat} {a1 : Int32} {μ : g_M} {z : Int32} (h : f_X9_actByLot a1 μ = some z) : g_K (g_XX D cA b b2 dyn) yX9_actByLot Y_X9_actByLot 1 0 0 k [.ref 1, .int a1] (μ, (g_rfX t s)) (fun r1 σ1 => r1 = some (.int z) ∧ σ1 = (μ, (g_rfX t s))) := by
  unfold f_X9_actByLot at h
  refine g_met 0 (by decide) rfl rfl (Nat.le_of_ble_eq_true rfl) ?_
  refine g_iload_n dX9_actByLot_0 rfl ?_
  refine g_bipush (v := 16) dX9_actByLot_1 (by decide) ?_
  refine g_iushr dX9_actByLot_3 ?_
  refine g_aload_n dX9_actByLot_4 rfl ?_
  refine m_getI fl_X9_83 rfl rfl dX9_actByLot_5 ?_
  refine g_ic1 dX9_actByLot_8 ?_
  refine g_iadd dX9_actByLot_9 ?_
  obtain ⟨x1, qx1, h⟩ := g_bind h
  refine m_irem dX9_actByLot_10 qx1 ?_
  obtain rfl := Option.some.inj h
  exact g_iret rfl (Nat.le_refl _) rfl dX9_actByLot_11 ⟨rfl, rfl⟩
set_option maxRecDepth 100000 in
set_option maxHeartbeats 4000000 in
theorem k_X11_lot {D : va_G} {cA : Nat → ClassId} {b b2 k : Nat} {dyn : Nat → Nat} {t s : Nat} {N : Nat} {μ : g_M} {z : Int32 × g_M} (h : f_X11_lot N μ = some z) : g_K (g_XX D cA b b2 dyn) yX11_lot Y_X11_lot 7 0 0 k [.ref 0] (μ, (g_rfX t s)) (fun r1 σ1 => r1 = some (.int z.1) ∧ σ1 = (z.2, (g_rfX t s))) := by
  unfold f_X11_lot at h
  refine g_met 0 (by decide) rfl rfl (Nat.le_of_ble_eq_true rfl) ?_
  refine g_aload_n dX11_lot_0 rfl ?_
  refine m_getR fl_X11_10 rfl rfl rfl dX11_lot_1 ?_
  refine m_cV mt_X9_isOver ml_X11_136 mv_X9_isOver dX11_lot_4 (k_X9_isOver rfl) rfl rfl rfl rfl (by decide) ⟨Nat.le_refl _, Nat.le_refl _⟩ (Nat.le_of_ble_eq_true rfl) ?_
  refine g_if_eq 13 (by decide) dX11_lot_7 (fun c1 => ?_) (fun c1 => ?_)
  · have h := g_ifp c1 h
    refine g_aload_n dX11_lot_13 rfl ?_
    refine m_getR fl_X11_10 rfl rfl rfl dX11_lot_14 ?_
    refine g_aload_n dX11_lot_17 rfl ?_
    refine m_getR fl_X11_10 rfl rfl rfl dX11_lot_18 ?_
    refine m_getI fl_X11_262 rfl rfl dX11_lot_21 ?_
    refine m_cS mt_X11_nextLot ml_X11_265 ms_X11_nextLot dX11_lot_24 (k_X11_nextLot rfl) rfl rfl (by decide) ⟨Nat.le_refl _, Nat.le_refl _⟩ (Nat.le_of_ble_eq_true rfl) ?_
    obtain ⟨μ2, eμ2, h⟩ := g_let h
    refine m_putI fl_X11_262 fw_9_16 rfl rfl rfl rfl dX11_lot_27 eμ2 ?_
    refine g_aload_n dX11_lot_30 rfl ?_
    refine m_getR fl_X11_10 rfl rfl rfl dX11_lot_31 ?_
    refine g_aload_n dX11_lot_34 rfl ?_
    refine m_getR fl_X11_10 rfl rfl rfl dX11_lot_35 ?_
    refine g_aload_n dX11_lot_38 rfl ?_
    refine m_getR fl_X11_10 rfl rfl rfl dX11_lot_39 ?_
    refine m_getI fl_X11_262 rfl rfl dX11_lot_42 ?_
    obtain ⟨x3, q4, h⟩ := g_bind h
    refine m_cV mt_X9_actByLot ml_X11_268 mv_X9_actByLot dX11_lot_45 (k_X9_actByLot q4) rfl rfl rfl rfl (by decide) ⟨Nat.le_refl _, Nat.le_refl _⟩ (Nat.le_of_ble_eq_true rfl) ?_
    refine m_cS mt_X11_chainOf ml_X11_216 ms_X11_chainOf dX11_lot_48 (k_X11_chainOf rfl) rfl rfl (by decide) ⟨Nat.le_refl _, Nat.le_refl _⟩ (Nat.le_of_ble_eq_true rfl) ?_
    obtain ⟨⟨x5, μ7⟩, q6, h⟩ := g_bind h
    refine m_cV mt_X9_passNight ml_X11_165 mv_X9_passNight dX11_lot_51 (k_X9_passNight q6) rfl rfl rfl rfl (by decide) ⟨Nat.le_refl _, Nat.le_refl _⟩ (Nat.le_of_ble_eq_true rfl) ?_
    obtain rfl := Option.some.inj h
    exact g_iret rfl (Nat.le_refl _) rfl dX11_lot_54 ⟨rfl, rfl⟩
  · have h := g_ifn c1 h
    refine g_bipush (v := (-4)) dX11_lot_10 (by decide) ?_
    obtain rfl := Option.some.inj h
    exact g_iret rfl (Nat.le_refl _) rfl dX11_lot_12 ⟨rfl, rfl⟩
set_option maxRecDepth 100000 in
set_option maxHeartbeats 4000000 in
theorem k_X11_times_L64 {D : va_G} {cA : Nat → ClassId} {b b2 k : Nat} {dyn : Nat → Nat} {t s : Nat} {Q : Option Value → g_S → Prop} {N : Nat} : ∀ (n : Nat) (x_1 : Int32) (x_2 : Int32) (x_3 : Int32) (x_4 : Int32) (x_5 : Int32) (x_6 : Int32) (x_7 : Int32) (x_8 : Int32) (μ : g_M) (z_3 : Int32) (z_7 : Int32) (z_μ : g_M), f_X11_times_L64 N n x_1 x_2 x_3 x_4 x_5 x_6 x_7 x_8 μ = some (z_3, z_7, z_μ) → g_V (g_XX D cA b b2 dyn) Y_X11_times 6 0 0 Q k 0 0 127 [some (.ref 0), some (.int x_1), some (.int x_2), some (.int z_3), some (.int x_4), some (.int x_5), none, some (.int z_7), none] [] (z_μ, (g_rfX t s)) → g_V (g_XX D cA b b2 dyn) Y_X11_times 6 0 0 Q k 0 0 64 [some (.ref 0), some (.int x_1), some (.int x_2), some (.int x_3), some (.int x_4), some (.int x_5), some (.int x_6), some (.int x_7), some (.int x_8)] [] (μ, (g_rfX t s)) := by
  intro n
  induction n with
  | zero =>
    intro x_1 x_2 x_3 x_4 x_5 x_6 x_7 x_8 μ z_3 z_7 z_μ h
    rw [f_X11_times_L64] at h
    cases h
  | succ n ih =>
    intro x_1 x_2 x_3 x_4 x_5 x_6 x_7 x_8 μ z_3 z_7 z_μ h hc
    rw [f_X11_times_L64] at h
    refine g_iload dX11_times_64 rfl ?_
    refine g_aload_n dX11_times_66 rfl ?_
    refine m_getR fl_X11_10 rfl rfl rfl dX11_times_67 ?_
    refine m_getI fl_X11_130 rfl rfl dX11_times_70 ?_
    refine g_icmp_ge 127 (by decide) dX11_times_73 (fun c4 => ?_) (fun c4 => ?_)
    · have h := g_ifp c4 h
      obtain ⟨rfl, rfl, rfl⟩ := g_inj3 h
      exact g_less _ (g_subS (g_subS (g_subS (g_subS (g_subS (g_subS (g_subN (g_subS (g_subN g_sub0))))))))) hc
    · have h := g_ifn c4 h
      refine g_iload_n dX11_times_76 rfl ?_
      refine m_cS mt_X11_nextLot ml_X11_265 ms_X11_nextLot dX11_times_77 (k_X11_nextLot rfl) rfl rfl (by decide) ⟨Nat.le_refl _, Nat.le_refl _⟩ (Nat.le_of_ble_eq_true rfl) ?_
      obtain ⟨x5, ex5, h⟩ := g_let h
      refine g_top ex5 ?_
      refine g_istore_3 rfl (Nat.le_of_ble_eq_true rfl) dX11_times_80 ?_
      refine g_aload_n dX11_times_81 rfl ?_
      refine m_getR fl_X11_10 rfl rfl rfl dX11_times_82 ?_
      refine g_iload dX11_times_85 rfl ?_
      refine g_iload dX11_times_87 rfl ?_
      refine g_aload_n dX11_times_89 rfl ?_
      refine m_getR fl_X11_10 rfl rfl rfl dX11_times_90 ?_
      refine g_iload_n dX11_times_93 rfl ?_
      obtain ⟨x6, q7, h⟩ := g_bind h
      refine m_cV mt_X9_actByLot ml_X11_268 mv_X9_actByLot dX11_times_94 (k_X9_actByLot q7) rfl rfl rfl rfl (by decide) ⟨Nat.le_refl _, Nat.le_refl _⟩ (Nat.le_of_ble_eq_true rfl) ?_
      refine m_cS mt_X11_chainOf ml_X11_216 ms_X11_chainOf dX11_times_97 (k_X11_chainOf rfl) rfl rfl (by decide) ⟨Nat.le_refl _, Nat.le_refl _⟩ (Nat.le_of_ble_eq_true rfl) ?_
      obtain ⟨⟨x8, μ10⟩, q9, h⟩ := g_bind h
      refine m_cV mt_X9_after ml_X11_219 mv_X9_after dX11_times_100 (k_X9_after q9) rfl rfl rfl rfl (by decide) ⟨Nat.le_refl _, Nat.le_refl _⟩ (Nat.le_of_ble_eq_true rfl) ?_
      refine g_istore_6 rfl (Nat.le_of_ble_eq_true rfl) dX11_times_103 ?_
      refine g_iload dX11_times_105 rfl ?_
      refine g_aload_n dX11_times_107 rfl ?_
      refine m_getR fl_X11_10 rfl rfl rfl dX11_times_108 ?_
      refine g_iload dX11_times_111 rfl ?_
      refine g_iload dX11_times_113 rfl ?_
      obtain ⟨x11, q12, h⟩ := g_bind h
      refine m_cV mt_X9_worthOf ml_X11_271 mv_X9_worthOf dX11_times_115 (k_X9_worthOf q12) rfl rfl rfl rfl (by decide) ⟨Nat.le_refl _, Nat.le_refl _⟩ (Nat.le_of_ble_eq_true rfl) ?_
      refine g_iadd dX11_times_118 ?_
      obtain ⟨x13, ex13, h⟩ := g_let h
      refine g_top ex13 ?_
      refine g_istore_7 rfl (Nat.le_of_ble_eq_true rfl) dX11_times_119 ?_
      refine g_iinc_8 (v := 1) rfl (by decide) (Nat.le_of_ble_eq_true rfl) dX11_times_121 ?_
      refine g_goto 64 (by decide) dX11_times_124 ?_
      exact g_less _ (g_subS (g_subS (g_subS (g_subS (g_subS (g_subS (g_subS (g_subS (g_subS g_sub0))))))))) (ih _ _ _ _ _ _ _ _ _ _ _ _ h hc)
set_option maxRecDepth 100000 in
set_option maxHeartbeats 4000000 in
theorem k_X11_times_L37 {D : va_G} {cA : Nat → ClassId} {b b2 k : Nat} {dyn : Nat → Nat} {t s : Nat} {Q : Option Value → g_S → Prop} {N : Nat} : ∀ (n : Nat) (x_1 : Int32) (x_2 : Int32) (x_3 : Int32) (x_4 : Int32) (x_5 : Int32) (μ : g_M) (z_4 : Int32) (z_μ : g_M), f_X11_times_L37 N n x_1 x_2 x_3 x_4 x_5 μ = some (z_4, z_μ) → g_V (g_XX D cA b b2 dyn) Y_X11_times 6 0 0 Q k 0 0 142 [none, none, none, none, some (.int z_4), none, none, none, none] [] (z_μ, (g_rfX t s)) → g_V (g_XX D cA b b2 dyn) Y_X11_times 6 0 0 Q k 0 0 37 [some (.ref 0), some (.int x_1), some (.int x_2), some (.int x_3), some (.int x_4), some (.int x_5), none, none, none] [] (μ, (g_rfX t s)) := by
  intro n
  induction n with
  | zero =>
    intro x_1 x_2 x_3 x_4 x_5 μ z_4 z_μ h
    rw [f_X11_times_L37] at h
    cases h
  | succ n ih =>
    intro x_1 x_2 x_3 x_4 x_5 μ z_4 z_μ h hc
    rw [f_X11_times_L37] at h
    refine g_iload dX11_times_37 rfl ?_
    refine g_iload_n dX11_times_39 rfl ?_
    refine g_icmp_ge 142 (by decide) dX11_times_40 (fun c3 => ?_) (fun c3 => ?_)
    · have h := g_ifp c3 h
      obtain ⟨rfl, rfl⟩ := g_inj2 h
      exact g_less _ (g_subN (g_subN (g_subN (g_subN (g_subS (g_subN (g_subN (g_subN (g_subN g_sub0))))))))) hc
    · have h := g_ifn c3 h
      refine g_aload_n dX11_times_43 rfl ?_
      refine m_getR fl_X11_10 rfl rfl rfl dX11_times_44 ?_
      refine m_getI fl_X11_93 rfl rfl dX11_times_47 ?_
      refine g_istore_6 rfl (Nat.le_of_ble_eq_true rfl) dX11_times_50 ?_
      refine g_ic0 dX11_times_52 ?_
      refine g_istore_7 rfl (Nat.le_of_ble_eq_true rfl) dX11_times_53 ?_
      refine g_aload_n dX11_times_55 rfl ?_
      refine m_getR fl_X11_10 rfl rfl rfl dX11_times_56 ?_
      refine m_getI fl_X11_100 rfl rfl dX11_times_59 ?_
      refine g_istore_8 rfl (Nat.le_of_ble_eq_true rfl) dX11_times_62 ?_
      obtain ⟨⟨x4, x5, μ6⟩, q7, h⟩ := g_bind h
      refine g_less _ (g_subS (g_subS (g_subS (g_subS (g_subS (g_subS (g_subS (g_subS (g_subS g_sub0))))))))) (k_X11_times_L64 _ _ _ _ _ _ _ _ _ _ _ _ _ q7 ?_)
      refine g_iload dX11_times_127 rfl ?_
      refine g_iload_n dX11_times_129 rfl ?_
      refine g_icmp_lt 136 (by decide) dX11_times_130 (fun c8 => ?_) (fun c8 => ?_)
      · have h := g_ifp c8 h
        refine g_iinc_5 (v := 1) rfl (by decide) (Nat.le_of_ble_eq_true rfl) dX11_times_136 ?_
        refine g_goto 37 (by decide) dX11_times_139 ?_
        exact g_less _ (g_subS (g_subS (g_subS (g_subS (g_subS (g_subS (g_subN (g_subN (g_subN g_sub0))))))))) (ih _ _ _ _ _ _ _ _ h hc)
      · have h := g_ifn c8 h
        refine g_iinc_4 (v := 1) rfl (by decide) (Nat.le_of_ble_eq_true rfl) dX11_times_133 ?_
        refine g_iinc_5 (v := 1) rfl (by decide) (Nat.le_of_ble_eq_true rfl) dX11_times_136 ?_
        refine g_goto 37 (by decide) dX11_times_139 ?_
        exact g_less _ (g_subS (g_subS (g_subS (g_subS (g_subS (g_subS (g_subN (g_subN (g_subN g_sub0))))))))) (ih _ _ _ _ _ _ _ _ h hc)
set_option maxRecDepth 100000 in
set_option maxHeartbeats 4000000 in
theorem k_X11_times {D : va_G} {cA : Nat → ClassId} {b b2 k : Nat} {dyn : Nat → Nat} {t s : Nat} {N : Nat} {a1 : Int32} {a2 : Int32} {μ : g_M} {z : Int32 × g_M} (h : f_X11_times N a1 a2 μ = some z) : g_K (g_XX D cA b b2 dyn) yX11_times Y_X11_times 6 0 0 k [.ref 0, .int a1, .int a2] (μ, (g_rfX t s)) (fun r1 σ1 => r1 = some (.int z.1) ∧ σ1 = (z.2, (g_rfX t s))) := by
  unfold f_X11_times at h
  refine g_met 6 (by decide) rfl rfl (Nat.le_of_ble_eq_true rfl) ?_
  refine g_iload_n dX11_times_0 rfl ?_
  refine g_ic1 dX11_times_1 ?_
  refine g_bipush (v := 40) dX11_times_2 (by decide) ?_
  refine m_cS mt_X11_isBetween ml_X11_120 ms_X11_isBetween dX11_times_4 (k_X11_isBetween rfl) rfl rfl (by decide) ⟨Nat.le_refl _, Nat.le_refl _⟩ (Nat.le_of_ble_eq_true rfl) ?_
  refine g_if_eq 21 (by decide) dX11_times_7 (fun c1 => ?_) (fun c1 => ?_)
  · have h := g_ifp c1 h
    refine g_icm1 dX11_times_21 ?_
    obtain rfl := Option.some.inj h
    exact g_iret rfl (Nat.le_refl _) rfl dX11_times_22 ⟨rfl, rfl⟩
  · have h := g_ifn c1 h
    refine g_iload_n dX11_times_10 rfl ?_
    refine g_ic0 dX11_times_11 ?_
    refine g_sipush (v := 999) dX11_times_12 (by decide) ?_
    refine m_cS mt_X11_isBetween ml_X11_120 ms_X11_isBetween dX11_times_15 (k_X11_isBetween rfl) rfl rfl (by decide) ⟨Nat.le_refl _, Nat.le_refl _⟩ (Nat.le_of_ble_eq_true rfl) ?_
    refine g_if_ne 23 (by decide) dX11_times_18 (fun c2 => ?_) (fun c2 => ?_)
    · have h := g_ifn c2 h
      refine g_aload_n dX11_times_23 rfl ?_
      refine m_getR fl_X11_10 rfl rfl rfl dX11_times_24 ?_
      refine m_getI fl_X11_262 rfl rfl dX11_times_27 ?_
      refine g_istore_3 rfl (Nat.le_of_ble_eq_true rfl) dX11_times_30 ?_
      refine g_ic0 dX11_times_31 ?_
      refine g_istore_4 rfl (Nat.le_of_ble_eq_true rfl) dX11_times_32 ?_
      refine g_ic0 dX11_times_34 ?_
      refine g_istore_5 rfl (Nat.le_of_ble_eq_true rfl) dX11_times_35 ?_
      obtain ⟨⟨x3, μ4⟩, q5, h⟩ := g_bind h
      refine g_less _ (g_subS (g_subS (g_subS (g_subS (g_subS (g_subS (g_subN (g_subN (g_subN g_sub0))))))))) (k_X11_times_L37 _ _ _ _ _ _ _ _ _ q5 ?_)
      refine g_iload dX11_times_142 rfl ?_
      obtain rfl := Option.some.inj h
      exact g_iret rfl (Nat.le_refl _) rfl dX11_times_144 ⟨rfl, rfl⟩
    · have h := g_ifp c2 h
      refine g_icm1 dX11_times_21 ?_
      obtain rfl := Option.some.inj h
      exact g_iret rfl (Nat.le_refl _) rfl dX11_times_22 ⟨rfl, rfl⟩
set_option maxRecDepth 100000 in
set_option maxHeartbeats 4000000 in
theorem k_X11_prove_L31 {D : va_G} {cA : Nat → ClassId} {b b2 k : Nat} {dyn : Nat → Nat} {t s : Nat} {Q : Option Value → g_S → Prop} {N : Nat} : ∀ (n : Nat) (x_1 : Int32) (x_2 : Int32) (x_3 : Int32) (μ : g_M) (z_μ : g_M), f_X11_prove_L31 N n x_1 x_2 x_3 μ = some z_μ → g_V (g_XX D cA b b2 dyn) Y_X11_prove 38 0 0 Q k 0 0 135 [some (.ref 0), none, none, none, none, none] [] (z_μ, (g_rfX t s)) → g_V (g_XX D cA b b2 dyn) Y_X11_prove 38 0 0 Q k 0 0 31 [some (.ref 0), some (.int x_1), some (.int x_2), some (.int x_3), none, none] [] (μ, (g_rfX t s)) := by
  intro n
  induction n with
  | zero =>
    intro x_1 x_2 x_3 μ z_μ h
    rw [f_X11_prove_L31] at h
    cases h
  | succ n ih =>
    intro x_1 x_2 x_3 μ z_μ h hc
    rw [f_X11_prove_L31] at h
    refine g_iload_n dX11_prove_31 rfl ?_
    refine g_aload_n dX11_prove_32 rfl ?_
    refine m_getI fl_X11_274 rfl rfl dX11_prove_33 ?_
    refine g_icmp_ge 135 (by decide) dX11_prove_36 (fun c3 => ?_) (fun c3 => ?_)
    · have h := g_ifp c3 h
      obtain rfl := Option.some.inj h
      exact g_less _ (g_subS (g_subN (g_subN (g_subN (g_subN (g_subN g_sub0)))))) hc
    · have h := g_ifn c3 h
      refine g_aload_n dX11_prove_39 rfl ?_
      refine m_getR fl_X11_10 rfl rfl rfl dX11_prove_40 ?_
      refine m_getI fl_X11_100 rfl rfl dX11_prove_43 ?_
      refine g_iload_n dX11_prove_46 rfl ?_
      refine g_iadd dX11_prove_47 ?_
      obtain ⟨x4, ex4, h⟩ := g_let h
      refine g_top ex4 ?_
      refine g_istore_4 rfl (Nat.le_of_ble_eq_true rfl) dX11_prove_48 ?_
      refine g_aload_n dX11_prove_50 rfl ?_
      refine m_getR fl_X11_10 rfl rfl rfl dX11_prove_51 ?_
      refine g_iload_n dX11_prove_54 rfl ?_
      refine g_iload dX11_prove_55 rfl ?_
      refine g_iload_n dX11_prove_57 rfl ?_
      refine g_iload_n dX11_prove_58 rfl ?_
      refine g_isub dX11_prove_59 ?_
      obtain ⟨⟨x5, μ7⟩, q6, h⟩ := g_bind h
      refine m_cS mt_X2_firstBestAct ml_X11_212 ms_X2_firstBestAct dX11_prove_60 (k_X2_firstBestAct q6) rfl rfl (by decide) ⟨Nat.le_refl _, Nat.le_refl _⟩ (Nat.le_of_ble_eq_true rfl) ?_
      refine g_istore_5 rfl (Nat.le_of_ble_eq_true rfl) dX11_prove_63 ?_
      refine g_aload_n dX11_prove_65 rfl ?_
      refine m_getR fl_X11_10 rfl rfl rfl dX11_prove_66 ?_
      refine g_iload_n dX11_prove_69 rfl ?_
      refine g_iload dX11_prove_70 rfl ?_
      refine g_iload dX11_prove_72 rfl ?_
      refine m_cS mt_X11_chainOf ml_X11_216 ms_X11_chainOf dX11_prove_74 (k_X11_chainOf rfl) rfl rfl (by decide) ⟨Nat.le_refl _, Nat.le_refl _⟩ (Nat.le_of_ble_eq_true rfl) ?_
      obtain ⟨⟨x8, μ10⟩, q9, h⟩ := g_bind h
      refine m_cV mt_X9_after ml_X11_219 mv_X9_after dX11_prove_77 (k_X9_after q9) rfl rfl rfl rfl (by decide) ⟨Nat.le_refl _, Nat.le_refl _⟩ (Nat.le_of_ble_eq_true rfl) ?_
      refine g_istore_2 rfl (Nat.le_of_ble_eq_true rfl) dX11_prove_80 ?_
      refine g_aload_n dX11_prove_81 rfl ?_
      refine m_getR fl_X11_33 rfl rfl rfl dX11_prove_82 ?_
      refine g_iload_n dX11_prove_85 rfl ?_
      refine g_ic3 dX11_prove_86 ?_
      refine g_imul dX11_prove_87 ?_
      refine g_iload dX11_prove_88 rfl ?_
      obtain ⟨μ11, qμ11, h⟩ := g_bind h
      refine m_iast rfl qμ11 dX11_prove_90 ?_
      refine g_aload_n dX11_prove_91 rfl ?_
      refine m_getR fl_X11_33 rfl rfl rfl dX11_prove_92 ?_
      refine g_iload_n dX11_prove_95 rfl ?_
      refine g_ic3 dX11_prove_96 ?_
      refine g_imul dX11_prove_97 ?_
      refine g_ic1 dX11_prove_98 ?_
      refine g_iadd dX11_prove_99 ?_
      refine g_aload_n dX11_prove_100 rfl ?_
      refine m_getR fl_X11_10 rfl rfl rfl dX11_prove_101 ?_
      refine g_iload_n dX11_prove_104 rfl ?_
      refine g_iload dX11_prove_105 rfl ?_
      obtain ⟨x12, q13, h⟩ := g_bind h
      refine m_cV mt_X9_worthOf ml_X11_271 mv_X9_worthOf dX11_prove_107 (k_X9_worthOf q13) rfl rfl rfl rfl (by decide) ⟨Nat.le_refl _, Nat.le_refl _⟩ (Nat.le_of_ble_eq_true rfl) ?_
      obtain ⟨μ14, qμ14, h⟩ := g_bind h
      refine m_iast rfl qμ14 dX11_prove_110 ?_
      refine g_aload_n dX11_prove_111 rfl ?_
      refine m_getR fl_X11_33 rfl rfl rfl dX11_prove_112 ?_
      refine g_iload_n dX11_prove_115 rfl ?_
      refine g_ic3 dX11_prove_116 ?_
      refine g_imul dX11_prove_117 ?_
      refine g_ic2 dX11_prove_118 ?_
      refine g_iadd dX11_prove_119 ?_
      refine g_aload_n dX11_prove_120 rfl ?_
      refine m_getR fl_X11_10 rfl rfl rfl dX11_prove_121 ?_
      refine g_iload_n dX11_prove_124 rfl ?_
      obtain ⟨x15, q16, h⟩ := g_bind h
      refine m_cV mt_X9_homeSet ml_X11_140 mv_X9_homeSet dX11_prove_125 (k_X9_homeSet q16) rfl rfl rfl rfl (by decide) ⟨Nat.le_refl _, Nat.le_refl _⟩ (Nat.le_of_ble_eq_true rfl) ?_
      obtain ⟨μ17, qμ17, h⟩ := g_bind h
      refine m_iast rfl qμ17 dX11_prove_128 ?_
      refine g_iinc_3 (v := 1) rfl (by decide) (Nat.le_of_ble_eq_true rfl) dX11_prove_129 ?_
      refine g_goto 31 (by decide) dX11_prove_132 ?_
      exact g_less _ (g_subS (g_subS (g_subS (g_subS (g_subN (g_subN g_sub0)))))) (ih _ _ _ _ _ h hc)
set_option maxRecDepth 100000 in
set_option maxHeartbeats 4000000 in
theorem k_X11_prove {D : va_G} {cA : Nat → ClassId} {b b2 k : Nat} {dyn : Nat → Nat} {t s : Nat} {N : Nat} {a1 : Int32} {μ : g_M} {z : Int32 × g_M} (h : f_X11_prove N a1 μ = some z) : g_K (g_XX D cA b b2 dyn) yX11_prove Y_X11_prove 38 0 0 k [.ref 0, .int a1] (μ, (g_rfX t s)) (fun r1 σ1 => r1 = some (.int z.1) ∧ σ1 = (z.2, (g_rfX t s))) := by
  unfold f_X11_prove at h
  refine g_met 4 (by decide) rfl rfl (Nat.le_of_ble_eq_true rfl) ?_
  refine g_iload_n dX11_prove_0 rfl ?_
  refine m_cS mt_X11_isPlan ml_X11_203 ms_X11_isPlan dX11_prove_1 (k_X11_isPlan rfl) rfl rfl (by decide) ⟨Nat.le_refl _, Nat.le_refl _⟩ (Nat.le_of_ble_eq_true rfl) ?_
  refine g_if_ne 9 (by decide) dX11_prove_4 (fun c1 => ?_) (fun c1 => ?_)
  · have h := g_ifn c1 h
    refine g_aload_n dX11_prove_9 rfl ?_
    refine g_aload_n dX11_prove_10 rfl ?_
    refine m_getR fl_X11_10 rfl rfl rfl dX11_prove_11 ?_
    refine g_iload_n dX11_prove_14 rfl ?_
    refine m_cV mt_X9_nightsOf ml_X11_209 mv_X9_nightsOf dX11_prove_15 (k_X9_nightsOf rfl) rfl rfl rfl rfl (by decide) ⟨Nat.le_refl _, Nat.le_refl _⟩ (Nat.le_of_ble_eq_true rfl) ?_
    obtain ⟨μ2, eμ2, h⟩ := g_let h
    refine m_putI fl_X11_274 fw_11_11 rfl rfl rfl rfl dX11_prove_18 eμ2 ?_
    refine g_aload_n dX11_prove_21 rfl ?_
    refine m_getR fl_X11_10 rfl rfl rfl dX11_prove_22 ?_
    refine m_getI fl_X11_93 rfl rfl dX11_prove_25 ?_
    refine g_istore_2 rfl (Nat.le_of_ble_eq_true rfl) dX11_prove_28 ?_
    refine g_ic0 dX11_prove_29 ?_
    refine g_istore_3 rfl (Nat.le_of_ble_eq_true rfl) dX11_prove_30 ?_
    obtain ⟨μ3, q4, h⟩ := g_bind h
    refine g_less _ (g_subS (g_subS (g_subS (g_subS (g_subN (g_subN g_sub0)))))) (k_X11_prove_L31 _ _ _ _ _ _ q4 ?_)
    refine g_aload_n dX11_prove_135 rfl ?_
    refine m_getI fl_X11_274 rfl rfl dX11_prove_136 ?_
    obtain rfl := Option.some.inj h
    exact g_iret rfl (Nat.le_refl _) rfl dX11_prove_139 ⟨rfl, rfl⟩
  · have h := g_ifp c1 h
    refine g_icm1 dX11_prove_7 ?_
    obtain rfl := Option.some.inj h
    exact g_iret rfl (Nat.le_refl _) rfl dX11_prove_8 ⟨rfl, rfl⟩
set_option maxRecDepth 100000 in
set_option maxHeartbeats 4000000 in
theorem k_X11_isRow {D : va_G} {cA : Nat → ClassId} {b b2 k : Nat} {dyn : Nat → Nat} {t s : Nat} {a1 : Int32} {a2 : Int32} {μ : g_M} {z : Int32} (h : f_X11_isRow a1 a2 μ = z) : g_K (g_XX D cA b b2 dyn) yX11_isRow Y_X11_isRow 2 0 0 k [.ref 0, .int a1, .int a2] (μ, (g_rfX t s)) (fun r1 σ1 => r1 = some (.int z) ∧ σ1 = (μ, (g_rfX t s))) := by
  unfold f_X11_isRow at h
  refine g_met 0 (by decide) rfl rfl (Nat.le_of_ble_eq_true rfl) ?_
  refine g_iload_n dX11_isRow_0 rfl ?_
  refine g_ic0 dX11_isRow_1 ?_
  refine g_aload_n dX11_isRow_2 rfl ?_
  refine m_getI fl_X11_274 rfl rfl dX11_isRow_3 ?_
  refine g_ic1 dX11_isRow_6 ?_
  refine g_isub dX11_isRow_7 ?_
  refine m_cS mt_X11_isBetween ml_X11_120 ms_X11_isBetween dX11_isRow_8 (k_X11_isBetween rfl) rfl rfl (by decide) ⟨Nat.le_refl _, Nat.le_refl _⟩ (Nat.le_of_ble_eq_true rfl) ?_
  refine g_if_eq 27 (by decide) dX11_isRow_11 (fun c1 => ?_) (fun c1 => ?_)
  · have h := g_ifp c1 h
    refine g_ic0 dX11_isRow_27 ?_
    subst h
    exact g_zret rfl (Nat.le_refl _) rfl rfl dX11_isRow_28 ⟨rfl, rfl⟩
  · have h := g_ifn c1 h
    refine g_iload_n dX11_isRow_14 rfl ?_
    refine g_ic0 dX11_isRow_15 ?_
    refine g_ic2 dX11_isRow_16 ?_
    refine m_cS mt_X11_isBetween ml_X11_120 ms_X11_isBetween dX11_isRow_17 (k_X11_isBetween rfl) rfl rfl (by decide) ⟨Nat.le_refl _, Nat.le_refl _⟩ (Nat.le_of_ble_eq_true rfl) ?_
    refine g_if_eq 27 (by decide) dX11_isRow_20 (fun c2 => ?_) (fun c2 => ?_)
    · have h := g_ifp c2 h
      refine g_ic0 dX11_isRow_27 ?_
      subst h
      exact g_zret rfl (Nat.le_refl _) rfl rfl dX11_isRow_28 ⟨rfl, rfl⟩
    · have h := g_ifn c2 h
      refine g_ic1 dX11_isRow_23 ?_
      refine g_goto 28 (by decide) dX11_isRow_24 ?_
      subst h
      exact g_zret rfl (Nat.le_refl _) rfl rfl dX11_isRow_28 ⟨rfl, rfl⟩
set_option maxRecDepth 100000 in
set_option maxHeartbeats 4000000 in
theorem zb_X11_isRow (a1 : Int32) (a2 : Int32) (μ : g_M) : narrow .boolean (.int (f_X11_isRow a1 a2 μ)) = .int (f_X11_isRow a1 a2 μ) := by
  unfold f_X11_isRow
  repeat' split
  all_goals first | rfl | apply zb_X11_isBetween
set_option maxRecDepth 100000 in
set_option maxHeartbeats 4000000 in
theorem k_X11_row {D : va_G} {cA : Nat → ClassId} {b b2 k : Nat} {dyn : Nat → Nat} {t s : Nat} {a1 : Int32} {a2 : Int32} {μ : g_M} {z : Int32} (h : f_X11_row a1 a2 μ = some z) : g_K (g_XX D cA b b2 dyn) yX11_row Y_X11_row 3 0 0 k [.ref 0, .int a1, .int a2] (μ, (g_rfX t s)) (fun r1 σ1 => r1 = some (.int z) ∧ σ1 = (μ, (g_rfX t s))) := by
  unfold f_X11_row at h
  refine g_met 0 (by decide) rfl rfl (Nat.le_of_ble_eq_true rfl) ?_
  refine g_aload_n dX11_row_0 rfl ?_
  refine g_iload_n dX11_row_1 rfl ?_
  refine g_iload_n dX11_row_2 rfl ?_
  refine m_cV mt_X11_isRow ml_X11_277 mv_X11_isRow dX11_row_3 (k_X11_isRow rfl) rfl rfl rfl rfl (by decide) ⟨Nat.le_refl _, Nat.le_refl _⟩ (Nat.le_of_ble_eq_true rfl) ?_
  refine g_if_eq 22 (by decide) dX11_row_6 (fun c1 => ?_) (fun c1 => ?_)
  · have h := g_ifp c1 h
    refine g_bipush (v := (-9)) dX11_row_22 (by decide) ?_
    obtain rfl := Option.some.inj h
    exact g_iret rfl (Nat.le_refl _) rfl dX11_row_24 ⟨rfl, rfl⟩
  · have h := g_ifn c1 h
    refine g_aload_n dX11_row_9 rfl ?_
    refine m_getR fl_X11_33 rfl rfl rfl dX11_row_10 ?_
    refine g_iload_n dX11_row_13 rfl ?_
    refine g_ic3 dX11_row_14 ?_
    refine g_imul dX11_row_15 ?_
    refine g_iload_n dX11_row_16 rfl ?_
    refine g_iadd dX11_row_17 ?_
    obtain ⟨x2, qx2, h⟩ := g_bind h
    refine m_iald rfl qx2 dX11_row_18 ?_
    refine g_goto 24 (by decide) dX11_row_19 ?_
    obtain rfl := Option.some.inj h
    exact g_iret rfl (Nat.le_refl _) rfl dX11_row_24 ⟨rfl, rfl⟩
set_option maxRecDepth 100000 in
set_option maxHeartbeats 4000000 in
theorem k_X11_alterRow {D : va_G} {cA : Nat → ClassId} {b b2 k : Nat} {dyn : Nat → Nat} {t s : Nat} {a1 : Int32} {a2 : Int32} {a3 : Int32} {μ : g_M} {z : Int32 × g_M} (h : f_X11_alterRow a1 a2 a3 μ = some z) : g_K (g_XX D cA b b2 dyn) yX11_alterRow Y_X11_alterRow 3 0 0 k [.ref 0, .int a1, .int a2, .int a3] (μ, (g_rfX t s)) (fun r1 σ1 => r1 = some (.int z.1) ∧ σ1 = (z.2, (g_rfX t s))) := by
  unfold f_X11_alterRow at h
  refine g_met 1 (by decide) rfl rfl (Nat.le_of_ble_eq_true rfl) ?_
  refine g_aload_n dX11_alterRow_0 rfl ?_
  refine g_iload_n dX11_alterRow_1 rfl ?_
  refine g_iload_n dX11_alterRow_2 rfl ?_
  refine m_cV mt_X11_isRow ml_X11_277 mv_X11_isRow dX11_alterRow_3 (k_X11_isRow rfl) rfl rfl rfl rfl (by decide) ⟨Nat.le_refl _, Nat.le_refl _⟩ (Nat.le_of_ble_eq_true rfl) ?_
  refine g_if_ne 12 (by decide) dX11_alterRow_6 (fun c1 => ?_) (fun c1 => ?_)
  · have h := g_ifn c1 h
    refine g_aload_n dX11_alterRow_12 rfl ?_
    refine m_getR fl_X11_33 rfl rfl rfl dX11_alterRow_13 ?_
    refine g_iload_n dX11_alterRow_16 rfl ?_
    refine g_ic3 dX11_alterRow_17 ?_
    refine g_imul dX11_alterRow_18 ?_
    refine g_iload_n dX11_alterRow_19 rfl ?_
    refine g_iadd dX11_alterRow_20 ?_
    obtain ⟨x2, qx2, h⟩ := g_bind h
    refine m_iald rfl qx2 dX11_alterRow_21 ?_
    refine g_istore_4 rfl (Nat.le_of_ble_eq_true rfl) dX11_alterRow_22 ?_
    refine g_aload_n dX11_alterRow_24 rfl ?_
    refine m_getR fl_X11_33 rfl rfl rfl dX11_alterRow_25 ?_
    refine g_iload_n dX11_alterRow_28 rfl ?_
    refine g_ic3 dX11_alterRow_29 ?_
    refine g_imul dX11_alterRow_30 ?_
    refine g_iload_n dX11_alterRow_31 rfl ?_
    refine g_iadd dX11_alterRow_32 ?_
    refine g_iload_n dX11_alterRow_33 rfl ?_
    obtain ⟨μ3, qμ3, h⟩ := g_bind h
    refine m_iast rfl qμ3 dX11_alterRow_34 ?_
    refine g_iload dX11_alterRow_35 rfl ?_
    obtain rfl := Option.some.inj h
    exact g_iret rfl (Nat.le_refl _) rfl dX11_alterRow_37 ⟨rfl, rfl⟩
  · have h := g_ifp c1 h
    refine g_bipush (v := (-9)) dX11_alterRow_9 (by decide) ?_
    obtain rfl := Option.some.inj h
    exact g_iret rfl (Nat.le_refl _) rfl dX11_alterRow_11 ⟨rfl, rfl⟩
set_option maxRecDepth 100000 in
set_option maxHeartbeats 4000000 in
theorem k_X11_isAct {D : va_G} {cA : Nat → ClassId} {b b2 k : Nat} {dyn : Nat → Nat} {t s : Nat} {a1 : Int32} {μ : g_M} {z : Int32} (h : f_X11_isAct a1 μ = z) : g_K (g_XX D cA b b2 dyn) yX11_isAct Y_X11_isAct 2 0 0 k [.ref 0, .int a1] (μ, (g_rfX t s)) (fun r1 σ1 => r1 = some (.int z) ∧ σ1 = (μ, (g_rfX t s))) := by
  unfold f_X11_isAct at h
  refine g_met 0 (by decide) rfl rfl (Nat.le_of_ble_eq_true rfl) ?_
  refine g_iload_n dX11_isAct_0 rfl ?_
  refine g_ic0 dX11_isAct_1 ?_
  refine g_aload_n dX11_isAct_2 rfl ?_
  refine m_getR fl_X11_10 rfl rfl rfl dX11_isAct_3 ?_
  refine m_getI fl_X11_70 rfl rfl dX11_isAct_6 ?_
  refine m_cS mt_X11_isBetween ml_X11_120 ms_X11_isBetween dX11_isAct_9 (k_X11_isBetween rfl) rfl rfl (by decide) ⟨Nat.le_refl _, Nat.le_refl _⟩ (Nat.le_of_ble_eq_true rfl) ?_
  subst h
  exact g_zret rfl (Nat.le_refl _) rfl (zb_X11_isBetween a1 0 (μ 1 11)) dX11_isAct_12 ⟨rfl, rfl⟩
set_option maxRecDepth 100000 in
set_option maxHeartbeats 4000000 in
theorem zb_X11_isAct (a1 : Int32) (μ : g_M) : narrow .boolean (.int (f_X11_isAct a1 μ)) = .int (f_X11_isAct a1 μ) := by
  unfold f_X11_isAct
  repeat' split
  all_goals first | rfl | apply zb_X11_isBetween
set_option maxRecDepth 100000 in
set_option maxHeartbeats 4000000 in
theorem k_X11_judge_L10 {D : va_G} {cA : Nat → ClassId} {b b2 k : Nat} {dyn : Nat → Nat} {t s : Nat} {Q : Option Value → g_S → Prop} {N : Nat} : ∀ (n : Nat) (x_1 : Int32) (x_2 : Int32) (μ : g_M) (z : (Int32 × g_M) ⊕ (g_M)), f_X11_judge_L10 N n x_1 x_2 μ = some z → (∀ q : Int32 × g_M, z = .inl q → Q (some (.int q.1)) (q.2, (g_rfX t s))) → (∀ (z_μ : g_M), z = .inr z_μ → g_V (g_XX D cA b b2 dyn) Y_X11_judge 6 0 0 Q k 0 0 154 [none, none, none, none, none, none, none] [] (z_μ, (g_rfX t s))) → g_V (g_XX D cA b b2 dyn) Y_X11_judge 6 0 0 Q k 0 0 10 [some (.ref 0), some (.int x_1), some (.int x_2), none, none, none, none] [] (μ, (g_rfX t s)) := by
  intro n
  induction n with
  | zero =>
    intro x_1 x_2 μ z h
    rw [f_X11_judge_L10] at h
    cases h
  | succ n ih =>
    intro x_1 x_2 μ z h hr hc
    rw [f_X11_judge_L10] at h
    refine g_iload_n dX11_judge_10 rfl ?_
    refine g_aload_n dX11_judge_11 rfl ?_
    refine m_getI fl_X11_274 rfl rfl dX11_judge_12 ?_
    refine g_icmp_ge 154 (by decide) dX11_judge_15 (fun c1 => ?_) (fun c1 => ?_)
    · have h := g_ifp c1 h
      obtain rfl := Option.some.inj h
      exact g_less _ (g_subN (g_subN (g_subN (g_subN (g_subN (g_subN (g_subN g_sub0))))))) (hc _ rfl)
    · have h := g_ifn c1 h
      refine g_aload_n dX11_judge_18 rfl ?_
      refine m_getR fl_X11_10 rfl rfl rfl dX11_judge_19 ?_
      refine m_getI fl_X11_100 rfl rfl dX11_judge_22 ?_
      refine g_iload_n dX11_judge_25 rfl ?_
      refine g_iadd dX11_judge_26 ?_
      obtain ⟨x2, ex2, h⟩ := g_let h
      refine g_top ex2 ?_
      refine g_istore_3 rfl (Nat.le_of_ble_eq_true rfl) dX11_judge_27 ?_
      refine g_aload_n dX11_judge_28 rfl ?_
      refine m_getR fl_X11_33 rfl rfl rfl dX11_judge_29 ?_
      refine g_iload_n dX11_judge_32 rfl ?_
      refine g_ic3 dX11_judge_33 ?_
      refine g_imul dX11_judge_34 ?_
      obtain ⟨x3, qx3, h⟩ := g_bind h
      refine m_iald rfl qx3 dX11_judge_35 ?_
      refine g_istore_4 rfl (Nat.le_of_ble_eq_true rfl) dX11_judge_36 ?_
      refine g_aload_n dX11_judge_38 rfl ?_
      refine g_iload dX11_judge_39 rfl ?_
      refine m_cV mt_X11_isAct ml_X11_280 mv_X11_isAct dX11_judge_41 (k_X11_isAct rfl) rfl rfl rfl rfl (by decide) ⟨Nat.le_refl _, Nat.le_refl _⟩ (Nat.le_of_ble_eq_true rfl) ?_
      refine g_if_eq 58 (by decide) dX11_judge_44 (fun c4 => ?_) (fun c4 => ?_)
      · have h := g_ifp c4 h
        refine g_iload_n dX11_judge_58 rfl ?_
        refine g_ic1 dX11_judge_59 ?_
        refine g_iadd dX11_judge_60 ?_
        obtain rfl := Option.some.inj h
        exact g_iret rfl (Nat.le_refl _) rfl dX11_judge_61 (hr _ rfl)
      · have h := g_ifn c4 h
        refine g_iload_n dX11_judge_47 rfl ?_
        refine g_aload_n dX11_judge_48 rfl ?_
        refine m_getR fl_X11_10 rfl rfl rfl dX11_judge_49 ?_
        refine m_getI fl_X11_130 rfl rfl dX11_judge_52 ?_
        refine g_icmp_lt 62 (by decide) dX11_judge_55 (fun c5 => ?_) (fun c5 => ?_)
        · have h := g_ifp c5 h
          refine g_aload_n dX11_judge_62 rfl ?_
          refine m_getR fl_X11_10 rfl rfl rfl dX11_judge_63 ?_
          refine g_iload_n dX11_judge_66 rfl ?_
          refine g_iload_n dX11_judge_67 rfl ?_
          refine g_iload dX11_judge_68 rfl ?_
          refine m_cS mt_X11_chainOf ml_X11_216 ms_X11_chainOf dX11_judge_70 (k_X11_chainOf rfl) rfl rfl (by decide) ⟨Nat.le_refl _, Nat.le_refl _⟩ (Nat.le_of_ble_eq_true rfl) ?_
          obtain ⟨⟨x6, μ8⟩, q7, h⟩ := g_bind h
          refine m_cV mt_X9_after ml_X11_219 mv_X9_after dX11_judge_73 (k_X9_after q7) rfl rfl rfl rfl (by decide) ⟨Nat.le_refl _, Nat.le_refl _⟩ (Nat.le_of_ble_eq_true rfl) ?_
          refine g_istore_1 rfl (Nat.le_of_ble_eq_true rfl) dX11_judge_76 ?_
          refine g_aload_n dX11_judge_77 rfl ?_
          refine m_getR fl_X11_33 rfl rfl rfl dX11_judge_78 ?_
          refine g_iload_n dX11_judge_81 rfl ?_
          refine g_ic3 dX11_judge_82 ?_
          refine g_imul dX11_judge_83 ?_
          refine g_ic1 dX11_judge_84 ?_
          refine g_iadd dX11_judge_85 ?_
          obtain ⟨x9, qx9, h⟩ := g_bind h
          refine m_iald rfl qx9 dX11_judge_86 ?_
          refine g_aload_n dX11_judge_87 rfl ?_
          refine m_getR fl_X11_10 rfl rfl rfl dX11_judge_88 ?_
          refine g_iload_n dX11_judge_91 rfl ?_
          refine g_iload_n dX11_judge_92 rfl ?_
          obtain ⟨x10, q11, h⟩ := g_bind h
          refine m_cV mt_X9_worthOf ml_X11_271 mv_X9_worthOf dX11_judge_93 (k_X9_worthOf q11) rfl rfl rfl rfl (by decide) ⟨Nat.le_refl _, Nat.le_refl _⟩ (Nat.le_of_ble_eq_true rfl) ?_
          refine g_icmp_ne 103 (by decide) dX11_judge_96 (fun c12 => ?_) (fun c12 => ?_)
          · have h := g_ifn c12 h
            refine g_ic0 dX11_judge_103 ?_
            refine g_istore_5 rfl (Nat.le_of_ble_eq_true rfl) dX11_judge_104 ?_
            refine g_aload_n dX11_judge_106 rfl ?_
            refine m_getR fl_X11_33 rfl rfl rfl dX11_judge_107 ?_
            refine g_iload_n dX11_judge_110 rfl ?_
            refine g_ic3 dX11_judge_111 ?_
            refine g_imul dX11_judge_112 ?_
            refine g_ic2 dX11_judge_113 ?_
            refine g_iadd dX11_judge_114 ?_
            obtain ⟨x13, qx13, h⟩ := g_bind h
            refine m_iald rfl qx13 dX11_judge_115 ?_
            refine g_aload_n dX11_judge_116 rfl ?_
            refine m_getR fl_X11_10 rfl rfl rfl dX11_judge_117 ?_
            refine g_iload_n dX11_judge_120 rfl ?_
            obtain ⟨x14, q15, h⟩ := g_bind h
            refine m_cV mt_X9_homeSet ml_X11_140 mv_X9_homeSet dX11_judge_121 (k_X9_homeSet q15) rfl rfl rfl rfl (by decide) ⟨Nat.le_refl _, Nat.le_refl _⟩ (Nat.le_of_ble_eq_true rfl) ?_
            refine g_icmp_ne 131 (by decide) dX11_judge_124 (fun c16 => ?_) (fun c16 => ?_)
            · have h := g_ifn c16 h
              refine g_ic0 dX11_judge_131 ?_
              refine g_istore_6 rfl (Nat.le_of_ble_eq_true rfl) dX11_judge_132 ?_
              refine g_iload dX11_judge_134 rfl ?_
              refine g_if_eq 144 (by decide) dX11_judge_136 (fun c9 => ?_) (fun cd => absurd (by decide) cd)
              refine g_iload_n dX11_judge_144 rfl ?_
              refine g_ic1 dX11_judge_145 ?_
              refine g_iadd dX11_judge_146 ?_
              obtain rfl := Option.some.inj h
              exact g_iret rfl (Nat.le_refl _) rfl dX11_judge_147 (hr _ rfl)
            · have h := g_ifp c16 h
              refine g_ic1 dX11_judge_127 ?_
              refine g_goto 132 (by decide) dX11_judge_128 ?_
              refine g_istore_6 rfl (Nat.le_of_ble_eq_true rfl) dX11_judge_132 ?_
              refine g_iload dX11_judge_134 rfl ?_
              refine g_if_eq 144 (by decide) dX11_judge_136 (fun c9 => ?_) (fun cd => absurd (by decide) cd)
              refine g_iload_n dX11_judge_144 rfl ?_
              refine g_ic1 dX11_judge_145 ?_
              refine g_iadd dX11_judge_146 ?_
              obtain rfl := Option.some.inj h
              exact g_iret rfl (Nat.le_refl _) rfl dX11_judge_147 (hr _ rfl)
          · have h := g_ifp c12 h
            refine g_ic1 dX11_judge_99 ?_
            refine g_goto 104 (by decide) dX11_judge_100 ?_
            refine g_istore_5 rfl (Nat.le_of_ble_eq_true rfl) dX11_judge_104 ?_
            refine g_aload_n dX11_judge_106 rfl ?_
            refine m_getR fl_X11_33 rfl rfl rfl dX11_judge_107 ?_
            refine g_iload_n dX11_judge_110 rfl ?_
            refine g_ic3 dX11_judge_111 ?_
            refine g_imul dX11_judge_112 ?_
            refine g_ic2 dX11_judge_113 ?_
            refine g_iadd dX11_judge_114 ?_
            obtain ⟨x17, qx17, h⟩ := g_bind h
            refine m_iald rfl qx17 dX11_judge_115 ?_
            refine g_aload_n dX11_judge_116 rfl ?_
            refine m_getR fl_X11_10 rfl rfl rfl dX11_judge_117 ?_
            refine g_iload_n dX11_judge_120 rfl ?_
            obtain ⟨x18, q19, h⟩ := g_bind h
            refine m_cV mt_X9_homeSet ml_X11_140 mv_X9_homeSet dX11_judge_121 (k_X9_homeSet q19) rfl rfl rfl rfl (by decide) ⟨Nat.le_refl _, Nat.le_refl _⟩ (Nat.le_of_ble_eq_true rfl) ?_
            refine g_icmp_ne 131 (by decide) dX11_judge_124 (fun c20 => ?_) (fun c20 => ?_)
            · have h := g_ifn c20 h
              refine g_ic0 dX11_judge_131 ?_
              refine g_istore_6 rfl (Nat.le_of_ble_eq_true rfl) dX11_judge_132 ?_
              refine g_iload dX11_judge_134 rfl ?_
              refine g_if_eq 144 (by decide) dX11_judge_136 (fun cd => absurd cd (by decide)) (fun c9 => ?_)
              refine g_iload dX11_judge_139 rfl ?_
              refine g_if_ne 148 (by decide) dX11_judge_141 (fun cd => absurd (by decide) cd) (fun c9 => ?_)
              refine g_iload_n dX11_judge_144 rfl ?_
              refine g_ic1 dX11_judge_145 ?_
              refine g_iadd dX11_judge_146 ?_
              obtain rfl := Option.some.inj h
              exact g_iret rfl (Nat.le_refl _) rfl dX11_judge_147 (hr _ rfl)
            · have h := g_ifp c20 h
              refine g_ic1 dX11_judge_127 ?_
              refine g_goto 132 (by decide) dX11_judge_128 ?_
              refine g_istore_6 rfl (Nat.le_of_ble_eq_true rfl) dX11_judge_132 ?_
              refine g_iload dX11_judge_134 rfl ?_
              refine g_if_eq 144 (by decide) dX11_judge_136 (fun cd => absurd cd (by decide)) (fun c9 => ?_)
              refine g_iload dX11_judge_139 rfl ?_
              refine g_if_ne 148 (by decide) dX11_judge_141 (fun c9 => ?_) (fun cd => absurd cd (by decide))
              refine g_iinc_2 (v := 1) rfl (by decide) (Nat.le_of_ble_eq_true rfl) dX11_judge_148 ?_
              refine g_goto 10 (by decide) dX11_judge_151 ?_
              exact g_less _ (g_subS (g_subS (g_subS (g_subN (g_subN (g_subN (g_subN g_sub0))))))) (ih _ _ _ _ h hr hc)
        · have h := g_ifn c5 h
          refine g_iload_n dX11_judge_58 rfl ?_
          refine g_ic1 dX11_judge_59 ?_
          refine g_iadd dX11_judge_60 ?_
          obtain rfl := Option.some.inj h
          exact g_iret rfl (Nat.le_refl _) rfl dX11_judge_61 (hr _ rfl)
set_option maxRecDepth 100000 in
set_option maxHeartbeats 4000000 in
theorem k_X11_judge {D : va_G} {cA : Nat → ClassId} {b b2 k : Nat} {dyn : Nat → Nat} {t s : Nat} {N : Nat} {μ : g_M} {z : Int32 × g_M} (h : f_X11_judge N μ = some z) : g_K (g_XX D cA b b2 dyn) yX11_judge Y_X11_judge 6 0 0 k [.ref 0] (μ, (g_rfX t s)) (fun r1 σ1 => r1 = some (.int z.1) ∧ σ1 = (z.2, (g_rfX t s))) := by
  unfold f_X11_judge at h
  refine g_met 6 (by decide) rfl rfl (Nat.le_of_ble_eq_true rfl) ?_
  refine g_aload_n dX11_judge_0 rfl ?_
  refine m_getR fl_X11_10 rfl rfl rfl dX11_judge_1 ?_
  refine m_getI fl_X11_93 rfl rfl dX11_judge_4 ?_
  refine g_istore_1 rfl (Nat.le_of_ble_eq_true rfl) dX11_judge_7 ?_
  refine g_ic0 dX11_judge_8 ?_
  refine g_istore_2 rfl (Nat.le_of_ble_eq_true rfl) dX11_judge_9 ?_
  obtain ⟨w3, q2, h⟩ := g_bind h
  refine g_less _ (g_subS (g_subS (g_subS (g_subN (g_subN (g_subN (g_subN g_sub0))))))) (k_X11_judge_L10 _ _ _ _ _ q2 ?_ ?_)
  · intro q0 e0
    subst e0
    cases h
    exact ⟨rfl, rfl⟩
  · intro μ1 e0
    subst e0
    try dsimp only at h
    refine g_ic0 dX11_judge_154 ?_
    obtain rfl := Option.some.inj h
    exact g_iret rfl (Nat.le_refl _) rfl dX11_judge_155 ⟨rfl, rfl⟩
set_option maxRecDepth 100000 in
set_option maxHeartbeats 4000000 in
theorem k_X11_isSheet {D : va_G} {cA : Nat → ClassId} {b b2 k : Nat} {dyn : Nat → Nat} {t s : Nat} {a1 : Int32} {μ : g_M} {z : Int32} (h : f_X11_isSheet a1 = z) : g_K (g_XX D cA b b2 dyn) yX11_isSheet Y_X11_isSheet 2 0 0 k [.int a1] (μ, (g_rfX t s)) (fun r1 σ1 => r1 = some (.int z) ∧ σ1 = (μ, (g_rfX t s))) := by
  unfold f_X11_isSheet at h
  refine g_met 0 (by decide) rfl rfl (Nat.le_of_ble_eq_true rfl) ?_
  refine g_iload_n dX11_isSheet_0 rfl ?_
  refine g_ic0 dX11_isSheet_1 ?_
  refine g_ic3 dX11_isSheet_2 ?_
  refine m_cS mt_X11_isBetween ml_X11_120 ms_X11_isBetween dX11_isSheet_3 (k_X11_isBetween rfl) rfl rfl (by decide) ⟨Nat.le_refl _, Nat.le_refl _⟩ (Nat.le_of_ble_eq_true rfl) ?_
  subst h
  exact g_zret rfl (Nat.le_refl _) rfl (zb_X11_isBetween a1 0 3) dX11_isSheet_6 ⟨rfl, rfl⟩
set_option maxRecDepth 100000 in
set_option maxHeartbeats 4000000 in
theorem zb_X11_isSheet (a1 : Int32) : narrow .boolean (.int (f_X11_isSheet a1)) = .int (f_X11_isSheet a1) := by
  unfold f_X11_isSheet
  repeat' split
  all_goals first | rfl | apply zb_X11_isBetween
set_option maxRecDepth 100000 in
set_option maxHeartbeats 4000000 in
theorem k_X11_sheet_L71 {D : va_G} {cA : Nat → ClassId} {b b2 k : Nat} {dyn : Nat → Nat} {t s : Nat} {Q : Option Value → g_S → Prop} {N : Nat} : ∀ (n : Nat) (x_1 : Int32) (x_3 : Int32) (x_4 : Int32) (μ : g_M) (z_μ : g_M), f_X11_sheet_L71 N n x_1 x_3 x_4 μ = some z_μ → g_V (g_XX D cA b b2 dyn) Y_X11_sheet 3 0 0 Q k 0 0 93 [none, none, none, none, none] [] (z_μ, (g_rfX t s)) → g_V (g_XX D cA b b2 dyn) Y_X11_sheet 3 0 0 Q k 0 0 71 [some (.ref 0), some (.int x_1), none, some (.int x_3), some (.int x_4)] [] (μ, (g_rfX t s)) := by
  intro n
  induction n with
  | zero =>
    intro x_1 x_3 x_4 μ z_μ h
    rw [f_X11_sheet_L71] at h
    cases h
  | succ n ih =>
    intro x_1 x_3 x_4 μ z_μ h hc
    rw [f_X11_sheet_L71] at h
    refine g_iload dX11_sheet_71 rfl ?_
    refine g_iload_n dX11_sheet_73 rfl ?_
    refine g_icmp_ge 93 (by decide) dX11_sheet_74 (fun c8 => ?_) (fun c8 => ?_)
    · have h := g_ifp c8 h
      obtain rfl := Option.some.inj h
      exact g_less _ (g_subN (g_subN (g_subN (g_subN (g_subN g_sub0))))) hc
    · have h := g_ifn c8 h
      refine g_aload_n dX11_sheet_77 rfl ?_
      refine m_getR fl_X11_45 rfl rfl rfl dX11_sheet_78 ?_
      refine g_iload_n dX11_sheet_81 rfl ?_
      obtain ⟨j9, qj9, h⟩ := g_bind h
      refine m_aald2 rfl qj9 (r := 56 + j9) (fun h9 => g_rfS h9) dX11_sheet_82 ?_
      refine g_iload dX11_sheet_83 rfl ?_
      refine g_ic0 dX11_sheet_85 ?_
      obtain ⟨μ10, qμ10, h⟩ := g_bind h
      refine m_iast (g_shS qj9) qμ10 dX11_sheet_86 ?_
      refine g_iinc_4 (v := 1) rfl (by decide) (Nat.le_of_ble_eq_true rfl) dX11_sheet_87 ?_
      refine g_goto 71 (by decide) dX11_sheet_90 ?_
      exact g_less _ (g_subS (g_subS (g_subN (g_subS (g_subS g_sub0))))) (ih _ _ _ _ _ h hc)
set_option maxRecDepth 100000 in
set_option maxHeartbeats 4000000 in
theorem k_X11_sheet {D : va_G} {cA : Nat → ClassId} {b b2 k : Nat} {dyn : Nat → Nat} {t s : Nat} {N : Nat} {a1 : Int32} {a2 : Int32} {a3 : Int32} {μ : g_M} {z : Int32 × g_M} (h : f_X11_sheet N a1 a2 a3 μ = some z) : g_K (g_XX D cA b b2 dyn) yX11_sheet Y_X11_sheet 3 0 0 k [.ref 0, .int a1, .int a2, .int a3] (μ, (g_rfX t s)) (fun r1 σ1 => r1 = some (.int z.1) ∧ σ1 = (z.2, (g_rfX t s))) := by
  unfold f_X11_sheet at h
  refine g_met 1 (by decide) rfl rfl (Nat.le_of_ble_eq_true rfl) ?_
  refine g_iload_n dX11_sheet_0 rfl ?_
  refine m_cS mt_X11_isSheet ml_X11_283 ms_X11_isSheet dX11_sheet_1 (k_X11_isSheet rfl) rfl rfl (by decide) ⟨Nat.le_refl _, Nat.le_refl _⟩ (Nat.le_of_ble_eq_true rfl) ?_
  refine g_if_eq 16 (by decide) dX11_sheet_4 (fun c1 => ?_) (fun c1 => ?_)
  · have h := g_ifp c1 h
    refine g_icm1 dX11_sheet_16 ?_
    obtain rfl := Option.some.inj h
    exact g_iret rfl (Nat.le_refl _) rfl dX11_sheet_17 ⟨rfl, rfl⟩
  · have h := g_ifn c1 h
    refine g_iload_n dX11_sheet_7 rfl ?_
    refine g_icm1 dX11_sheet_8 ?_
    refine g_ic4 dX11_sheet_9 ?_
    refine m_cS mt_X11_isBetween ml_X11_120 ms_X11_isBetween dX11_sheet_10 (k_X11_isBetween rfl) rfl rfl (by decide) ⟨Nat.le_refl _, Nat.le_refl _⟩ (Nat.le_of_ble_eq_true rfl) ?_
    refine g_if_ne 18 (by decide) dX11_sheet_13 (fun c2 => ?_) (fun c2 => ?_)
    · have h := g_ifn c2 h
      refine g_iload_n dX11_sheet_18 rfl ?_
      refine g_icm1 dX11_sheet_19 ?_
      refine g_icmp_ne 39 (by decide) dX11_sheet_20 (fun c3 => ?_) (fun c3 => ?_)
      · have h := g_ifn c3 h
        refine g_iload_n dX11_sheet_39 rfl ?_
        refine g_bipush (v := 40) dX11_sheet_40 (by decide) ?_
        refine g_icmp_le 47 (by decide) dX11_sheet_42 (fun c4 => ?_) (fun c4 => ?_)
        · have h := g_ifp c4 h
          refine g_iload_n dX11_sheet_47 rfl ?_
          refine g_if_ge 54 (by decide) dX11_sheet_48 (fun c5 => ?_) (fun c5 => ?_)
          · have h := g_ifp c5 h
            refine g_aload_n dX11_sheet_54 rfl ?_
            refine m_getR fl_X11_37 rfl rfl rfl dX11_sheet_55 ?_
            refine g_iload_n dX11_sheet_58 rfl ?_
            refine g_iload_n dX11_sheet_59 rfl ?_
            obtain ⟨μ6, qμ6, h⟩ := g_bind h
            refine m_iast rfl qμ6 dX11_sheet_60 ?_
            refine g_aload_n dX11_sheet_61 rfl ?_
            refine m_getR fl_X11_40 rfl rfl rfl dX11_sheet_62 ?_
            refine g_iload_n dX11_sheet_65 rfl ?_
            refine g_iload_n dX11_sheet_66 rfl ?_
            obtain ⟨μ7, qμ7, h⟩ := g_bind h
            refine m_iast rfl qμ7 dX11_sheet_67 ?_
            refine g_ic0 dX11_sheet_68 ?_
            refine g_istore_4 rfl (Nat.le_of_ble_eq_true rfl) dX11_sheet_69 ?_
            obtain ⟨μ8, q9, h⟩ := g_bind h
            refine g_less _ (g_subS (g_subS (g_subN (g_subS (g_subS g_sub0))))) (k_X11_sheet_L71 _ _ _ _ _ _ q9 ?_)
            refine g_ic1 dX11_sheet_93 ?_
            obtain rfl := Option.some.inj h
            exact g_iret rfl (Nat.le_refl _) rfl dX11_sheet_94 ⟨rfl, rfl⟩
          · have h := g_ifn c5 h
            refine g_bipush (v := (-14)) dX11_sheet_51 (by decide) ?_
            obtain rfl := Option.some.inj h
            exact g_iret rfl (Nat.le_refl _) rfl dX11_sheet_53 ⟨rfl, rfl⟩
        · have h := g_ifn c4 h
          refine g_icm1 dX11_sheet_45 ?_
          obtain rfl := Option.some.inj h
          exact g_iret rfl (Nat.le_refl _) rfl dX11_sheet_46 ⟨rfl, rfl⟩
      · have h := g_ifp c3 h
        refine g_aload_n dX11_sheet_23 rfl ?_
        refine m_getR fl_X11_37 rfl rfl rfl dX11_sheet_24 ?_
        refine g_iload_n dX11_sheet_27 rfl ?_
        refine g_icm1 dX11_sheet_28 ?_
        obtain ⟨μ10, qμ10, h⟩ := g_bind h
        refine m_iast rfl qμ10 dX11_sheet_29 ?_
        refine g_aload_n dX11_sheet_30 rfl ?_
        refine m_getR fl_X11_40 rfl rfl rfl dX11_sheet_31 ?_
        refine g_iload_n dX11_sheet_34 rfl ?_
        refine g_ic0 dX11_sheet_35 ?_
        obtain ⟨μ11, qμ11, h⟩ := g_bind h
        refine m_iast rfl qμ11 dX11_sheet_36 ?_
        refine g_ic1 dX11_sheet_37 ?_
        obtain rfl := Option.some.inj h
        exact g_iret rfl (Nat.le_refl _) rfl dX11_sheet_38 ⟨rfl, rfl⟩
    · have h := g_ifp c2 h
      refine g_icm1 dX11_sheet_16 ?_
      obtain rfl := Option.some.inj h
      exact g_iret rfl (Nat.le_refl _) rfl dX11_sheet_17 ⟨rfl, rfl⟩
set_option maxRecDepth 100000 in
set_option maxHeartbeats 4000000 in
theorem k_X11_isItem {D : va_G} {cA : Nat → ClassId} {b b2 k : Nat} {dyn : Nat → Nat} {t s : Nat} {a1 : Int32} {a2 : Int32} {μ : g_M} {z : Int32} (h : f_X11_isItem a1 a2 μ = some z) : g_K (g_XX D cA b b2 dyn) yX11_isItem Y_X11_isItem 2 0 0 k [.ref 0, .int a1, .int a2] (μ, (g_rfX t s)) (fun r1 σ1 => r1 = some (.int z) ∧ σ1 = (μ, (g_rfX t s))) := by
  unfold f_X11_isItem at h
  refine g_met 0 (by decide) rfl rfl (Nat.le_of_ble_eq_true rfl) ?_
  refine g_iload_n dX11_isItem_0 rfl ?_
  refine g_ic0 dX11_isItem_1 ?_
  refine g_aload_n dX11_isItem_2 rfl ?_
  refine m_getR fl_X11_40 rfl rfl rfl dX11_isItem_3 ?_
  refine g_iload_n dX11_isItem_6 rfl ?_
  obtain ⟨x1, qx1, h⟩ := g_bind h
  refine m_iald rfl qx1 dX11_isItem_7 ?_
  refine g_ic1 dX11_isItem_8 ?_
  refine g_isub dX11_isItem_9 ?_
  refine m_cS mt_X11_isBetween ml_X11_120 ms_X11_isBetween dX11_isItem_10 (k_X11_isBetween rfl) rfl rfl (by decide) ⟨Nat.le_refl _, Nat.le_refl _⟩ (Nat.le_of_ble_eq_true rfl) ?_
  obtain rfl := Option.some.inj h
  exact g_zret rfl (Nat.le_refl _) rfl (zb_X11_isBetween a2 0 (x1 - 1)) dX11_isItem_13 ⟨rfl, rfl⟩
set_option maxRecDepth 100000 in
set_option maxHeartbeats 4000000 in
theorem k_X11_narrowed {D : va_G} {cA : Nat → ClassId} {b b2 k : Nat} {dyn : Nat → Nat} {t s : Nat} {a1 : Int32} {a2 : Int32} {μ : g_M} {z : Int32} (h : f_X11_narrowed a1 a2 = z) : g_K (g_XX D cA b b2 dyn) yX11_narrowed Y_X11_narrowed 1 0 0 k [.int a1, .int a2] (μ, (g_rfX t s)) (fun r1 σ1 => r1 = some (.int z) ∧ σ1 = (μ, (g_rfX t s))) := by
  unfold f_X11_narrowed at h
  refine g_met 0 (by decide) rfl rfl (Nat.le_of_ble_eq_true rfl) ?_
  refine g_iload_n dX11_narrowed_0 rfl ?_
  by_cases c1 : a2 = 0
  · have h := g_ifp c1 h
    refine m_tab 0 36 c1 dX11_narrowed_1 (by decide) (by decide) rfl (by decide) ?_
    refine g_iload_n dX11_narrowed_36 rfl ?_
    refine g_i2b dX11_narrowed_37 ?_
    subst h
    exact g_iret rfl (Nat.le_refl _) rfl dX11_narrowed_38 ⟨rfl, rfl⟩
  have h := g_ifn c1 h
  by_cases c2 : a2 = 1
  · have h := g_ifp c2 h
    refine m_tab 1 39 c2 dX11_narrowed_1 (by decide) (by decide) rfl (by decide) ?_
    refine g_iload_n dX11_narrowed_39 rfl ?_
    refine g_i2s dX11_narrowed_40 ?_
    subst h
    exact g_iret rfl (Nat.le_refl _) rfl dX11_narrowed_41 ⟨rfl, rfl⟩
  have h := g_ifn c2 h
  by_cases c3 : a2 = 2
  · have h := g_ifp c3 h
    refine m_tab 2 52 c3 dX11_narrowed_1 (by decide) (by decide) rfl (by decide) ?_
    refine g_iload_n dX11_narrowed_52 rfl ?_
    subst h
    exact g_iret rfl (Nat.le_refl _) rfl dX11_narrowed_53 ⟨rfl, rfl⟩
  have h := g_ifn c3 h
  by_cases c4 : a2 = 3
  · have h := g_ifp c4 h
    refine m_tab 3 52 c4 dX11_narrowed_1 (by decide) (by decide) rfl (by decide) ?_
    refine g_iload_n dX11_narrowed_52 rfl ?_
    subst h
    exact g_iret rfl (Nat.le_refl _) rfl dX11_narrowed_53 ⟨rfl, rfl⟩
  have h := g_ifn c4 h
  by_cases c5 : a2 = 4
  · have h := g_ifp c5 h
    refine m_tab 4 42 c5 dX11_narrowed_1 (by decide) (by decide) rfl (by decide) ?_
    refine g_iload_n dX11_narrowed_42 rfl ?_
    refine g_if_eq 50 (by decide) dX11_narrowed_43 (fun c6 => ?_) (fun c6 => ?_)
    · have h := g_ifp c6 h
      refine g_ic0 dX11_narrowed_50 ?_
      subst h
      exact g_iret rfl (Nat.le_refl _) rfl dX11_narrowed_51 ⟨rfl, rfl⟩
    · have h := g_ifn c6 h
      refine g_ic1 dX11_narrowed_46 ?_
      refine g_goto 51 (by decide) dX11_narrowed_47 ?_
      subst h
      exact g_iret rfl (Nat.le_refl _) rfl dX11_narrowed_51 ⟨rfl, rfl⟩
  have h := g_ifn c5 h
  refine g_tabOut 52 dX11_narrowed_1 (by have nc1 := m_ne 0 0 c1 (by decide); have nc2 := m_ne 1 1 c2 (by decide); have nc3 := m_ne 2 2 c3 (by decide); have nc4 := m_ne 3 3 c4 (by decide); have nc5 := m_ne 4 4 c5 (by decide); omega) (by decide) ?_
  refine g_iload_n dX11_narrowed_52 rfl ?_
  subst h
  exact g_iret rfl (Nat.le_refl _) rfl dX11_narrowed_53 ⟨rfl, rfl⟩
set_option maxRecDepth 100000 in
set_option maxHeartbeats 4000000 in
theorem k_X11_write {D : va_G} {cA : Nat → ClassId} {b b2 k : Nat} {dyn : Nat → Nat} {t s : Nat} {a1 : Int32} {a2 : Int32} {a3 : Int32} {μ : g_M} {z : Int32 × g_M} (h : f_X11_write a1 a2 a3 μ = some z) : g_K (g_XX D cA b b2 dyn) yX11_write Y_X11_write 3 0 0 k [.ref 0, .int a1, .int a2, .int a3] (μ, (g_rfX t s)) (fun r1 σ1 => r1 = some (.int z.1) ∧ σ1 = (z.2, (g_rfX t s))) := by
  unfold f_X11_write at h
  refine g_met 0 (by decide) rfl rfl (Nat.le_of_ble_eq_true rfl) ?_
  refine g_iload_n dX11_write_0 rfl ?_
  refine m_cS mt_X11_isSheet ml_X11_283 ms_X11_isSheet dX11_write_1 (k_X11_isSheet rfl) rfl rfl (by decide) ⟨Nat.le_refl _, Nat.le_refl _⟩ (Nat.le_of_ble_eq_true rfl) ?_
  refine g_if_ne 9 (by decide) dX11_write_4 (fun c1 => ?_) (fun c1 => ?_)
  · have h := g_ifn c1 h
    refine g_aload_n dX11_write_9 rfl ?_
    refine m_getR fl_X11_37 rfl rfl rfl dX11_write_10 ?_
    refine g_iload_n dX11_write_13 rfl ?_
    obtain ⟨x2, qx2, h⟩ := g_bind h
    refine m_iald rfl qx2 dX11_write_14 ?_
    refine g_icm1 dX11_write_15 ?_
    refine g_icmp_ne 22 (by decide) dX11_write_16 (fun c3 => ?_) (fun c3 => ?_)
    · have h := g_ifn c3 h
      refine g_aload_n dX11_write_22 rfl ?_
      refine g_iload_n dX11_write_23 rfl ?_
      refine g_iload_n dX11_write_24 rfl ?_
      obtain ⟨x4, q5, h⟩ := g_bind h
      refine m_cV mt_X11_isItem ml_X11_286 mv_X11_isItem dX11_write_25 (k_X11_isItem q5) rfl rfl rfl rfl (by decide) ⟨Nat.le_refl _, Nat.le_refl _⟩ (Nat.le_of_ble_eq_true rfl) ?_
      refine g_if_ne 34 (by decide) dX11_write_28 (fun c6 => ?_) (fun c6 => ?_)
      · have h := g_ifn c6 h
        refine g_aload_n dX11_write_34 rfl ?_
        refine m_getR fl_X11_45 rfl rfl rfl dX11_write_35 ?_
        refine g_iload_n dX11_write_38 rfl ?_
        obtain ⟨j7, qj7, h⟩ := g_bind h
        refine m_aald2 rfl qj7 (r := 56 + j7) (fun h9 => g_rfS h9) dX11_write_39 ?_
        refine g_iload_n dX11_write_40 rfl ?_
        refine g_iload_n dX11_write_41 rfl ?_
        refine g_aload_n dX11_write_42 rfl ?_
        refine m_getR fl_X11_37 rfl rfl rfl dX11_write_43 ?_
        refine g_iload_n dX11_write_46 rfl ?_
        obtain ⟨x8, qx8, h⟩ := g_bind h
        refine m_iald rfl qx8 dX11_write_47 ?_
        refine m_cS mt_X11_narrowed ml_X11_289 ms_X11_narrowed dX11_write_48 (k_X11_narrowed rfl) rfl rfl (by decide) ⟨Nat.le_refl _, Nat.le_refl _⟩ (Nat.le_of_ble_eq_true rfl) ?_
        obtain ⟨μ9, qμ9, h⟩ := g_bind h
        refine m_iast (g_shS qj7) qμ9 dX11_write_51 ?_
        refine g_ic1 dX11_write_52 ?_
        obtain rfl := Option.some.inj h
        exact g_iret rfl (Nat.le_refl _) rfl dX11_write_53 ⟨rfl, rfl⟩
      · have h := g_ifp c6 h
        refine g_bipush (v := (-12)) dX11_write_31 (by decide) ?_
        obtain rfl := Option.some.inj h
        exact g_iret rfl (Nat.le_refl _) rfl dX11_write_33 ⟨rfl, rfl⟩
    · have h := g_ifp c3 h
      refine g_bipush (v := (-11)) dX11_write_19 (by decide) ?_
      obtain rfl := Option.some.inj h
      exact g_iret rfl (Nat.le_refl _) rfl dX11_write_21 ⟨rfl, rfl⟩
  · have h := g_ifp c1 h
    refine g_icm1 dX11_write_7 ?_
    obtain rfl := Option.some.inj h
    exact g_iret rfl (Nat.le_refl _) rfl dX11_write_8 ⟨rfl, rfl⟩
set_option maxRecDepth 100000 in
set_option maxHeartbeats 4000000 in
theorem k_X11_refusalAs {D : va_G} {cA : Nat → ClassId} {b b2 k : Nat} {dyn : Nat → Nat} {t s : Nat} {a1 : Int32} {a2 : Int32} {μ : g_M} {z : Int32} (h : f_X11_refusalAs a1 a2 μ = some z) : g_K (g_XX D cA b b2 dyn) yX11_refusalAs Y_X11_refusalAs 1 0 0 k [.ref 0, .int a1, .int a2] (μ, (g_rfX t s)) (fun r1 σ1 => r1 = some (.int z) ∧ σ1 = (μ, (g_rfX t s))) := by
  unfold f_X11_refusalAs at h
  refine g_met 0 (by decide) rfl rfl (Nat.le_of_ble_eq_true rfl) ?_
  refine g_aload_n dX11_refusalAs_0 rfl ?_
  refine m_getR fl_X11_37 rfl rfl rfl dX11_refusalAs_1 ?_
  refine g_iload_n dX11_refusalAs_4 rfl ?_
  obtain ⟨x1, qx1, h⟩ := g_bind h
  refine m_iald rfl qx1 dX11_refusalAs_5 ?_
  refine g_icm1 dX11_refusalAs_6 ?_
  refine g_icmp_ne 13 (by decide) dX11_refusalAs_7 (fun c2 => ?_) (fun c2 => ?_)
  · have h := g_ifn c2 h
    refine g_aload_n dX11_refusalAs_13 rfl ?_
    refine m_getR fl_X11_37 rfl rfl rfl dX11_refusalAs_14 ?_
    refine g_iload_n dX11_refusalAs_17 rfl ?_
    obtain ⟨x3, qx3, h⟩ := g_bind h
    refine m_iald rfl qx3 dX11_refusalAs_18 ?_
    refine g_iload_n dX11_refusalAs_19 rfl ?_
    refine g_icmp_ne 27 (by decide) dX11_refusalAs_20 (fun c4 => ?_) (fun c4 => ?_)
    · have h := g_ifn c4 h
      refine g_bipush (v := (-13)) dX11_refusalAs_27 (by decide) ?_
      obtain rfl := Option.some.inj h
      exact g_iret rfl (Nat.le_refl _) rfl dX11_refusalAs_29 ⟨rfl, rfl⟩
    · have h := g_ifp c4 h
      refine g_ic0 dX11_refusalAs_23 ?_
      refine g_goto 29 (by decide) dX11_refusalAs_24 ?_
      obtain rfl := Option.some.inj h
      exact g_iret rfl (Nat.le_refl _) rfl dX11_refusalAs_29 ⟨rfl, rfl⟩
  · have h := g_ifp c2 h
    refine g_bipush (v := (-11)) dX11_refusalAs_10 (by decide) ?_
    obtain rfl := Option.some.inj h
    exact g_iret rfl (Nat.le_refl _) rfl dX11_refusalAs_12 ⟨rfl, rfl⟩
set_option maxRecDepth 100000 in
set_option maxHeartbeats 4000000 in
theorem k_X11_item {D : va_G} {cA : Nat → ClassId} {b b2 k : Nat} {dyn : Nat → Nat} {t s : Nat} {a1 : Int32} {a2 : Int32} {a3 : Int32} {μ : g_M} {z : Int32} (h : f_X11_item a1 a2 a3 μ = some z) : g_K (g_XX D cA b b2 dyn) yX11_item Y_X11_item 3 0 0 k [.ref 0, .int a1, .int a2, .int a3] (μ, (g_rfX t s)) (fun r1 σ1 => r1 = some (.int z) ∧ σ1 = (μ, (g_rfX t s))) := by
  unfold f_X11_item at h
  refine g_met 1 (by decide) rfl rfl (Nat.le_of_ble_eq_true rfl) ?_
  refine g_iload_n dX11_item_0 rfl ?_
  refine m_cS mt_X11_isSheet ml_X11_283 ms_X11_isSheet dX11_item_1 (k_X11_isSheet rfl) rfl rfl (by decide) ⟨Nat.le_refl _, Nat.le_refl _⟩ (Nat.le_of_ble_eq_true rfl) ?_
  refine g_if_eq 16 (by decide) dX11_item_4 (fun c1 => ?_) (fun c1 => ?_)
  · have h := g_ifp c1 h
    refine g_icm1 dX11_item_16 ?_
    obtain rfl := Option.some.inj h
    exact g_iret rfl (Nat.le_refl _) rfl dX11_item_17 ⟨rfl, rfl⟩
  · have h := g_ifn c1 h
    refine g_iload_n dX11_item_7 rfl ?_
    refine g_ic0 dX11_item_8 ?_
    refine g_ic4 dX11_item_9 ?_
    refine m_cS mt_X11_isBetween ml_X11_120 ms_X11_isBetween dX11_item_10 (k_X11_isBetween rfl) rfl rfl (by decide) ⟨Nat.le_refl _, Nat.le_refl _⟩ (Nat.le_of_ble_eq_true rfl) ?_
    refine g_if_ne 18 (by decide) dX11_item_13 (fun c2 => ?_) (fun c2 => ?_)
    · have h := g_ifn c2 h
      refine g_aload_n dX11_item_18 rfl ?_
      refine g_iload_n dX11_item_19 rfl ?_
      refine g_iload_n dX11_item_20 rfl ?_
      obtain ⟨x3, q4, h⟩ := g_bind h
      refine m_cV mt_X11_refusalAs ml_X11_292 mv_X11_refusalAs dX11_item_21 (k_X11_refusalAs q4) rfl rfl rfl rfl (by decide) ⟨Nat.le_refl _, Nat.le_refl _⟩ (Nat.le_of_ble_eq_true rfl) ?_
      refine g_istore_4 rfl (Nat.le_of_ble_eq_true rfl) dX11_item_24 ?_
      refine g_iload dX11_item_26 rfl ?_
      refine g_if_ge 34 (by decide) dX11_item_28 (fun c5 => ?_) (fun c5 => ?_)
      · have h := g_ifp c5 h
        refine g_aload_n dX11_item_34 rfl ?_
        refine g_iload_n dX11_item_35 rfl ?_
        refine g_iload_n dX11_item_36 rfl ?_
        obtain ⟨x6, q7, h⟩ := g_bind h
        refine m_cV mt_X11_isItem ml_X11_286 mv_X11_isItem dX11_item_37 (k_X11_isItem q7) rfl rfl rfl rfl (by decide) ⟨Nat.le_refl _, Nat.le_refl _⟩ (Nat.le_of_ble_eq_true rfl) ?_
        refine g_if_eq 54 (by decide) dX11_item_40 (fun c8 => ?_) (fun c8 => ?_)
        · have h := g_ifp c8 h
          refine g_bipush (v := (-12)) dX11_item_54 (by decide) ?_
          obtain rfl := Option.some.inj h
          exact g_iret rfl (Nat.le_refl _) rfl dX11_item_56 ⟨rfl, rfl⟩
        · have h := g_ifn c8 h
          refine g_aload_n dX11_item_43 rfl ?_
          refine m_getR fl_X11_45 rfl rfl rfl dX11_item_44 ?_
          refine g_iload_n dX11_item_47 rfl ?_
          obtain ⟨j9, qj9, h⟩ := g_bind h
          refine m_aald2 rfl qj9 (r := 56 + j9) (fun h9 => g_rfS h9) dX11_item_48 ?_
          refine g_iload_n dX11_item_49 rfl ?_
          obtain ⟨x10, qx10, h⟩ := g_bind h
          refine m_iald (g_shS qj9) qx10 dX11_item_50 ?_
          refine g_goto 56 (by decide) dX11_item_51 ?_
          obtain rfl := Option.some.inj h
          exact g_iret rfl (Nat.le_refl _) rfl dX11_item_56 ⟨rfl, rfl⟩
      · have h := g_ifn c5 h
        refine g_iload dX11_item_31 rfl ?_
        obtain rfl := Option.some.inj h
        exact g_iret rfl (Nat.le_refl _) rfl dX11_item_33 ⟨rfl, rfl⟩
    · have h := g_ifp c2 h
      refine g_icm1 dX11_item_16 ?_
      obtain rfl := Option.some.inj h
      exact g_iret rfl (Nat.le_refl _) rfl dX11_item_17 ⟨rfl, rfl⟩
set_option maxRecDepth 100000 in
set_option maxHeartbeats 4000000 in
theorem k_X11_goAll_L41 {D : va_G} {cA : Nat → ClassId} {b b2 k : Nat} {dyn : Nat → Nat} {t s : Nat} {Q : Option Value → g_S → Prop} {N : Nat} : ∀ (n : Nat) (x_1 : Int32) (x_2 : Int32) (x_3 : Int32) (x_5 : Int32) (x_6 : Int32) (μ : g_M) (z : (Int32 × g_M) ⊕ (Int32 × g_M)), f_X11_goAll_L41 N n x_1 x_2 x_3 x_5 x_6 μ = some z → (∀ q : Int32 × g_M, z = .inl q → Q (some (.int q.1)) (q.2, (g_rfX t s))) → (∀ (z_5 : Int32) (z_μ : g_M), z = .inr (z_5, z_μ) → g_V (g_XX D cA b b2 dyn) Y_X11_goAll 7 0 0 Q k 0 0 117 [none, none, none, none, none, some (.int z_5), none, none] [] (z_μ, (g_rfX t s))) → g_V (g_XX D cA b b2 dyn) Y_X11_goAll 7 0 0 Q k 0 0 41 [some (.ref 0), some (.int x_1), some (.int x_2), some (.int x_3), none, some (.int x_5), some (.int x_6), none] [] (μ, (g_rfX t s)) := by
  intro n
  induction n with
  | zero =>
    intro x_1 x_2 x_3 x_5 x_6 μ z h
    rw [f_X11_goAll_L41] at h
    cases h
  | succ n ih =>
    intro x_1 x_2 x_3 x_5 x_6 μ z h hr hc
    rw [f_X11_goAll_L41] at h
    refine g_iload dX11_goAll_41 rfl ?_
    refine g_iload_n dX11_goAll_43 rfl ?_
    refine g_icmp_ge 117 (by decide) dX11_goAll_44 (fun c6 => ?_) (fun c6 => ?_)
    · have h := g_ifp c6 h
      obtain rfl := Option.some.inj h
      exact g_less _ (g_subN (g_subN (g_subN (g_subN (g_subN (g_subS (g_subN (g_subN g_sub0)))))))) (hc _ _ rfl)
    · have h := g_ifn c6 h
      refine g_aload_n dX11_goAll_47 rfl ?_
      refine g_iload_n dX11_goAll_48 rfl ?_
      refine g_iload_n dX11_goAll_49 rfl ?_
      refine g_iload dX11_goAll_50 rfl ?_
      refine g_iadd dX11_goAll_52 ?_
      obtain ⟨x7, q8, h⟩ := g_bind h
      refine m_cV mt_X11_isItem ml_X11_286 mv_X11_isItem dX11_goAll_53 (k_X11_isItem q8) rfl rfl rfl rfl (by decide) ⟨Nat.le_refl _, Nat.le_refl _⟩ (Nat.le_of_ble_eq_true rfl) ?_
      refine g_if_ne 62 (by decide) dX11_goAll_56 (fun c9 => ?_) (fun c9 => ?_)
      · have h := g_ifn c9 h
        refine g_aload_n dX11_goAll_62 rfl ?_
        refine m_getR fl_X11_45 rfl rfl rfl dX11_goAll_63 ?_
        refine g_iload_n dX11_goAll_66 rfl ?_
        obtain ⟨j10, qj10, h⟩ := g_bind h
        refine m_aald2 rfl qj10 (r := 56 + j10) (fun h9 => g_rfS h9) dX11_goAll_67 ?_
        refine g_iload_n dX11_goAll_68 rfl ?_
        refine g_iload dX11_goAll_69 rfl ?_
        refine g_iadd dX11_goAll_71 ?_
        obtain ⟨x11, qx11, h⟩ := g_bind h
        refine m_iald (g_shS qj10) qx11 dX11_goAll_72 ?_
        refine g_istore_7 rfl (Nat.le_of_ble_eq_true rfl) dX11_goAll_73 ?_
        refine g_aload_n dX11_goAll_75 rfl ?_
        refine g_iload dX11_goAll_76 rfl ?_
        refine m_cV mt_X11_isAct ml_X11_280 mv_X11_isAct dX11_goAll_78 (k_X11_isAct rfl) rfl rfl rfl rfl (by decide) ⟨Nat.le_refl _, Nat.le_refl _⟩ (Nat.le_of_ble_eq_true rfl) ?_
        refine g_if_eq 111 (by decide) dX11_goAll_81 (fun c12 => ?_) (fun c12 => ?_)
        · have h := g_ifp c12 h
          refine g_iinc_6 (v := 1) rfl (by decide) (Nat.le_of_ble_eq_true rfl) dX11_goAll_111 ?_
          refine g_goto 41 (by decide) dX11_goAll_114 ?_
          exact g_less _ (g_subS (g_subS (g_subS (g_subS (g_subN (g_subS (g_subS (g_subN g_sub0)))))))) (ih _ _ _ _ _ _ _ h hr hc)
        · have h := g_ifn c12 h
          refine g_aload_n dX11_goAll_84 rfl ?_
          refine m_getR fl_X11_10 rfl rfl rfl dX11_goAll_85 ?_
          refine m_cV mt_X9_isOver ml_X11_136 mv_X9_isOver dX11_goAll_88 (k_X9_isOver rfl) rfl rfl rfl rfl (by decide) ⟨Nat.le_refl _, Nat.le_refl _⟩ (Nat.le_of_ble_eq_true rfl) ?_
          refine g_if_ne 111 (by decide) dX11_goAll_91 (fun c13 => ?_) (fun c13 => ?_)
          · have h := g_ifn c13 h
            refine g_iinc_6 (v := 1) rfl (by decide) (Nat.le_of_ble_eq_true rfl) dX11_goAll_111 ?_
            refine g_goto 41 (by decide) dX11_goAll_114 ?_
            exact g_less _ (g_subS (g_subS (g_subS (g_subS (g_subN (g_subS (g_subS (g_subN g_sub0)))))))) (ih _ _ _ _ _ _ _ h hr hc)
          · have h := g_ifp c13 h
            refine g_iload dX11_goAll_94 rfl ?_
            refine g_aload_n dX11_goAll_96 rfl ?_
            refine m_getR fl_X11_10 rfl rfl rfl dX11_goAll_97 ?_
            refine g_iload dX11_goAll_100 rfl ?_
            refine m_cS mt_X11_chainOf ml_X11_216 ms_X11_chainOf dX11_goAll_102 (k_X11_chainOf rfl) rfl rfl (by decide) ⟨Nat.le_refl _, Nat.le_refl _⟩ (Nat.le_of_ble_eq_true rfl) ?_
            obtain ⟨⟨x14, μ16⟩, q15, h⟩ := g_bind h
            refine m_cV mt_X9_passNight ml_X11_165 mv_X9_passNight dX11_goAll_105 (k_X9_passNight q15) rfl rfl rfl rfl (by decide) ⟨Nat.le_refl _, Nat.le_refl _⟩ (Nat.le_of_ble_eq_true rfl) ?_
            refine g_iadd dX11_goAll_108 ?_
            obtain ⟨x17, ex17, h⟩ := g_let h
            refine g_top ex17 ?_
            refine g_istore_5 rfl (Nat.le_of_ble_eq_true rfl) dX11_goAll_109 ?_
            refine g_iinc_6 (v := 1) rfl (by decide) (Nat.le_of_ble_eq_true rfl) dX11_goAll_111 ?_
            refine g_goto 41 (by decide) dX11_goAll_114 ?_
            exact g_less _ (g_subS (g_subS (g_subS (g_subS (g_subN (g_subS (g_subS (g_subN g_sub0)))))))) (ih _ _ _ _ _ _ _ h hr hc)
      · have h := g_ifp c9 h
        refine g_bipush (v := (-12)) dX11_goAll_59 (by decide) ?_
        obtain rfl := Option.some.inj h
        exact g_iret rfl (Nat.le_refl _) rfl dX11_goAll_61 (hr _ rfl)
set_option maxRecDepth 100000 in
set_option maxHeartbeats 4000000 in
theorem k_X11_goAll {D : va_G} {cA : Nat → ClassId} {b b2 k : Nat} {dyn : Nat → Nat} {t s : Nat} {N : Nat} {a1 : Int32} {a2 : Int32} {a3 : Int32} {μ : g_M} {z : Int32 × g_M} (h : f_X11_goAll N a1 a2 a3 μ = some z) : g_K (g_XX D cA b b2 dyn) yX11_goAll Y_X11_goAll 7 0 0 k [.ref 0, .int a1, .int a2, .int a3] (μ, (g_rfX t s)) (fun r1 σ1 => r1 = some (.int z.1) ∧ σ1 = (z.2, (g_rfX t s))) := by
  unfold f_X11_goAll at h
  refine g_met 4 (by decide) rfl rfl (Nat.le_of_ble_eq_true rfl) ?_
  refine g_iload_n dX11_goAll_0 rfl ?_
  refine m_cS mt_X11_isSheet ml_X11_283 ms_X11_isSheet dX11_goAll_1 (k_X11_isSheet rfl) rfl rfl (by decide) ⟨Nat.le_refl _, Nat.le_refl _⟩ (Nat.le_of_ble_eq_true rfl) ?_
  refine g_if_eq 17 (by decide) dX11_goAll_4 (fun c1 => ?_) (fun c1 => ?_)
  · have h := g_ifp c1 h
    refine g_icm1 dX11_goAll_17 ?_
    obtain rfl := Option.some.inj h
    exact g_iret rfl (Nat.le_refl _) rfl dX11_goAll_18 ⟨rfl, rfl⟩
  · have h := g_ifn c1 h
    refine g_iload_n dX11_goAll_7 rfl ?_
    refine g_ic0 dX11_goAll_8 ?_
    refine g_bipush (v := 20) dX11_goAll_9 (by decide) ?_
    refine m_cS mt_X11_isBetween ml_X11_120 ms_X11_isBetween dX11_goAll_11 (k_X11_isBetween rfl) rfl rfl (by decide) ⟨Nat.le_refl _, Nat.le_refl _⟩ (Nat.le_of_ble_eq_true rfl) ?_
    refine g_if_ne 19 (by decide) dX11_goAll_14 (fun c2 => ?_) (fun c2 => ?_)
    · have h := g_ifn c2 h
      refine g_aload_n dX11_goAll_19 rfl ?_
      refine g_iload_n dX11_goAll_20 rfl ?_
      refine g_ic0 dX11_goAll_21 ?_
      obtain ⟨x3, q4, h⟩ := g_bind h
      refine m_cV mt_X11_refusalAs ml_X11_292 mv_X11_refusalAs dX11_goAll_22 (k_X11_refusalAs q4) rfl rfl rfl rfl (by decide) ⟨Nat.le_refl _, Nat.le_refl _⟩ (Nat.le_of_ble_eq_true rfl) ?_
      refine g_istore_4 rfl (Nat.le_of_ble_eq_true rfl) dX11_goAll_25 ?_
      refine g_iload dX11_goAll_27 rfl ?_
      refine g_if_ge 35 (by decide) dX11_goAll_29 (fun c5 => ?_) (fun c5 => ?_)
      · have h := g_ifp c5 h
        refine g_ic0 dX11_goAll_35 ?_
        refine g_istore_5 rfl (Nat.le_of_ble_eq_true rfl) dX11_goAll_36 ?_
        refine g_ic0 dX11_goAll_38 ?_
        refine g_istore_6 rfl (Nat.le_of_ble_eq_true rfl) dX11_goAll_39 ?_
        obtain ⟨w9, q8, h⟩ := g_bind h
        refine g_less _ (g_subS (g_subS (g_subS (g_subS (g_subN (g_subS (g_subS (g_subN g_sub0)))))))) (k_X11_goAll_L41 _ _ _ _ _ _ _ _ q8 ?_ ?_)
        · intro q0 e0
          subst e0
          cases h
          exact ⟨rfl, rfl⟩
        · intro x6 μ7 e0
          subst e0
          try dsimp only at h
          refine g_iload dX11_goAll_117 rfl ?_
          obtain rfl := Option.some.inj h
          exact g_iret rfl (Nat.le_refl _) rfl dX11_goAll_119 ⟨rfl, rfl⟩
      · have h := g_ifn c5 h
        refine g_iload dX11_goAll_32 rfl ?_
        obtain rfl := Option.some.inj h
        exact g_iret rfl (Nat.le_refl _) rfl dX11_goAll_34 ⟨rfl, rfl⟩
    · have h := g_ifp c2 h
      refine g_icm1 dX11_goAll_17 ?_
      obtain rfl := Option.some.inj h
      exact g_iret rfl (Nat.le_refl _) rfl dX11_goAll_18 ⟨rfl, rfl⟩
set_option maxRecDepth 100000 in
set_option maxHeartbeats 4000000 in
theorem k_X11_wouldBe_L50 {D : va_G} {cA : Nat → ClassId} {b b2 k : Nat} {dyn : Nat → Nat} {t s : Nat} {Q : Option Value → g_S → Prop} {N : Nat} : ∀ (n : Nat) (x_1 : Int32) (x_2 : Int32) (x_3 : Int32) (x_5 : Int32) (x_6 : Int32) (x_7 : Int32) (μ : g_M) (z : (Int32 × g_M) ⊕ (Int32 × g_M)), f_X11_wouldBe_L50 N n x_1 x_2 x_3 x_5 x_6 x_7 μ = some z → (∀ q : Int32 × g_M, z = .inl q → Q (some (.int q.1)) (q.2, (g_rfX t s))) → (∀ (z_6 : Int32) (z_μ : g_M), z = .inr (z_6, z_μ) → g_V (g_XX D cA b b2 dyn) Y_X11_wouldBe 6 0 0 Q k 0 0 160 [none, none, none, none, none, none, some (.int z_6), none, none, none] [] (z_μ, (g_rfX t s))) → g_V (g_XX D cA b b2 dyn) Y_X11_wouldBe 6 0 0 Q k 0 0 50 [some (.ref 0), some (.int x_1), some (.int x_2), some (.int x_3), none, some (.int x_5), some (.int x_6), some (.int x_7), none, none] [] (μ, (g_rfX t s)) := by
  intro n
  induction n with
  | zero =>
    intro x_1 x_2 x_3 x_5 x_6 x_7 μ z h
    rw [f_X11_wouldBe_L50] at h
    cases h
  | succ n ih =>
    intro x_1 x_2 x_3 x_5 x_6 x_7 μ z h hr hc
    rw [f_X11_wouldBe_L50] at h
    refine g_iload dX11_wouldBe_50 rfl ?_
    refine g_iload_n dX11_wouldBe_52 rfl ?_
    refine g_icmp_ge 160 (by decide) dX11_wouldBe_53 (fun c6 => ?_) (fun c6 => ?_)
    · have h := g_ifp c6 h
      obtain rfl := Option.some.inj h
      exact g_less _ (g_subN (g_subN (g_subN (g_subN (g_subN (g_subN (g_subS (g_subN (g_subN (g_subN g_sub0)))))))))) (hc _ _ rfl)
    · have h := g_ifn c6 h
      refine g_aload_n dX11_wouldBe_56 rfl ?_
      refine g_iload_n dX11_wouldBe_57 rfl ?_
      refine g_iload_n dX11_wouldBe_58 rfl ?_
      refine g_iload dX11_wouldBe_59 rfl ?_
      refine g_iadd dX11_wouldBe_61 ?_
      obtain ⟨x7, q8, h⟩ := g_bind h
      refine m_cV mt_X11_isItem ml_X11_286 mv_X11_isItem dX11_wouldBe_62 (k_X11_isItem q8) rfl rfl rfl rfl (by decide) ⟨Nat.le_refl _, Nat.le_refl _⟩ (Nat.le_of_ble_eq_true rfl) ?_
      refine g_if_ne 71 (by decide) dX11_wouldBe_65 (fun c9 => ?_) (fun c9 => ?_)
      · have h := g_ifn c9 h
        refine g_aload_n dX11_wouldBe_71 rfl ?_
        refine m_getR fl_X11_45 rfl rfl rfl dX11_wouldBe_72 ?_
        refine g_iload_n dX11_wouldBe_75 rfl ?_
        obtain ⟨j10, qj10, h⟩ := g_bind h
        refine m_aald2 rfl qj10 (r := 56 + j10) (fun h9 => g_rfS h9) dX11_wouldBe_76 ?_
        refine g_iload_n dX11_wouldBe_77 rfl ?_
        refine g_iload dX11_wouldBe_78 rfl ?_
        refine g_iadd dX11_wouldBe_80 ?_
        obtain ⟨x11, qx11, h⟩ := g_bind h
        refine m_iald (g_shS qj10) qx11 dX11_wouldBe_81 ?_
        refine g_istore_8 rfl (Nat.le_of_ble_eq_true rfl) dX11_wouldBe_82 ?_
        refine g_aload_n dX11_wouldBe_84 rfl ?_
        refine m_getR fl_X11_10 rfl rfl rfl dX11_wouldBe_85 ?_
        refine m_getI fl_X11_100 rfl rfl dX11_wouldBe_88 ?_
        refine g_iload dX11_wouldBe_91 rfl ?_
        refine g_iadd dX11_wouldBe_93 ?_
        obtain ⟨x12, ex12, h⟩ := g_let h
        refine g_top ex12 ?_
        refine g_istore_9 rfl (Nat.le_of_ble_eq_true rfl) dX11_wouldBe_94 ?_
        refine g_aload_n dX11_wouldBe_96 rfl ?_
        refine g_iload dX11_wouldBe_97 rfl ?_
        refine m_cV mt_X11_isAct ml_X11_280 mv_X11_isAct dX11_wouldBe_99 (k_X11_isAct rfl) rfl rfl rfl rfl (by decide) ⟨Nat.le_refl _, Nat.le_refl _⟩ (Nat.le_of_ble_eq_true rfl) ?_
        refine g_if_eq 117 (by decide) dX11_wouldBe_102 (fun c13 => ?_) (fun c13 => ?_)
        · have h := g_ifp c13 h
          refine g_bipush (v := (-4)) dX11_wouldBe_117 (by decide) ?_
          obtain rfl := Option.some.inj h
          exact g_iret rfl (Nat.le_refl _) rfl dX11_wouldBe_119 (hr _ rfl)
        · have h := g_ifn c13 h
          refine g_iload dX11_wouldBe_105 rfl ?_
          refine g_aload_n dX11_wouldBe_107 rfl ?_
          refine m_getR fl_X11_10 rfl rfl rfl dX11_wouldBe_108 ?_
          refine m_getI fl_X11_130 rfl rfl dX11_wouldBe_111 ?_
          refine g_icmp_lt 120 (by decide) dX11_wouldBe_114 (fun c14 => ?_) (fun c14 => ?_)
          · have h := g_ifp c14 h
            refine g_aload_n dX11_wouldBe_120 rfl ?_
            refine m_getR fl_X11_10 rfl rfl rfl dX11_wouldBe_121 ?_
            refine g_iload dX11_wouldBe_124 rfl ?_
            refine g_iload dX11_wouldBe_126 rfl ?_
            refine g_iload dX11_wouldBe_128 rfl ?_
            refine m_cS mt_X11_chainOf ml_X11_216 ms_X11_chainOf dX11_wouldBe_130 (k_X11_chainOf rfl) rfl rfl (by decide) ⟨Nat.le_refl _, Nat.le_refl _⟩ (Nat.le_of_ble_eq_true rfl) ?_
            obtain ⟨⟨x15, μ17⟩, q16, h⟩ := g_bind h
            refine m_cV mt_X9_after ml_X11_219 mv_X9_after dX11_wouldBe_133 (k_X9_after q16) rfl rfl rfl rfl (by decide) ⟨Nat.le_refl _, Nat.le_refl _⟩ (Nat.le_of_ble_eq_true rfl) ?_
            refine g_istore_5 rfl (Nat.le_of_ble_eq_true rfl) dX11_wouldBe_136 ?_
            refine g_iload dX11_wouldBe_138 rfl ?_
            refine g_aload_n dX11_wouldBe_140 rfl ?_
            refine m_getR fl_X11_10 rfl rfl rfl dX11_wouldBe_141 ?_
            refine g_iload dX11_wouldBe_144 rfl ?_
            refine g_iload dX11_wouldBe_146 rfl ?_
            obtain ⟨x18, q19, h⟩ := g_bind h
            refine m_cV mt_X9_worthOf ml_X11_271 mv_X9_worthOf dX11_wouldBe_148 (k_X9_worthOf q19) rfl rfl rfl rfl (by decide) ⟨Nat.le_refl _, Nat.le_refl _⟩ (Nat.le_of_ble_eq_true rfl) ?_
            refine g_iadd dX11_wouldBe_151 ?_
            obtain ⟨x20, ex20, h⟩ := g_let h
            refine g_top ex20 ?_
            refine g_istore_6 rfl (Nat.le_of_ble_eq_true rfl) dX11_wouldBe_152 ?_
            refine g_iinc_7 (v := 1) rfl (by decide) (Nat.le_of_ble_eq_true rfl) dX11_wouldBe_154 ?_
            refine g_goto 50 (by decide) dX11_wouldBe_157 ?_
            exact g_less _ (g_subS (g_subS (g_subS (g_subS (g_subN (g_subS (g_subS (g_subS (g_subN (g_subN g_sub0)))))))))) (ih _ _ _ _ _ _ _ _ h hr hc)
          · have h := g_ifn c14 h
            refine g_bipush (v := (-4)) dX11_wouldBe_117 (by decide) ?_
            obtain rfl := Option.some.inj h
            exact g_iret rfl (Nat.le_refl _) rfl dX11_wouldBe_119 (hr _ rfl)
      · have h := g_ifp c9 h
        refine g_bipush (v := (-12)) dX11_wouldBe_68 (by decide) ?_
        obtain rfl := Option.some.inj h
        exact g_iret rfl (Nat.le_refl _) rfl dX11_wouldBe_70 (hr _ rfl)
set_option maxRecDepth 100000 in
set_option maxHeartbeats 4000000 in
theorem k_X11_wouldBe {D : va_G} {cA : Nat → ClassId} {b b2 k : Nat} {dyn : Nat → Nat} {t s : Nat} {N : Nat} {a1 : Int32} {a2 : Int32} {a3 : Int32} {μ : g_M} {z : Int32 × g_M} (h : f_X11_wouldBe N a1 a2 a3 μ = some z) : g_K (g_XX D cA b b2 dyn) yX11_wouldBe Y_X11_wouldBe 6 0 0 k [.ref 0, .int a1, .int a2, .int a3] (μ, (g_rfX t s)) (fun r1 σ1 => r1 = some (.int z.1) ∧ σ1 = (z.2, (g_rfX t s))) := by
  unfold f_X11_wouldBe at h
  refine g_met 6 (by decide) rfl rfl (Nat.le_of_ble_eq_true rfl) ?_
  refine g_iload_n dX11_wouldBe_0 rfl ?_
  refine m_cS mt_X11_isSheet ml_X11_283 ms_X11_isSheet dX11_wouldBe_1 (k_X11_isSheet rfl) rfl rfl (by decide) ⟨Nat.le_refl _, Nat.le_refl _⟩ (Nat.le_of_ble_eq_true rfl) ?_
  refine g_if_eq 17 (by decide) dX11_wouldBe_4 (fun c1 => ?_) (fun c1 => ?_)
  · have h := g_ifp c1 h
    refine g_icm1 dX11_wouldBe_17 ?_
    obtain rfl := Option.some.inj h
    exact g_iret rfl (Nat.le_refl _) rfl dX11_wouldBe_18 ⟨rfl, rfl⟩
  · have h := g_ifn c1 h
    refine g_iload_n dX11_wouldBe_7 rfl ?_
    refine g_ic0 dX11_wouldBe_8 ?_
    refine g_bipush (v := 20) dX11_wouldBe_9 (by decide) ?_
    refine m_cS mt_X11_isBetween ml_X11_120 ms_X11_isBetween dX11_wouldBe_11 (k_X11_isBetween rfl) rfl rfl (by decide) ⟨Nat.le_refl _, Nat.le_refl _⟩ (Nat.le_of_ble_eq_true rfl) ?_
    refine g_if_ne 19 (by decide) dX11_wouldBe_14 (fun c2 => ?_) (fun c2 => ?_)
    · have h := g_ifn c2 h
      refine g_aload_n dX11_wouldBe_19 rfl ?_
      refine g_iload_n dX11_wouldBe_20 rfl ?_
      refine g_ic0 dX11_wouldBe_21 ?_
      obtain ⟨x3, q4, h⟩ := g_bind h
      refine m_cV mt_X11_refusalAs ml_X11_292 mv_X11_refusalAs dX11_wouldBe_22 (k_X11_refusalAs q4) rfl rfl rfl rfl (by decide) ⟨Nat.le_refl _, Nat.le_refl _⟩ (Nat.le_of_ble_eq_true rfl) ?_
      refine g_istore_4 rfl (Nat.le_of_ble_eq_true rfl) dX11_wouldBe_25 ?_
      refine g_iload dX11_wouldBe_27 rfl ?_
      refine g_if_ge 35 (by decide) dX11_wouldBe_29 (fun c5 => ?_) (fun c5 => ?_)
      · have h := g_ifp c5 h
        refine g_aload_n dX11_wouldBe_35 rfl ?_
        refine m_getR fl_X11_10 rfl rfl rfl dX11_wouldBe_36 ?_
        refine m_getI fl_X11_93 rfl rfl dX11_wouldBe_39 ?_
        refine g_istore_5 rfl (Nat.le_of_ble_eq_true rfl) dX11_wouldBe_42 ?_
        refine g_ic0 dX11_wouldBe_44 ?_
        refine g_istore_6 rfl (Nat.le_of_ble_eq_true rfl) dX11_wouldBe_45 ?_
        refine g_ic0 dX11_wouldBe_47 ?_
        refine g_istore_7 rfl (Nat.le_of_ble_eq_true rfl) dX11_wouldBe_48 ?_
        obtain ⟨w9, q8, h⟩ := g_bind h
        refine g_less _ (g_subS (g_subS (g_subS (g_subS (g_subN (g_subS (g_subS (g_subS (g_subN (g_subN g_sub0)))))))))) (k_X11_wouldBe_L50 _ _ _ _ _ _ _ _ _ q8 ?_ ?_)
        · intro q0 e0
          subst e0
          cases h
          exact ⟨rfl, rfl⟩
        · intro x6 μ7 e0
          subst e0
          try dsimp only at h
          refine g_iload dX11_wouldBe_160 rfl ?_
          obtain rfl := Option.some.inj h
          exact g_iret rfl (Nat.le_refl _) rfl dX11_wouldBe_162 ⟨rfl, rfl⟩
      · have h := g_ifn c5 h
        refine g_iload dX11_wouldBe_32 rfl ?_
        obtain rfl := Option.some.inj h
        exact g_iret rfl (Nat.le_refl _) rfl dX11_wouldBe_34 ⟨rfl, rfl⟩
    · have h := g_ifp c2 h
      refine g_icm1 dX11_wouldBe_17 ?_
      obtain rfl := Option.some.inj h
      exact g_iret rfl (Nat.le_refl _) rfl dX11_wouldBe_18 ⟨rfl, rfl⟩
set_option maxRecDepth 100000 in
set_option maxHeartbeats 4000000 in
theorem k_X11_isShelf {D : va_G} {cA : Nat → ClassId} {b b2 k : Nat} {dyn : Nat → Nat} {t s : Nat} {a1 : Int32} {μ : g_M} {z : Int32} (h : f_X11_isShelf a1 = z) : g_K (g_XX D cA b b2 dyn) yX11_isShelf Y_X11_isShelf 2 0 0 k [.int a1] (μ, (g_rfX t s)) (fun r1 σ1 => r1 = some (.int z) ∧ σ1 = (μ, (g_rfX t s))) := by
  unfold f_X11_isShelf at h
  refine g_met 0 (by decide) rfl rfl (Nat.le_of_ble_eq_true rfl) ?_
  refine g_iload_n dX11_isShelf_0 rfl ?_
  refine g_ic0 dX11_isShelf_1 ?_
  refine g_ic3 dX11_isShelf_2 ?_
  refine m_cS mt_X11_isBetween ml_X11_120 ms_X11_isBetween dX11_isShelf_3 (k_X11_isBetween rfl) rfl rfl (by decide) ⟨Nat.le_refl _, Nat.le_refl _⟩ (Nat.le_of_ble_eq_true rfl) ?_
  subst h
  exact g_zret rfl (Nat.le_refl _) rfl (zb_X11_isBetween a1 0 3) dX11_isShelf_6 ⟨rfl, rfl⟩
set_option maxRecDepth 100000 in
set_option maxHeartbeats 4000000 in
theorem zb_X11_isShelf (a1 : Int32) : narrow .boolean (.int (f_X11_isShelf a1)) = .int (f_X11_isShelf a1) := by
  unfold f_X11_isShelf
  repeat' split
  all_goals first | rfl | apply zb_X11_isBetween
set_option maxRecDepth 100000 in
set_option maxHeartbeats 4000000 in
theorem k_X11_putOn {D : va_G} {cA : Nat → ClassId} {b b2 k : Nat} {dyn : Nat → Nat} {t s : Nat} {a1 : Int32} {a2 : Int32} {a3 : Int32} {a4 : Int32} {μ : g_M} {z : Int32 × g_M} (h : f_X11_putOn a1 a2 a3 a4 μ = some z) : g_K (g_XX D cA b b2 dyn) yX11_putOn Y_X11_putOn 1 0 0 k [.ref 0, .int a1, .int a2, .int a3, .int a4] (μ, (g_rfX t s)) (fun r1 σ1 => r1 = some (.int z.1) ∧ σ1 = (z.2, (g_rfX t s))) := by
  unfold f_X11_putOn at h
  refine g_met 0 (by decide) rfl rfl (Nat.le_of_ble_eq_true rfl) ?_
  refine g_aload_n dX11_putOn_0 rfl ?_
  refine m_getR fl_X11_48 rfl rfl rfl dX11_putOn_1 ?_
  refine g_iload_n dX11_putOn_4 rfl ?_
  refine g_iload_n dX11_putOn_5 rfl ?_
  obtain ⟨μ1, qμ1, h⟩ := g_bind h
  refine m_iast rfl qμ1 dX11_putOn_6 ?_
  refine g_aload_n dX11_putOn_7 rfl ?_
  refine m_getR fl_X11_51 rfl rfl rfl dX11_putOn_8 ?_
  refine g_iload_n dX11_putOn_11 rfl ?_
  refine g_iload_n dX11_putOn_12 rfl ?_
  obtain ⟨μ2, qμ2, h⟩ := g_bind h
  refine m_iast rfl qμ2 dX11_putOn_13 ?_
  refine g_aload_n dX11_putOn_14 rfl ?_
  refine m_getR fl_X11_54 rfl rfl rfl dX11_putOn_15 ?_
  refine g_iload_n dX11_putOn_18 rfl ?_
  refine g_iload dX11_putOn_19 rfl ?_
  obtain ⟨μ3, qμ3, h⟩ := g_bind h
  refine m_iast rfl qμ3 dX11_putOn_21 ?_
  refine g_ic1 dX11_putOn_22 ?_
  obtain rfl := Option.some.inj h
  exact g_iret rfl (Nat.le_refl _) rfl dX11_putOn_23 ⟨rfl, rfl⟩
set_option maxRecDepth 100000 in
set_option maxHeartbeats 4000000 in
theorem k_X11_shelf {D : va_G} {cA : Nat → ClassId} {b b2 k : Nat} {dyn : Nat → Nat} {t s : Nat} {a1 : Int32} {a2 : Int32} {a3 : Int32} {μ : g_M} {z : Int32 × g_M} (h : f_X11_shelf a1 a2 a3 μ = some z) : g_K (g_XX D cA b b2 dyn) yX11_shelf Y_X11_shelf 3 0 0 k [.ref 0, .int a1, .int a2, .int a3] (μ, (g_rfX t s)) (fun r1 σ1 => r1 = some (.int z.1) ∧ σ1 = (z.2, (g_rfX t s))) := by
  unfold f_X11_shelf at h
  refine g_met 1 (by decide) rfl rfl (Nat.le_of_ble_eq_true rfl) ?_
  refine g_iload_n dX11_shelf_0 rfl ?_
  refine m_cS mt_X11_isShelf ml_X11_295 ms_X11_isShelf dX11_shelf_1 (k_X11_isShelf rfl) rfl rfl (by decide) ⟨Nat.le_refl _, Nat.le_refl _⟩ (Nat.le_of_ble_eq_true rfl) ?_
  refine g_if_ne 9 (by decide) dX11_shelf_4 (fun c1 => ?_) (fun c1 => ?_)
  · have h := g_ifn c1 h
    refine g_iload_n dX11_shelf_9 rfl ?_
    refine g_if_ne 30 (by decide) dX11_shelf_10 (fun c2 => ?_) (fun c2 => ?_)
    · have h := g_ifn c2 h
      refine g_iload_n dX11_shelf_30 rfl ?_
      refine g_ic1 dX11_shelf_31 ?_
      refine g_icmp_ne 87 (by decide) dX11_shelf_32 (fun c3 => ?_) (fun c3 => ?_)
      · have h := g_ifn c3 h
        refine g_iload_n dX11_shelf_87 rfl ?_
        refine g_ic2 dX11_shelf_88 ?_
        refine g_icmp_ne 103 (by decide) dX11_shelf_89 (fun c4 => ?_) (fun c4 => ?_)
        · have h := g_ifn c4 h
          refine g_icm1 dX11_shelf_103 ?_
          obtain rfl := Option.some.inj h
          exact g_iret rfl (Nat.le_refl _) rfl dX11_shelf_104 ⟨rfl, rfl⟩
        · have h := g_ifp c4 h
          refine g_aload_n dX11_shelf_92 rfl ?_
          refine g_iload_n dX11_shelf_93 rfl ?_
          refine g_ic2 dX11_shelf_94 ?_
          refine g_ic0 dX11_shelf_95 ?_
          refine g_ic0 dX11_shelf_96 ?_
          obtain ⟨⟨x5, μ7⟩, q6, h⟩ := g_bind h
          refine m_cV mt_X11_putOn ml_X11_298 mv_X11_putOn dX11_shelf_97 (k_X11_putOn q6) rfl rfl rfl rfl (by decide) ⟨Nat.le_refl _, Nat.le_refl _⟩ (Nat.le_of_ble_eq_true rfl) ?_
          refine g_goto 104 (by decide) dX11_shelf_100 ?_
          obtain rfl := Option.some.inj h
          exact g_iret rfl (Nat.le_refl _) rfl dX11_shelf_104 ⟨rfl, rfl⟩
      · have h := g_ifp c3 h
        refine g_iload_n dX11_shelf_35 rfl ?_
        refine m_cS mt_X11_isSheet ml_X11_283 ms_X11_isSheet dX11_shelf_36 (k_X11_isSheet rfl) rfl rfl (by decide) ⟨Nat.le_refl _, Nat.le_refl _⟩ (Nat.le_of_ble_eq_true rfl) ?_
        refine g_if_eq 87 (by decide) dX11_shelf_39 (fun c8 => ?_) (fun c8 => ?_)
        · have h := g_ifp c8 h
          refine g_iload_n dX11_shelf_87 rfl ?_
          refine g_ic2 dX11_shelf_88 ?_
          refine g_icmp_ne 103 (by decide) dX11_shelf_89 (fun c9 => ?_) (fun c9 => ?_)
          · have h := g_ifn c9 h
            refine g_icm1 dX11_shelf_103 ?_
            obtain rfl := Option.some.inj h
            exact g_iret rfl (Nat.le_refl _) rfl dX11_shelf_104 ⟨rfl, rfl⟩
          · have h := g_ifp c9 h
            refine g_aload_n dX11_shelf_92 rfl ?_
            refine g_iload_n dX11_shelf_93 rfl ?_
            refine g_ic2 dX11_shelf_94 ?_
            refine g_ic0 dX11_shelf_95 ?_
            refine g_ic0 dX11_shelf_96 ?_
            obtain ⟨⟨x10, μ12⟩, q11, h⟩ := g_bind h
            refine m_cV mt_X11_putOn ml_X11_298 mv_X11_putOn dX11_shelf_97 (k_X11_putOn q11) rfl rfl rfl rfl (by decide) ⟨Nat.le_refl _, Nat.le_refl _⟩ (Nat.le_of_ble_eq_true rfl) ?_
            refine g_goto 104 (by decide) dX11_shelf_100 ?_
            obtain rfl := Option.some.inj h
            exact g_iret rfl (Nat.le_refl _) rfl dX11_shelf_104 ⟨rfl, rfl⟩
        · have h := g_ifn c8 h
          refine g_aload_n dX11_shelf_42 rfl ?_
          refine m_getR fl_X11_37 rfl rfl rfl dX11_shelf_43 ?_
          refine g_iload_n dX11_shelf_46 rfl ?_
          obtain ⟨x13, qx13, h⟩ := g_bind h
          refine m_iald rfl qx13 dX11_shelf_47 ?_
          refine g_icm1 dX11_shelf_48 ?_
          refine g_icmp_ne 56 (by decide) dX11_shelf_49 (fun c14 => ?_) (fun c14 => ?_)
          · have h := g_ifn c14 h
            refine g_ic0 dX11_shelf_56 ?_
            refine g_istore_4 rfl (Nat.le_of_ble_eq_true rfl) dX11_shelf_57 ?_
            refine g_aload_n dX11_shelf_59 rfl ?_
            refine g_iload_n dX11_shelf_60 rfl ?_
            refine g_iload dX11_shelf_61 rfl ?_
            refine g_if_eq 70 (by decide) dX11_shelf_63 (fun c9 => ?_) (fun cd => absurd (by decide) cd)
            refine g_ic1 dX11_shelf_70 ?_
            refine g_aload_n dX11_shelf_71 rfl ?_
            refine m_getR fl_X11_37 rfl rfl rfl dX11_shelf_72 ?_
            refine g_iload_n dX11_shelf_75 rfl ?_
            obtain ⟨x15, qx15, h⟩ := g_bind h
            refine m_iald rfl qx15 dX11_shelf_76 ?_
            refine g_aload_n dX11_shelf_77 rfl ?_
            refine m_getR fl_X11_40 rfl rfl rfl dX11_shelf_78 ?_
            refine g_iload_n dX11_shelf_81 rfl ?_
            obtain ⟨x16, qx16, h⟩ := g_bind h
            refine m_iald rfl qx16 dX11_shelf_82 ?_
            obtain ⟨⟨x17, μ19⟩, q18, h⟩ := g_bind h
            refine m_cV mt_X11_putOn ml_X11_298 mv_X11_putOn dX11_shelf_83 (k_X11_putOn q18) rfl rfl rfl rfl (by decide) ⟨Nat.le_refl _, Nat.le_refl _⟩ (Nat.le_of_ble_eq_true rfl) ?_
            obtain rfl := Option.some.inj h
            exact g_iret rfl (Nat.le_refl _) rfl dX11_shelf_86 ⟨rfl, rfl⟩
          · have h := g_ifp c14 h
            refine g_ic1 dX11_shelf_52 ?_
            refine g_goto 57 (by decide) dX11_shelf_53 ?_
            refine g_istore_4 rfl (Nat.le_of_ble_eq_true rfl) dX11_shelf_57 ?_
            refine g_aload_n dX11_shelf_59 rfl ?_
            refine g_iload_n dX11_shelf_60 rfl ?_
            refine g_iload dX11_shelf_61 rfl ?_
            refine g_if_eq 70 (by decide) dX11_shelf_63 (fun cd => absurd cd (by decide)) (fun c9 => ?_)
            refine g_ic2 dX11_shelf_66 ?_
            refine g_goto 71 (by decide) dX11_shelf_67 ?_
            refine g_aload_n dX11_shelf_71 rfl ?_
            refine m_getR fl_X11_37 rfl rfl rfl dX11_shelf_72 ?_
            refine g_iload_n dX11_shelf_75 rfl ?_
            obtain ⟨x20, qx20, h⟩ := g_bind h
            refine m_iald rfl qx20 dX11_shelf_76 ?_
            refine g_aload_n dX11_shelf_77 rfl ?_
            refine m_getR fl_X11_40 rfl rfl rfl dX11_shelf_78 ?_
            refine g_iload_n dX11_shelf_81 rfl ?_
            obtain ⟨x21, qx21, h⟩ := g_bind h
            refine m_iald rfl qx21 dX11_shelf_82 ?_
            obtain ⟨⟨x22, μ24⟩, q23, h⟩ := g_bind h
            refine m_cV mt_X11_putOn ml_X11_298 mv_X11_putOn dX11_shelf_83 (k_X11_putOn q23) rfl rfl rfl rfl (by decide) ⟨Nat.le_refl _, Nat.le_refl _⟩ (Nat.le_of_ble_eq_true rfl) ?_
            obtain rfl := Option.some.inj h
            exact g_iret rfl (Nat.le_refl _) rfl dX11_shelf_86 ⟨rfl, rfl⟩
    · have h := g_ifp c2 h
      refine g_aload_n dX11_shelf_13 rfl ?_
      refine g_iload_n dX11_shelf_14 rfl ?_
      refine m_cV mt_X11_isOven ml_X11_78 mv_X11_isOven dX11_shelf_15 (k_X11_isOven rfl) rfl rfl rfl rfl (by decide) ⟨Nat.le_refl _, Nat.le_refl _⟩ (Nat.le_of_ble_eq_true rfl) ?_
      refine g_if_eq 30 (by decide) dX11_shelf_18 (fun c25 => ?_) (fun c25 => ?_)
      · have h := g_ifp c25 h
        refine g_iload_n dX11_shelf_30 rfl ?_
        refine g_ic1 dX11_shelf_31 ?_
        refine g_icmp_ne 87 (by decide) dX11_shelf_32 (fun c26 => ?_) (fun c26 => ?_)
        · have h := g_ifn c26 h
          refine g_iload_n dX11_shelf_87 rfl ?_
          refine g_ic2 dX11_shelf_88 ?_
          refine g_icmp_ne 103 (by decide) dX11_shelf_89 (fun c27 => ?_) (fun c27 => ?_)
          · have h := g_ifn c27 h
            refine g_icm1 dX11_shelf_103 ?_
            obtain rfl := Option.some.inj h
            exact g_iret rfl (Nat.le_refl _) rfl dX11_shelf_104 ⟨rfl, rfl⟩
          · have h := g_ifp c27 h
            refine g_aload_n dX11_shelf_92 rfl ?_
            refine g_iload_n dX11_shelf_93 rfl ?_
            refine g_ic2 dX11_shelf_94 ?_
            refine g_ic0 dX11_shelf_95 ?_
            refine g_ic0 dX11_shelf_96 ?_
            obtain ⟨⟨x28, μ30⟩, q29, h⟩ := g_bind h
            refine m_cV mt_X11_putOn ml_X11_298 mv_X11_putOn dX11_shelf_97 (k_X11_putOn q29) rfl rfl rfl rfl (by decide) ⟨Nat.le_refl _, Nat.le_refl _⟩ (Nat.le_of_ble_eq_true rfl) ?_
            refine g_goto 104 (by decide) dX11_shelf_100 ?_
            obtain rfl := Option.some.inj h
            exact g_iret rfl (Nat.le_refl _) rfl dX11_shelf_104 ⟨rfl, rfl⟩
        · have h := g_ifp c26 h
          refine g_iload_n dX11_shelf_35 rfl ?_
          refine m_cS mt_X11_isSheet ml_X11_283 ms_X11_isSheet dX11_shelf_36 (k_X11_isSheet rfl) rfl rfl (by decide) ⟨Nat.le_refl _, Nat.le_refl _⟩ (Nat.le_of_ble_eq_true rfl) ?_
          refine g_if_eq 87 (by decide) dX11_shelf_39 (fun c31 => ?_) (fun c31 => ?_)
          · have h := g_ifp c31 h
            refine g_iload_n dX11_shelf_87 rfl ?_
            refine g_ic2 dX11_shelf_88 ?_
            refine g_icmp_ne 103 (by decide) dX11_shelf_89 (fun c32 => ?_) (fun c32 => ?_)
            · have h := g_ifn c32 h
              refine g_icm1 dX11_shelf_103 ?_
              obtain rfl := Option.some.inj h
              exact g_iret rfl (Nat.le_refl _) rfl dX11_shelf_104 ⟨rfl, rfl⟩
            · have h := g_ifp c32 h
              refine g_aload_n dX11_shelf_92 rfl ?_
              refine g_iload_n dX11_shelf_93 rfl ?_
              refine g_ic2 dX11_shelf_94 ?_
              refine g_ic0 dX11_shelf_95 ?_
              refine g_ic0 dX11_shelf_96 ?_
              obtain ⟨⟨x33, μ35⟩, q34, h⟩ := g_bind h
              refine m_cV mt_X11_putOn ml_X11_298 mv_X11_putOn dX11_shelf_97 (k_X11_putOn q34) rfl rfl rfl rfl (by decide) ⟨Nat.le_refl _, Nat.le_refl _⟩ (Nat.le_of_ble_eq_true rfl) ?_
              refine g_goto 104 (by decide) dX11_shelf_100 ?_
              obtain rfl := Option.some.inj h
              exact g_iret rfl (Nat.le_refl _) rfl dX11_shelf_104 ⟨rfl, rfl⟩
          · have h := g_ifn c31 h
            refine g_aload_n dX11_shelf_42 rfl ?_
            refine m_getR fl_X11_37 rfl rfl rfl dX11_shelf_43 ?_
            refine g_iload_n dX11_shelf_46 rfl ?_
            obtain ⟨x36, qx36, h⟩ := g_bind h
            refine m_iald rfl qx36 dX11_shelf_47 ?_
            refine g_icm1 dX11_shelf_48 ?_
            refine g_icmp_ne 56 (by decide) dX11_shelf_49 (fun c37 => ?_) (fun c37 => ?_)
            · have h := g_ifn c37 h
              refine g_ic0 dX11_shelf_56 ?_
              refine g_istore_4 rfl (Nat.le_of_ble_eq_true rfl) dX11_shelf_57 ?_
              refine g_aload_n dX11_shelf_59 rfl ?_
              refine g_iload_n dX11_shelf_60 rfl ?_
              refine g_iload dX11_shelf_61 rfl ?_
              refine g_if_eq 70 (by decide) dX11_shelf_63 (fun c9 => ?_) (fun cd => absurd (by decide) cd)
              refine g_ic1 dX11_shelf_70 ?_
              refine g_aload_n dX11_shelf_71 rfl ?_
              refine m_getR fl_X11_37 rfl rfl rfl dX11_shelf_72 ?_
              refine g_iload_n dX11_shelf_75 rfl ?_
              obtain ⟨x38, qx38, h⟩ := g_bind h
              refine m_iald rfl qx38 dX11_shelf_76 ?_
              refine g_aload_n dX11_shelf_77 rfl ?_
              refine m_getR fl_X11_40 rfl rfl rfl dX11_shelf_78 ?_
              refine g_iload_n dX11_shelf_81 rfl ?_
              obtain ⟨x39, qx39, h⟩ := g_bind h
              refine m_iald rfl qx39 dX11_shelf_82 ?_
              obtain ⟨⟨x40, μ42⟩, q41, h⟩ := g_bind h
              refine m_cV mt_X11_putOn ml_X11_298 mv_X11_putOn dX11_shelf_83 (k_X11_putOn q41) rfl rfl rfl rfl (by decide) ⟨Nat.le_refl _, Nat.le_refl _⟩ (Nat.le_of_ble_eq_true rfl) ?_
              obtain rfl := Option.some.inj h
              exact g_iret rfl (Nat.le_refl _) rfl dX11_shelf_86 ⟨rfl, rfl⟩
            · have h := g_ifp c37 h
              refine g_ic1 dX11_shelf_52 ?_
              refine g_goto 57 (by decide) dX11_shelf_53 ?_
              refine g_istore_4 rfl (Nat.le_of_ble_eq_true rfl) dX11_shelf_57 ?_
              refine g_aload_n dX11_shelf_59 rfl ?_
              refine g_iload_n dX11_shelf_60 rfl ?_
              refine g_iload dX11_shelf_61 rfl ?_
              refine g_if_eq 70 (by decide) dX11_shelf_63 (fun cd => absurd cd (by decide)) (fun c9 => ?_)
              refine g_ic2 dX11_shelf_66 ?_
              refine g_goto 71 (by decide) dX11_shelf_67 ?_
              refine g_aload_n dX11_shelf_71 rfl ?_
              refine m_getR fl_X11_37 rfl rfl rfl dX11_shelf_72 ?_
              refine g_iload_n dX11_shelf_75 rfl ?_
              obtain ⟨x43, qx43, h⟩ := g_bind h
              refine m_iald rfl qx43 dX11_shelf_76 ?_
              refine g_aload_n dX11_shelf_77 rfl ?_
              refine m_getR fl_X11_40 rfl rfl rfl dX11_shelf_78 ?_
              refine g_iload_n dX11_shelf_81 rfl ?_
              obtain ⟨x44, qx44, h⟩ := g_bind h
              refine m_iald rfl qx44 dX11_shelf_82 ?_
              obtain ⟨⟨x45, μ47⟩, q46, h⟩ := g_bind h
              refine m_cV mt_X11_putOn ml_X11_298 mv_X11_putOn dX11_shelf_83 (k_X11_putOn q46) rfl rfl rfl rfl (by decide) ⟨Nat.le_refl _, Nat.le_refl _⟩ (Nat.le_of_ble_eq_true rfl) ?_
              obtain rfl := Option.some.inj h
              exact g_iret rfl (Nat.le_refl _) rfl dX11_shelf_86 ⟨rfl, rfl⟩
      · have h := g_ifn c25 h
        refine g_aload_n dX11_shelf_21 rfl ?_
        refine g_iload_n dX11_shelf_22 rfl ?_
        refine g_ic0 dX11_shelf_23 ?_
        refine g_iload_n dX11_shelf_24 rfl ?_
        refine g_ic0 dX11_shelf_25 ?_
        obtain ⟨⟨x48, μ50⟩, q49, h⟩ := g_bind h
        refine m_cV mt_X11_putOn ml_X11_298 mv_X11_putOn dX11_shelf_26 (k_X11_putOn q49) rfl rfl rfl rfl (by decide) ⟨Nat.le_refl _, Nat.le_refl _⟩ (Nat.le_of_ble_eq_true rfl) ?_
        obtain rfl := Option.some.inj h
        exact g_iret rfl (Nat.le_refl _) rfl dX11_shelf_29 ⟨rfl, rfl⟩
  · have h := g_ifp c1 h
    refine g_icm1 dX11_shelf_7 ?_
    obtain rfl := Option.some.inj h
    exact g_iret rfl (Nat.le_refl _) rfl dX11_shelf_8 ⟨rfl, rfl⟩
set_option maxRecDepth 100000 in
set_option maxHeartbeats 4000000 in
theorem k_X11_heldOn {D : va_G} {cA : Nat → ClassId} {b b2 k : Nat} {dyn : Nat → Nat} {t s : Nat} {a1 : Int32} {μ : g_M} {z : Int32} (h : f_X11_heldOn a1 μ = some z) : g_K (g_XX D cA b b2 dyn) yX11_heldOn Y_X11_heldOn 3 0 0 k [.ref 0, .int a1] (μ, (g_rfX t s)) (fun r1 σ1 => r1 = some (.int z) ∧ σ1 = (μ, (g_rfX t s))) := by
  unfold f_X11_heldOn at h
  refine g_met 1 (by decide) rfl rfl (Nat.le_of_ble_eq_true rfl) ?_
  refine g_aload_n dX11_heldOn_0 rfl ?_
  refine m_getR fl_X11_48 rfl rfl rfl dX11_heldOn_1 ?_
  refine g_iload_n dX11_heldOn_4 rfl ?_
  obtain ⟨x1, qx1, h⟩ := g_bind h
  refine m_iald rfl qx1 dX11_heldOn_5 ?_
  refine g_if_ne 26 (by decide) dX11_heldOn_6 (fun c2 => ?_) (fun c2 => ?_)
  · have h := g_ifn c2 h
    refine g_ic0 dX11_heldOn_26 ?_
    refine g_istore_2 rfl (Nat.le_of_ble_eq_true rfl) dX11_heldOn_27 ?_
    refine g_iload_n dX11_heldOn_28 rfl ?_
    refine g_if_eq 36 (by decide) dX11_heldOn_29 (fun c9 => ?_) (fun cd => absurd (by decide) cd)
    refine g_aload_n dX11_heldOn_36 rfl ?_
    refine m_getR fl_X11_48 rfl rfl rfl dX11_heldOn_37 ?_
    refine g_iload_n dX11_heldOn_40 rfl ?_
    obtain ⟨x3, qx3, h⟩ := g_bind h
    refine m_iald rfl qx3 dX11_heldOn_41 ?_
    obtain rfl := Option.some.inj h
    exact g_iret rfl (Nat.le_refl _) rfl dX11_heldOn_42 ⟨rfl, rfl⟩
  · have h := g_ifp c2 h
    refine g_aload_n dX11_heldOn_9 rfl ?_
    refine g_aload_n dX11_heldOn_10 rfl ?_
    refine m_getR fl_X11_51 rfl rfl rfl dX11_heldOn_11 ?_
    refine g_iload_n dX11_heldOn_14 rfl ?_
    obtain ⟨x4, qx4, h⟩ := g_bind h
    refine m_iald rfl qx4 dX11_heldOn_15 ?_
    refine m_cV mt_X11_isOven ml_X11_78 mv_X11_isOven dX11_heldOn_16 (k_X11_isOven rfl) rfl rfl rfl rfl (by decide) ⟨Nat.le_refl _, Nat.le_refl _⟩ (Nat.le_of_ble_eq_true rfl) ?_
    refine g_if_ne 26 (by decide) dX11_heldOn_19 (fun c5 => ?_) (fun c5 => ?_)
    · have h := g_ifn c5 h
      refine g_ic0 dX11_heldOn_26 ?_
      refine g_istore_2 rfl (Nat.le_of_ble_eq_true rfl) dX11_heldOn_27 ?_
      refine g_iload_n dX11_heldOn_28 rfl ?_
      refine g_if_eq 36 (by decide) dX11_heldOn_29 (fun c9 => ?_) (fun cd => absurd (by decide) cd)
      refine g_aload_n dX11_heldOn_36 rfl ?_
      refine m_getR fl_X11_48 rfl rfl rfl dX11_heldOn_37 ?_
      refine g_iload_n dX11_heldOn_40 rfl ?_
      obtain ⟨x6, qx6, h⟩ := g_bind h
      refine m_iald rfl qx6 dX11_heldOn_41 ?_
      obtain rfl := Option.some.inj h
      exact g_iret rfl (Nat.le_refl _) rfl dX11_heldOn_42 ⟨rfl, rfl⟩
    · have h := g_ifp c5 h
      refine g_ic1 dX11_heldOn_22 ?_
      refine g_goto 27 (by decide) dX11_heldOn_23 ?_
      refine g_istore_2 rfl (Nat.le_of_ble_eq_true rfl) dX11_heldOn_27 ?_
      refine g_iload_n dX11_heldOn_28 rfl ?_
      refine g_if_eq 36 (by decide) dX11_heldOn_29 (fun cd => absurd cd (by decide)) (fun c9 => ?_)
      refine g_ic2 dX11_heldOn_32 ?_
      refine g_goto 42 (by decide) dX11_heldOn_33 ?_
      obtain rfl := Option.some.inj h
      exact g_iret rfl (Nat.le_refl _) rfl dX11_heldOn_42 ⟨rfl, rfl⟩
set_option maxRecDepth 100000 in
set_option maxHeartbeats 4000000 in
theorem k_X11_taken {D : va_G} {cA : Nat → ClassId} {b b2 k : Nat} {dyn : Nat → Nat} {t s : Nat} {a1 : Int32} {a2 : Int32} {μ : g_M} {z : Int32} (h : f_X11_taken a1 a2 μ = some z) : g_K (g_XX D cA b b2 dyn) yX11_taken Y_X11_taken 4 0 0 k [.ref 0, .int a1, .int a2] (μ, (g_rfX t s)) (fun r1 σ1 => r1 = some (.int z) ∧ σ1 = (μ, (g_rfX t s))) := by
  unfold f_X11_taken at h
  refine g_met 3 (by decide) rfl rfl (Nat.le_of_ble_eq_true rfl) ?_
  refine g_iload_n dX11_taken_0 rfl ?_
  refine g_bipush (v := 10) dX11_taken_1 (by decide) ?_
  refine g_bipush (v := 14) dX11_taken_3 (by decide) ?_
  refine m_cS mt_X11_isBetween ml_X11_120 ms_X11_isBetween dX11_taken_5 (k_X11_isBetween rfl) rfl rfl (by decide) ⟨Nat.le_refl _, Nat.le_refl _⟩ (Nat.le_of_ble_eq_true rfl) ?_
  obtain ⟨x1, ex1, h⟩ := g_let h
  refine g_top ex1 ?_
  refine g_istore_3 rfl (Nat.le_of_ble_eq_true rfl) dX11_taken_8 ?_
  refine g_iload_n dX11_taken_9 rfl ?_
  refine m_cS mt_X11_isShelf ml_X11_295 ms_X11_isShelf dX11_taken_10 (k_X11_isShelf rfl) rfl rfl (by decide) ⟨Nat.le_refl _, Nat.le_refl _⟩ (Nat.le_of_ble_eq_true rfl) ?_
  refine g_if_eq 29 (by decide) dX11_taken_13 (fun c2 => ?_) (fun c2 => ?_)
  · have h := g_ifp c2 h
    refine g_icm1 dX11_taken_29 ?_
    obtain rfl := Option.some.inj h
    exact g_iret rfl (Nat.le_refl _) rfl dX11_taken_30 ⟨rfl, rfl⟩
  · have h := g_ifn c2 h
    refine g_iload_n dX11_taken_16 rfl ?_
    refine g_if_ne 31 (by decide) dX11_taken_17 (fun c3 => ?_) (fun c3 => ?_)
    · have h := g_ifn c3 h
      refine g_aload_n dX11_taken_31 rfl ?_
      refine g_iload_n dX11_taken_32 rfl ?_
      obtain ⟨x4, q5, h⟩ := g_bind h
      refine m_cV mt_X11_heldOn ml_X11_301 mv_X11_heldOn dX11_taken_33 (k_X11_heldOn q5) rfl rfl rfl rfl (by decide) ⟨Nat.le_refl _, Nat.le_refl _⟩ (Nat.le_of_ble_eq_true rfl) ?_
      refine g_istore_4 rfl (Nat.le_of_ble_eq_true rfl) dX11_taken_36 ?_
      refine g_iload dX11_taken_38 rfl ?_
      refine g_ic2 dX11_taken_40 ?_
      refine g_icmp_ne 47 (by decide) dX11_taken_41 (fun c6 => ?_) (fun c6 => ?_)
      · have h := g_ifn c6 h
        refine g_aload_n dX11_taken_47 rfl ?_
        refine m_getR fl_X11_51 rfl rfl rfl dX11_taken_48 ?_
        refine g_iload_n dX11_taken_51 rfl ?_
        obtain ⟨x7, qx7, h⟩ := g_bind h
        refine m_iald rfl qx7 dX11_taken_52 ?_
        refine g_istore_5 rfl (Nat.le_of_ble_eq_true rfl) dX11_taken_53 ?_
        refine g_iload dX11_taken_55 rfl ?_
        refine g_ic1 dX11_taken_57 ?_
        refine g_icmp_ne 86 (by decide) dX11_taken_58 (fun c8 => ?_) (fun c8 => ?_)
        · have h := g_ifn c8 h
          refine g_iload_n dX11_taken_86 rfl ?_
          refine g_if_ne 112 (by decide) dX11_taken_87 (fun c9 => ?_) (fun cd => absurd cd c3)
          refine g_bipush (v := (-13)) dX11_taken_112 (by decide) ?_
          obtain rfl := Option.some.inj h
          exact g_iret rfl (Nat.le_refl _) rfl dX11_taken_114 ⟨rfl, rfl⟩
        · have h := g_ifp c8 h
          refine g_iload_n dX11_taken_61 rfl ?_
          refine g_if_eq 83 (by decide) dX11_taken_62 (fun cd => absurd cd c3) (fun c9 => ?_)
          refine g_iload dX11_taken_65 rfl ?_
          refine g_iload_n dX11_taken_67 rfl ?_
          refine g_bipush (v := 10) dX11_taken_68 (by decide) ?_
          refine g_isub dX11_taken_70 ?_
          refine g_icmp_ne 83 (by decide) dX11_taken_71 (fun c9 => ?_) (fun c9 => ?_)
          · have h := g_ifn c9 h
            refine g_bipush (v := (-13)) dX11_taken_83 (by decide) ?_
            obtain rfl := Option.some.inj h
            exact g_iret rfl (Nat.le_refl _) rfl dX11_taken_85 ⟨rfl, rfl⟩
          · have h := g_ifp c9 h
            refine g_aload_n dX11_taken_74 rfl ?_
            refine m_getR fl_X11_54 rfl rfl rfl dX11_taken_75 ?_
            refine g_iload_n dX11_taken_78 rfl ?_
            obtain ⟨x10, qx10, h⟩ := g_bind h
            refine m_iald rfl qx10 dX11_taken_79 ?_
            refine g_goto 85 (by decide) dX11_taken_80 ?_
            obtain rfl := Option.some.inj h
            exact g_iret rfl (Nat.le_refl _) rfl dX11_taken_85 ⟨rfl, rfl⟩
      · have h := g_ifp c6 h
        refine g_bipush (v := (-11)) dX11_taken_44 (by decide) ?_
        obtain rfl := Option.some.inj h
        exact g_iret rfl (Nat.le_refl _) rfl dX11_taken_46 ⟨rfl, rfl⟩
    · have h := g_ifp c3 h
      refine g_iload_n dX11_taken_20 rfl ?_
      refine g_ic0 dX11_taken_21 ?_
      refine g_ic5 dX11_taken_22 ?_
      refine m_cS mt_X11_isBetween ml_X11_120 ms_X11_isBetween dX11_taken_23 (k_X11_isBetween rfl) rfl rfl (by decide) ⟨Nat.le_refl _, Nat.le_refl _⟩ (Nat.le_of_ble_eq_true rfl) ?_
      refine g_if_ne 31 (by decide) dX11_taken_26 (fun c11 => ?_) (fun c11 => ?_)
      · have h := g_ifn c11 h
        refine g_aload_n dX11_taken_31 rfl ?_
        refine g_iload_n dX11_taken_32 rfl ?_
        obtain ⟨x12, q13, h⟩ := g_bind h
        refine m_cV mt_X11_heldOn ml_X11_301 mv_X11_heldOn dX11_taken_33 (k_X11_heldOn q13) rfl rfl rfl rfl (by decide) ⟨Nat.le_refl _, Nat.le_refl _⟩ (Nat.le_of_ble_eq_true rfl) ?_
        refine g_istore_4 rfl (Nat.le_of_ble_eq_true rfl) dX11_taken_36 ?_
        refine g_iload dX11_taken_38 rfl ?_
        refine g_ic2 dX11_taken_40 ?_
        refine g_icmp_ne 47 (by decide) dX11_taken_41 (fun c14 => ?_) (fun c14 => ?_)
        · have h := g_ifn c14 h
          refine g_aload_n dX11_taken_47 rfl ?_
          refine m_getR fl_X11_51 rfl rfl rfl dX11_taken_48 ?_
          refine g_iload_n dX11_taken_51 rfl ?_
          obtain ⟨x15, qx15, h⟩ := g_bind h
          refine m_iald rfl qx15 dX11_taken_52 ?_
          refine g_istore_5 rfl (Nat.le_of_ble_eq_true rfl) dX11_taken_53 ?_
          refine g_iload dX11_taken_55 rfl ?_
          refine g_ic1 dX11_taken_57 ?_
          refine g_icmp_ne 86 (by decide) dX11_taken_58 (fun c16 => ?_) (fun c16 => ?_)
          · have h := g_ifn c16 h
            refine g_iload_n dX11_taken_86 rfl ?_
            refine g_if_ne 112 (by decide) dX11_taken_87 (fun cd => absurd c3 cd) (fun c9 => ?_)
            refine g_aload_n dX11_taken_90 rfl ?_
            refine m_getR fl_X11_10 rfl rfl rfl dX11_taken_91 ?_
            refine m_getR fl_X11_81 rfl rfl rfl dX11_taken_94 ?_
            refine g_iload dX11_taken_97 rfl ?_
            obtain ⟨x17, qx17, h⟩ := g_bind h
            refine m_iald rfl qx17 dX11_taken_99 ?_
            refine g_iload_n dX11_taken_100 rfl ?_
            obtain ⟨x18, q19, h⟩ := g_bind h
            refine m_cS mt_X11_isUnder ml_X11_304 ms_X11_isUnder dX11_taken_101 (k_X11_isUnder q19) rfl rfl (by decide) ⟨Nat.le_refl _, Nat.le_refl _⟩ (Nat.le_of_ble_eq_true rfl) ?_
            refine g_if_eq 112 (by decide) dX11_taken_104 (fun c20 => ?_) (fun c20 => ?_)
            · have h := g_ifp c20 h
              refine g_bipush (v := (-13)) dX11_taken_112 (by decide) ?_
              obtain rfl := Option.some.inj h
              exact g_iret rfl (Nat.le_refl _) rfl dX11_taken_114 ⟨rfl, rfl⟩
            · have h := g_ifn c20 h
              refine g_iload dX11_taken_107 rfl ?_
              refine g_goto 114 (by decide) dX11_taken_109 ?_
              obtain rfl := Option.some.inj h
              exact g_iret rfl (Nat.le_refl _) rfl dX11_taken_114 ⟨rfl, rfl⟩
          · have h := g_ifp c16 h
            refine g_iload_n dX11_taken_61 rfl ?_
            refine g_if_eq 83 (by decide) dX11_taken_62 (fun c9 => ?_) (fun cd => absurd c3 cd)
            refine g_bipush (v := (-13)) dX11_taken_83 (by decide) ?_
            obtain rfl := Option.some.inj h
            exact g_iret rfl (Nat.le_refl _) rfl dX11_taken_85 ⟨rfl, rfl⟩
        · have h := g_ifp c14 h
          refine g_bipush (v := (-11)) dX11_taken_44 (by decide) ?_
          obtain rfl := Option.some.inj h
          exact g_iret rfl (Nat.le_refl _) rfl dX11_taken_46 ⟨rfl, rfl⟩
      · have h := g_ifp c11 h
        refine g_icm1 dX11_taken_29 ?_
        obtain rfl := Option.some.inj h
        exact g_iret rfl (Nat.le_refl _) rfl dX11_taken_30 ⟨rfl, rfl⟩
set_option maxRecDepth 100000 in
set_option maxHeartbeats 4000000 in
theorem k_X0_clear {D : va_G} {cA : Nat → ClassId} {b b2 k : Nat} {dyn : Nat → Nat} {t s : Nat} {μ : g_M} {z : g_M} (h : f_X0_clear μ = some z) : g_K (g_XX D cA b b2 dyn) yX0_clear Y_X0_clear 1 0 0 k [.ref 50] (μ, (g_rfX t s)) (fun r1 σ1 => r1 = none ∧ σ1 = (z, (g_rfX t s))) := by
  unfold f_X0_clear at h
  refine g_met 0 (by decide) rfl rfl (Nat.le_of_ble_eq_true rfl) ?_
  refine g_aload_n dX0_clear_0 rfl ?_
  refine g_ic0 dX0_clear_1 ?_
  obtain ⟨μ1, eμ1, h⟩ := g_let h
  refine m_putI fl_X0_15 fw_0_1 rfl rfl rfl rfl dX0_clear_2 eμ1 ?_
  refine g_aload_n dX0_clear_5 rfl ?_
  refine g_ic0 dX0_clear_6 ?_
  obtain ⟨μ2, eμ2, h⟩ := g_let h
  refine m_putI fl_X0_19 fw_0_4 rfl rfl rfl rfl dX0_clear_7 eμ2 ?_
  obtain rfl := Option.some.inj h
  exact g_vret rfl (Nat.le_refl _) rfl dX0_clear_10 ⟨rfl, rfl⟩
set_option maxRecDepth 100000 in
set_option maxHeartbeats 4000000 in
theorem k_X0_began {D : va_G} {cA : Nat → ClassId} {b b2 k : Nat} {dyn : Nat → Nat} {t s : Nat} {a1 : Int32} {μ : g_M} {z : g_M} (h : f_X0_began a1 μ = some z) : g_K (g_XX D cA b b2 dyn) yX0_began Y_X0_began 1 0 0 k [.ref 50, .int a1] (μ, (g_rfX t s)) (fun r1 σ1 => r1 = none ∧ σ1 = (z, (g_rfX t s))) := by
  unfold f_X0_began at h
  refine g_met 0 (by decide) rfl rfl (Nat.le_of_ble_eq_true rfl) ?_
  refine g_aload_n dX0_began_0 rfl ?_
  refine m_getI fl_X0_15 rfl rfl dX0_began_1 ?_
  refine g_aload_n dX0_began_4 rfl ?_
  refine m_getR fl_X0_9 rfl rfl rfl dX0_began_5 ?_
  refine g_alen rfl dX0_began_8 ?_
  refine g_icmp_ge 32 (by decide) dX0_began_9 (fun c1 => ?_) (fun c1 => ?_)
  · have h := g_ifp c1 h
    obtain rfl := Option.some.inj h
    exact g_vret rfl (Nat.le_refl _) rfl dX0_began_32 ⟨rfl, rfl⟩
  · have h := g_ifn c1 h
    refine g_aload_n dX0_began_12 rfl ?_
    refine m_getR fl_X0_9 rfl rfl rfl dX0_began_13 ?_
    refine g_aload_n dX0_began_16 rfl ?_
    refine m_getI fl_X0_15 rfl rfl dX0_began_17 ?_
    refine g_iload_n dX0_began_20 rfl ?_
    obtain ⟨μ2, qμ2, h⟩ := g_bind h
    refine m_iast rfl qμ2 dX0_began_21 ?_
    refine g_aload_n dX0_began_22 rfl ?_
    refine g_dup dX0_began_23 rfl ?_
    refine m_getI fl_X0_15 rfl rfl dX0_began_24 ?_
    refine g_ic1 dX0_began_27 ?_
    refine g_iadd dX0_began_28 ?_
    obtain ⟨μ3, eμ3, h⟩ := g_let h
    refine m_putI fl_X0_15 fw_0_1 rfl rfl rfl rfl dX0_began_29 eμ3 ?_
    obtain rfl := Option.some.inj h
    exact g_vret rfl (Nat.le_refl _) rfl dX0_began_32 ⟨rfl, rfl⟩
set_option maxRecDepth 100000 in
set_option maxHeartbeats 4000000 in
theorem k_X3_parts_4_50 {D : va_G} {cA : Nat → ClassId} {b b2 k : Nat} {dyn : Nat → Nat} {t s : Nat} {a1 : Int32} {μ : g_M} {z : Int32 × g_M} (h : f_X3_parts_4_50 a1 μ = some z) : g_K (g_XX D cA b b2 dyn) yX3_parts Y_X3_parts 2 0 0 k [.ref 4, .ref 50, .int a1] (μ, (g_rfX t s)) (fun r1 σ1 => r1 = some (.int z.1) ∧ σ1 = (z.2, (g_rfX t s))) := by
  unfold f_X3_parts_4_50 at h
  refine g_met 1 (by decide) rfl rfl (Nat.le_of_ble_eq_true rfl) ?_
  refine g_aload_n dX3_parts_0 rfl ?_
  refine g_bipush (v := 12) dX3_parts_1 (by decide) ?_
  obtain ⟨μ3, q2, h⟩ := g_bind h
  refine m_cVv mt_X0_began ml_X3_7 mv_X0_began dX3_parts_3 (k_X0_began q2) rfl rfl rfl rfl (by decide) ⟨Nat.le_refl _, Nat.le_refl _⟩ (Nat.le_of_ble_eq_true rfl) ?_
  refine g_aload_n dX3_parts_6 rfl ?_
  refine m_getI fl_X3_13 rfl rfl dX3_parts_7 ?_
  refine g_aload_n dX3_parts_10 rfl ?_
  refine m_getI fl_X3_23 rfl rfl dX3_parts_11 ?_
  refine g_isub dX3_parts_14 ?_
  obtain ⟨x4, ex4, h⟩ := g_let h
  refine g_top ex4 ?_
  refine g_istore_3 rfl (Nat.le_of_ble_eq_true rfl) dX3_parts_15 ?_
  refine g_iload_n dX3_parts_16 rfl ?_
  refine g_if_ne 27 (by decide) dX3_parts_17 (fun c5 => ?_) (fun c5 => ?_)
  · have h := g_ifn c5 h
    refine g_iload_n dX3_parts_27 rfl ?_
    refine g_iload_n dX3_parts_28 rfl ?_
    obtain ⟨x6, qx6, h⟩ := g_bind h
    refine m_irem dX3_parts_29 qx6 ?_
    obtain rfl := Option.some.inj h
    exact g_iret rfl (Nat.le_refl _) rfl dX3_parts_30 ⟨rfl, rfl⟩
  · have h := g_ifp c5 h
    refine g_aload_n dX3_parts_20 rfl ?_
    refine g_ic1 dX3_parts_21 ?_
    obtain ⟨μ7, eμ7, h⟩ := g_let h
    refine m_putI fl_X3_26 fw_0_4 rfl rfl rfl rfl dX3_parts_22 eμ7 ?_
    refine g_ic0 dX3_parts_25 ?_
    obtain rfl := Option.some.inj h
    exact g_iret rfl (Nat.le_refl _) rfl dX3_parts_26 ⟨rfl, rfl⟩
set_option maxRecDepth 100000 in
set_option maxHeartbeats 4000000 in
theorem k_X3_parts_5_50 {D : va_G} {cA : Nat → ClassId} {b b2 k : Nat} {dyn : Nat → Nat} {t s : Nat} {a1 : Int32} {μ : g_M} {z : Int32 × g_M} (h : f_X3_parts_5_50 a1 μ = some z) : g_K (g_XX D cA b b2 dyn) yX3_parts Y_X3_parts 2 0 0 k [.ref 5, .ref 50, .int a1] (μ, (g_rfX t s)) (fun r1 σ1 => r1 = some (.int z.1) ∧ σ1 = (z.2, (g_rfX t s))) := by
  unfold f_X3_parts_5_50 at h
  refine g_met 1 (by decide) rfl rfl (Nat.le_of_ble_eq_true rfl) ?_
  refine g_aload_n dX3_parts_0 rfl ?_
  refine g_bipush (v := 12) dX3_parts_1 (by decide) ?_
  obtain ⟨μ3, q2, h⟩ := g_bind h
  refine m_cVv mt_X0_began ml_X3_7 mv_X0_began dX3_parts_3 (k_X0_began q2) rfl rfl rfl rfl (by decide) ⟨Nat.le_refl _, Nat.le_refl _⟩ (Nat.le_of_ble_eq_true rfl) ?_
  refine g_aload_n dX3_parts_6 rfl ?_
  refine m_getI fl_X3_13 rfl rfl dX3_parts_7 ?_
  refine g_aload_n dX3_parts_10 rfl ?_
  refine m_getI fl_X3_23 rfl rfl dX3_parts_11 ?_
  refine g_isub dX3_parts_14 ?_
  obtain ⟨x4, ex4, h⟩ := g_let h
  refine g_top ex4 ?_
  refine g_istore_3 rfl (Nat.le_of_ble_eq_true rfl) dX3_parts_15 ?_
  refine g_iload_n dX3_parts_16 rfl ?_
  refine g_if_ne 27 (by decide) dX3_parts_17 (fun c5 => ?_) (fun c5 => ?_)
  · have h := g_ifn c5 h
    refine g_iload_n dX3_parts_27 rfl ?_
    refine g_iload_n dX3_parts_28 rfl ?_
    obtain ⟨x6, qx6, h⟩ := g_bind h
    refine m_irem dX3_parts_29 qx6 ?_
    obtain rfl := Option.some.inj h
    exact g_iret rfl (Nat.le_refl _) rfl dX3_parts_30 ⟨rfl, rfl⟩
  · have h := g_ifp c5 h
    refine g_aload_n dX3_parts_20 rfl ?_
    refine g_ic1 dX3_parts_21 ?_
    obtain ⟨μ7, eμ7, h⟩ := g_let h
    refine m_putI fl_X3_26 fw_0_4 rfl rfl rfl rfl dX3_parts_22 eμ7 ?_
    refine g_ic0 dX3_parts_25 ?_
    obtain rfl := Option.some.inj h
    exact g_iret rfl (Nat.le_refl _) rfl dX3_parts_26 ⟨rfl, rfl⟩
set_option maxRecDepth 100000 in
set_option maxHeartbeats 4000000 in
theorem k_X3_parts_6_50 {D : va_G} {cA : Nat → ClassId} {b b2 k : Nat} {dyn : Nat → Nat} {t s : Nat} {a1 : Int32} {μ : g_M} {z : Int32 × g_M} (h : f_X3_parts_6_50 a1 μ = some z) : g_K (g_XX D cA b b2 dyn) yX3_parts Y_X3_parts 2 0 0 k [.ref 6, .ref 50, .int a1] (μ, (g_rfX t s)) (fun r1 σ1 => r1 = some (.int z.1) ∧ σ1 = (z.2, (g_rfX t s))) := by
  unfold f_X3_parts_6_50 at h
  refine g_met 1 (by decide) rfl rfl (Nat.le_of_ble_eq_true rfl) ?_
  refine g_aload_n dX3_parts_0 rfl ?_
  refine g_bipush (v := 12) dX3_parts_1 (by decide) ?_
  obtain ⟨μ3, q2, h⟩ := g_bind h
  refine m_cVv mt_X0_began ml_X3_7 mv_X0_began dX3_parts_3 (k_X0_began q2) rfl rfl rfl rfl (by decide) ⟨Nat.le_refl _, Nat.le_refl _⟩ (Nat.le_of_ble_eq_true rfl) ?_
  refine g_aload_n dX3_parts_6 rfl ?_
  refine m_getI fl_X3_13 rfl rfl dX3_parts_7 ?_
  refine g_aload_n dX3_parts_10 rfl ?_
  refine m_getI fl_X3_23 rfl rfl dX3_parts_11 ?_
  refine g_isub dX3_parts_14 ?_
  obtain ⟨x4, ex4, h⟩ := g_let h
  refine g_top ex4 ?_
  refine g_istore_3 rfl (Nat.le_of_ble_eq_true rfl) dX3_parts_15 ?_
  refine g_iload_n dX3_parts_16 rfl ?_
  refine g_if_ne 27 (by decide) dX3_parts_17 (fun c5 => ?_) (fun c5 => ?_)
  · have h := g_ifn c5 h
    refine g_iload_n dX3_parts_27 rfl ?_
    refine g_iload_n dX3_parts_28 rfl ?_
    obtain ⟨x6, qx6, h⟩ := g_bind h
    refine m_irem dX3_parts_29 qx6 ?_
    obtain rfl := Option.some.inj h
    exact g_iret rfl (Nat.le_refl _) rfl dX3_parts_30 ⟨rfl, rfl⟩
  · have h := g_ifp c5 h
    refine g_aload_n dX3_parts_20 rfl ?_
    refine g_ic1 dX3_parts_21 ?_
    obtain ⟨μ7, eμ7, h⟩ := g_let h
    refine m_putI fl_X3_26 fw_0_4 rfl rfl rfl rfl dX3_parts_22 eμ7 ?_
    refine g_ic0 dX3_parts_25 ?_
    obtain rfl := Option.some.inj h
    exact g_iret rfl (Nat.le_refl _) rfl dX3_parts_26 ⟨rfl, rfl⟩
set_option maxRecDepth 100000 in
set_option maxHeartbeats 4000000 in
theorem k_X3_parts_7_50 {D : va_G} {cA : Nat → ClassId} {b b2 k : Nat} {dyn : Nat → Nat} {t s : Nat} {a1 : Int32} {μ : g_M} {z : Int32 × g_M} (h : f_X3_parts_7_50 a1 μ = some z) : g_K (g_XX D cA b b2 dyn) yX3_parts Y_X3_parts 2 0 0 k [.ref 7, .ref 50, .int a1] (μ, (g_rfX t s)) (fun r1 σ1 => r1 = some (.int z.1) ∧ σ1 = (z.2, (g_rfX t s))) := by
  unfold f_X3_parts_7_50 at h
  refine g_met 1 (by decide) rfl rfl (Nat.le_of_ble_eq_true rfl) ?_
  refine g_aload_n dX3_parts_0 rfl ?_
  refine g_bipush (v := 12) dX3_parts_1 (by decide) ?_
  obtain ⟨μ3, q2, h⟩ := g_bind h
  refine m_cVv mt_X0_began ml_X3_7 mv_X0_began dX3_parts_3 (k_X0_began q2) rfl rfl rfl rfl (by decide) ⟨Nat.le_refl _, Nat.le_refl _⟩ (Nat.le_of_ble_eq_true rfl) ?_
  refine g_aload_n dX3_parts_6 rfl ?_
  refine m_getI fl_X3_13 rfl rfl dX3_parts_7 ?_
  refine g_aload_n dX3_parts_10 rfl ?_
  refine m_getI fl_X3_23 rfl rfl dX3_parts_11 ?_
  refine g_isub dX3_parts_14 ?_
  obtain ⟨x4, ex4, h⟩ := g_let h
  refine g_top ex4 ?_
  refine g_istore_3 rfl (Nat.le_of_ble_eq_true rfl) dX3_parts_15 ?_
  refine g_iload_n dX3_parts_16 rfl ?_
  refine g_if_ne 27 (by decide) dX3_parts_17 (fun c5 => ?_) (fun c5 => ?_)
  · have h := g_ifn c5 h
    refine g_iload_n dX3_parts_27 rfl ?_
    refine g_iload_n dX3_parts_28 rfl ?_
    obtain ⟨x6, qx6, h⟩ := g_bind h
    refine m_irem dX3_parts_29 qx6 ?_
    obtain rfl := Option.some.inj h
    exact g_iret rfl (Nat.le_refl _) rfl dX3_parts_30 ⟨rfl, rfl⟩
  · have h := g_ifp c5 h
    refine g_aload_n dX3_parts_20 rfl ?_
    refine g_ic1 dX3_parts_21 ?_
    obtain ⟨μ7, eμ7, h⟩ := g_let h
    refine m_putI fl_X3_26 fw_0_4 rfl rfl rfl rfl dX3_parts_22 eμ7 ?_
    refine g_ic0 dX3_parts_25 ?_
    obtain rfl := Option.some.inj h
    exact g_iret rfl (Nat.le_refl _) rfl dX3_parts_26 ⟨rfl, rfl⟩
set_option maxRecDepth 100000 in
set_option maxHeartbeats 4000000 in
theorem k_X4_parts_7_50 {D : va_G} {cA : Nat → ClassId} {b b2 k : Nat} {dyn : Nat → Nat} {t s : Nat} {a1 : Int32} {μ : g_M} {z : Int32 × g_M} (h : f_X4_parts_7_50 a1 μ = some z) : g_K (g_XX D cA b b2 dyn) yX4_parts Y_X4_parts 3 0 0 k [.ref 7, .ref 50, .int a1] (μ, (g_rfX t s)) (fun r1 σ1 => r1 = some (.int z.1) ∧ σ1 = (z.2, (g_rfX t s))) := by
  unfold f_X4_parts_7_50 at h
  refine g_met 0 (by decide) rfl rfl (Nat.le_of_ble_eq_true rfl) ?_
  refine g_aload_n dX4_parts_0 rfl ?_
  refine g_bipush (v := 40) dX4_parts_1 (by decide) ?_
  obtain ⟨μ3, q2, h⟩ := g_bind h
  refine m_cVv mt_X0_began ml_X4_7 mv_X0_began dX4_parts_3 (k_X0_began q2) rfl rfl rfl rfl (by decide) ⟨Nat.le_refl _, Nat.le_refl _⟩ (Nat.le_of_ble_eq_true rfl) ?_
  refine g_aload_n dX4_parts_6 rfl ?_
  refine g_aload_n dX4_parts_7 rfl ?_
  refine g_iload_n dX4_parts_8 rfl ?_
  obtain ⟨⟨x4, μ6⟩, q5, h⟩ := g_bind h
  refine m_cU mt_X3_parts mu_X4_13 dX4_parts_9 (k_X3_parts_7_50 q5) rfl rfl rfl rfl (by decide) ⟨Nat.le_refl _, Nat.le_refl _⟩ (Nat.le_of_ble_eq_true rfl) ?_
  refine g_aload_n dX4_parts_12 rfl ?_
  refine m_getI fl_X4_17 rfl rfl dX4_parts_13 ?_
  refine g_iadd dX4_parts_16 ?_
  obtain rfl := Option.some.inj h
  exact g_iret rfl (Nat.le_refl _) rfl dX4_parts_17 ⟨rfl, rfl⟩
set_option maxRecDepth 100000 in
set_option maxHeartbeats 4000000 in
theorem k_X3_parts_8_50 {D : va_G} {cA : Nat → ClassId} {b b2 k : Nat} {dyn : Nat → Nat} {t s : Nat} {a1 : Int32} {μ : g_M} {z : Int32 × g_M} (h : f_X3_parts_8_50 a1 μ = some z) : g_K (g_XX D cA b b2 dyn) yX3_parts Y_X3_parts 2 0 0 k [.ref 8, .ref 50, .int a1] (μ, (g_rfX t s)) (fun r1 σ1 => r1 = some (.int z.1) ∧ σ1 = (z.2, (g_rfX t s))) := by
  unfold f_X3_parts_8_50 at h
  refine g_met 1 (by decide) rfl rfl (Nat.le_of_ble_eq_true rfl) ?_
  refine g_aload_n dX3_parts_0 rfl ?_
  refine g_bipush (v := 12) dX3_parts_1 (by decide) ?_
  obtain ⟨μ3, q2, h⟩ := g_bind h
  refine m_cVv mt_X0_began ml_X3_7 mv_X0_began dX3_parts_3 (k_X0_began q2) rfl rfl rfl rfl (by decide) ⟨Nat.le_refl _, Nat.le_refl _⟩ (Nat.le_of_ble_eq_true rfl) ?_
  refine g_aload_n dX3_parts_6 rfl ?_
  refine m_getI fl_X3_13 rfl rfl dX3_parts_7 ?_
  refine g_aload_n dX3_parts_10 rfl ?_
  refine m_getI fl_X3_23 rfl rfl dX3_parts_11 ?_
  refine g_isub dX3_parts_14 ?_
  obtain ⟨x4, ex4, h⟩ := g_let h
  refine g_top ex4 ?_
  refine g_istore_3 rfl (Nat.le_of_ble_eq_true rfl) dX3_parts_15 ?_
  refine g_iload_n dX3_parts_16 rfl ?_
  refine g_if_ne 27 (by decide) dX3_parts_17 (fun c5 => ?_) (fun c5 => ?_)
  · have h := g_ifn c5 h
    refine g_iload_n dX3_parts_27 rfl ?_
    refine g_iload_n dX3_parts_28 rfl ?_
    obtain ⟨x6, qx6, h⟩ := g_bind h
    refine m_irem dX3_parts_29 qx6 ?_
    obtain rfl := Option.some.inj h
    exact g_iret rfl (Nat.le_refl _) rfl dX3_parts_30 ⟨rfl, rfl⟩
  · have h := g_ifp c5 h
    refine g_aload_n dX3_parts_20 rfl ?_
    refine g_ic1 dX3_parts_21 ?_
    obtain ⟨μ7, eμ7, h⟩ := g_let h
    refine m_putI fl_X3_26 fw_0_4 rfl rfl rfl rfl dX3_parts_22 eμ7 ?_
    refine g_ic0 dX3_parts_25 ?_
    obtain rfl := Option.some.inj h
    exact g_iret rfl (Nat.le_refl _) rfl dX3_parts_26 ⟨rfl, rfl⟩
set_option maxRecDepth 100000 in
set_option maxHeartbeats 4000000 in
theorem k_X4_parts_8_50 {D : va_G} {cA : Nat → ClassId} {b b2 k : Nat} {dyn : Nat → Nat} {t s : Nat} {a1 : Int32} {μ : g_M} {z : Int32 × g_M} (h : f_X4_parts_8_50 a1 μ = some z) : g_K (g_XX D cA b b2 dyn) yX4_parts Y_X4_parts 3 0 0 k [.ref 8, .ref 50, .int a1] (μ, (g_rfX t s)) (fun r1 σ1 => r1 = some (.int z.1) ∧ σ1 = (z.2, (g_rfX t s))) := by
  unfold f_X4_parts_8_50 at h
  refine g_met 0 (by decide) rfl rfl (Nat.le_of_ble_eq_true rfl) ?_
  refine g_aload_n dX4_parts_0 rfl ?_
  refine g_bipush (v := 40) dX4_parts_1 (by decide) ?_
  obtain ⟨μ3, q2, h⟩ := g_bind h
  refine m_cVv mt_X0_began ml_X4_7 mv_X0_began dX4_parts_3 (k_X0_began q2) rfl rfl rfl rfl (by decide) ⟨Nat.le_refl _, Nat.le_refl _⟩ (Nat.le_of_ble_eq_true rfl) ?_
  refine g_aload_n dX4_parts_6 rfl ?_
  refine g_aload_n dX4_parts_7 rfl ?_
  refine g_iload_n dX4_parts_8 rfl ?_
  obtain ⟨⟨x4, μ6⟩, q5, h⟩ := g_bind h
  refine m_cU mt_X3_parts mu_X4_13 dX4_parts_9 (k_X3_parts_8_50 q5) rfl rfl rfl rfl (by decide) ⟨Nat.le_refl _, Nat.le_refl _⟩ (Nat.le_of_ble_eq_true rfl) ?_
  refine g_aload_n dX4_parts_12 rfl ?_
  refine m_getI fl_X4_17 rfl rfl dX4_parts_13 ?_
  refine g_iadd dX4_parts_16 ?_
  obtain rfl := Option.some.inj h
  exact g_iret rfl (Nat.le_refl _) rfl dX4_parts_17 ⟨rfl, rfl⟩
set_option maxRecDepth 100000 in
set_option maxHeartbeats 4000000 in
theorem k_X3_glows_8_50 {D : va_G} {cA : Nat → ClassId} {b b2 k : Nat} {dyn : Nat → Nat} {t s : Nat} {a1 : Int32} {μ : g_M} {z : Int32 × g_M} (h : f_X3_glows_8_50 a1 μ = some z) : g_K (g_XX D cA b b2 dyn) yX3_glows Y_X3_glows 2 0 0 k [.ref 8, .ref 50, .int a1] (μ, (g_rfX t s)) (fun r1 σ1 => r1 = some (.int z.1) ∧ σ1 = (z.2, (g_rfX t s))) := by
  unfold f_X3_glows_8_50 at h
  refine g_met 0 (by decide) rfl rfl (Nat.le_of_ble_eq_true rfl) ?_
  refine g_aload_n dX3_glows_0 rfl ?_
  refine g_bipush (v := 10) dX3_glows_1 (by decide) ?_
  obtain ⟨μ3, q2, h⟩ := g_bind h
  refine m_cVv mt_X0_began ml_X3_7 mv_X0_began dX3_glows_3 (k_X0_began q2) rfl rfl rfl rfl (by decide) ⟨Nat.le_refl _, Nat.le_refl _⟩ (Nat.le_of_ble_eq_true rfl) ?_
  refine g_iload_n dX3_glows_6 rfl ?_
  refine g_aload_n dX3_glows_7 rfl ?_
  refine m_getI fl_X3_13 rfl rfl dX3_glows_8 ?_
  refine g_ic3 dX3_glows_11 ?_
  refine g_imul dX3_glows_12 ?_
  refine g_isub dX3_glows_13 ?_
  obtain rfl := Option.some.inj h
  exact g_iret rfl (Nat.le_refl _) rfl dX3_glows_14 ⟨rfl, rfl⟩
set_option maxRecDepth 100000 in
set_option maxHeartbeats 4000000 in
theorem k_X5_parts_8_50 {D : va_G} {cA : Nat → ClassId} {b b2 k : Nat} {dyn : Nat → Nat} {t s : Nat} {a1 : Int32} {μ : g_M} {z : Int32 × g_M} (h : f_X5_parts_8_50 a1 μ = some z) : g_K (g_XX D cA b b2 dyn) yX5_parts Y_X5_parts 4 0 0 k [.ref 8, .ref 50, .int a1] (μ, (g_rfX t s)) (fun r1 σ1 => r1 = some (.int z.1) ∧ σ1 = (z.2, (g_rfX t s))) := by
  unfold f_X5_parts_8_50 at h
  refine g_met 1 (by decide) rfl rfl (Nat.le_of_ble_eq_true rfl) ?_
  refine g_aload_n dX5_parts_0 rfl ?_
  refine g_bipush (v := 61) dX5_parts_1 (by decide) ?_
  obtain ⟨μ3, q2, h⟩ := g_bind h
  refine m_cVv mt_X0_began ml_X5_15 mv_X0_began dX5_parts_3 (k_X0_began q2) rfl rfl rfl rfl (by decide) ⟨Nat.le_refl _, Nat.le_refl _⟩ (Nat.le_of_ble_eq_true rfl) ?_
  refine g_aload_n dX5_parts_6 rfl ?_
  refine g_aload_n dX5_parts_7 rfl ?_
  refine g_iload_n dX5_parts_8 rfl ?_
  obtain ⟨⟨x4, μ6⟩, q5, h⟩ := g_bind h
  refine m_cU mt_X4_parts mu_X5_25 dX5_parts_9 (k_X4_parts_8_50 q5) rfl rfl rfl rfl (by decide) ⟨Nat.le_refl _, Nat.le_refl _⟩ (Nat.le_of_ble_eq_true rfl) ?_
  refine g_istore_3 rfl (Nat.le_of_ble_eq_true rfl) dX5_parts_12 ?_
  refine g_aload_n dX5_parts_13 rfl ?_
  refine m_getI fl_X5_28 rfl rfl dX5_parts_14 ?_
  refine g_if_eq 24 (by decide) dX5_parts_17 (fun c7 => ?_) (fun c7 => ?_)
  · have h := g_ifp c7 h
    refine g_iload_n dX5_parts_24 rfl ?_
    refine g_aload_n dX5_parts_25 rfl ?_
    refine g_aload_n dX5_parts_26 rfl ?_
    refine g_aload_n dX5_parts_27 rfl ?_
    refine m_getI fl_X5_32 rfl rfl dX5_parts_28 ?_
    obtain ⟨⟨x8, μ10⟩, q9, h⟩ := g_bind h
    refine m_cO mt_X3_glows mo_X5_36_X5 dX5_parts_31 (k_X3_glows_8_50 q9) rfl rfl rfl rfl (by decide) ⟨Nat.le_refl _, Nat.le_refl _⟩ (Nat.le_of_ble_eq_true rfl) ?_
    refine g_isub dX5_parts_34 ?_
    obtain rfl := Option.some.inj h
    exact g_iret rfl (Nat.le_refl _) rfl dX5_parts_35 ⟨rfl, rfl⟩
  · have h := g_ifn c7 h
    refine g_ic0 dX5_parts_20 ?_
    refine g_goto 35 (by decide) dX5_parts_21 ?_
    obtain rfl := Option.some.inj h
    exact g_iret rfl (Nat.le_refl _) rfl dX5_parts_35 ⟨rfl, rfl⟩
set_option maxRecDepth 100000 in
set_option maxHeartbeats 4000000 in
theorem k_X3_glows_4_50 {D : va_G} {cA : Nat → ClassId} {b b2 k : Nat} {dyn : Nat → Nat} {t s : Nat} {a1 : Int32} {μ : g_M} {z : Int32 × g_M} (h : f_X3_glows_4_50 a1 μ = some z) : g_K (g_XX D cA b b2 dyn) yX3_glows Y_X3_glows 2 0 0 k [.ref 4, .ref 50, .int a1] (μ, (g_rfX t s)) (fun r1 σ1 => r1 = some (.int z.1) ∧ σ1 = (z.2, (g_rfX t s))) := by
  unfold f_X3_glows_4_50 at h
  refine g_met 0 (by decide) rfl rfl (Nat.le_of_ble_eq_true rfl) ?_
  refine g_aload_n dX3_glows_0 rfl ?_
  refine g_bipush (v := 10) dX3_glows_1 (by decide) ?_
  obtain ⟨μ3, q2, h⟩ := g_bind h
  refine m_cVv mt_X0_began ml_X3_7 mv_X0_began dX3_glows_3 (k_X0_began q2) rfl rfl rfl rfl (by decide) ⟨Nat.le_refl _, Nat.le_refl _⟩ (Nat.le_of_ble_eq_true rfl) ?_
  refine g_iload_n dX3_glows_6 rfl ?_
  refine g_aload_n dX3_glows_7 rfl ?_
  refine m_getI fl_X3_13 rfl rfl dX3_glows_8 ?_
  refine g_ic3 dX3_glows_11 ?_
  refine g_imul dX3_glows_12 ?_
  refine g_isub dX3_glows_13 ?_
  obtain rfl := Option.some.inj h
  exact g_iret rfl (Nat.le_refl _) rfl dX3_glows_14 ⟨rfl, rfl⟩
set_option maxRecDepth 100000 in
set_option maxHeartbeats 4000000 in
theorem k_X10_glows_4_50 {D : va_G} {cA : Nat → ClassId} {b b2 k : Nat} {dyn : Nat → Nat} {t s : Nat} {a1 : Int32} {μ : g_M} {z : Int32 × g_M} (h : f_X10_glows_4_50 a1 μ = some z) : g_K (g_XX D cA b b2 dyn) yX10_glows Y_X10_glows 3 0 0 k [.ref 4, .ref 50, .int a1] (μ, (g_rfX t s)) (fun r1 σ1 => r1 = some (.int z.1) ∧ σ1 = (z.2, (g_rfX t s))) := by
  unfold f_X10_glows_4_50 at h
  refine g_met 0 (by decide) rfl rfl (Nat.le_of_ble_eq_true rfl) ?_
  refine g_aload_n dX10_glows_0 rfl ?_
  refine g_bipush (v := 20) dX10_glows_1 (by decide) ?_
  obtain ⟨μ3, q2, h⟩ := g_bind h
  refine m_cVv mt_X0_began ml_X10_15 mv_X0_began dX10_glows_3 (k_X0_began q2) rfl rfl rfl rfl (by decide) ⟨Nat.le_refl _, Nat.le_refl _⟩ (Nat.le_of_ble_eq_true rfl) ?_
  refine g_aload_n dX10_glows_6 rfl ?_
  refine g_aload_n dX10_glows_7 rfl ?_
  refine g_iload_n dX10_glows_8 rfl ?_
  obtain ⟨⟨x4, μ6⟩, q5, h⟩ := g_bind h
  refine m_cU mt_X3_glows mu_X10_21 dX10_glows_9 (k_X3_glows_4_50 q5) rfl rfl rfl rfl (by decide) ⟨Nat.le_refl _, Nat.le_refl _⟩ (Nat.le_of_ble_eq_true rfl) ?_
  refine g_ic2 dX10_glows_12 ?_
  refine g_imul dX10_glows_13 ?_
  obtain rfl := Option.some.inj h
  exact g_iret rfl (Nat.le_refl _) rfl dX10_glows_14 ⟨rfl, rfl⟩
set_option maxRecDepth 100000 in
set_option maxHeartbeats 4000000 in
theorem k_X3_longs_4_50 {D : va_G} {cA : Nat → ClassId} {b b2 k : Nat} {dyn : Nat → Nat} {t s : Nat} {a1 : Int32} {μ : g_M} {z : Int32 × g_M} (h : f_X3_longs_4_50 a1 μ = some z) : g_K (g_XX D cA b b2 dyn) yX3_longs Y_X3_longs 4 0 0 k [.ref 4, .ref 50, .int a1] (μ, (g_rfX t s)) (fun r1 σ1 => r1 = some (.int z.1) ∧ σ1 = (z.2, (g_rfX t s))) := by
  unfold f_X3_longs_4_50 at h
  refine g_met 0 (by decide) rfl rfl (Nat.le_of_ble_eq_true rfl) ?_
  refine g_aload_n dX3_longs_0 rfl ?_
  refine g_bipush (v := 11) dX3_longs_1 (by decide) ?_
  obtain ⟨μ3, q2, h⟩ := g_bind h
  refine m_cVv mt_X0_began ml_X3_7 mv_X0_began dX3_longs_3 (k_X0_began q2) rfl rfl rfl rfl (by decide) ⟨Nat.le_refl _, Nat.le_refl _⟩ (Nat.le_of_ble_eq_true rfl) ?_
  refine g_aload_n dX3_longs_6 rfl ?_
  refine g_aload_n dX3_longs_7 rfl ?_
  refine g_iload_n dX3_longs_8 rfl ?_
  obtain ⟨⟨x4, μ6⟩, q5, h⟩ := g_bind h
  refine m_cO mt_X10_glows mo_X3_17_X10 dX3_longs_9 (k_X10_glows_4_50 q5) rfl rfl rfl rfl (by decide) ⟨Nat.le_refl _, Nat.le_refl _⟩ (Nat.le_of_ble_eq_true rfl) ?_
  refine g_aload_n dX3_longs_12 rfl ?_
  refine m_getI fl_X3_23 rfl rfl dX3_longs_13 ?_
  refine g_ixor dX3_longs_16 ?_
  obtain rfl := Option.some.inj h
  exact g_iret rfl (Nat.le_refl _) rfl dX3_longs_17 ⟨rfl, rfl⟩
set_option maxRecDepth 100000 in
set_option maxHeartbeats 4000000 in
theorem k_X3_glows_5_50 {D : va_G} {cA : Nat → ClassId} {b b2 k : Nat} {dyn : Nat → Nat} {t s : Nat} {a1 : Int32} {μ : g_M} {z : Int32 × g_M} (h : f_X3_glows_5_50 a1 μ = some z) : g_K (g_XX D cA b b2 dyn) yX3_glows Y_X3_glows 2 0 0 k [.ref 5, .ref 50, .int a1] (μ, (g_rfX t s)) (fun r1 σ1 => r1 = some (.int z.1) ∧ σ1 = (z.2, (g_rfX t s))) := by
  unfold f_X3_glows_5_50 at h
  refine g_met 0 (by decide) rfl rfl (Nat.le_of_ble_eq_true rfl) ?_
  refine g_aload_n dX3_glows_0 rfl ?_
  refine g_bipush (v := 10) dX3_glows_1 (by decide) ?_
  obtain ⟨μ3, q2, h⟩ := g_bind h
  refine m_cVv mt_X0_began ml_X3_7 mv_X0_began dX3_glows_3 (k_X0_began q2) rfl rfl rfl rfl (by decide) ⟨Nat.le_refl _, Nat.le_refl _⟩ (Nat.le_of_ble_eq_true rfl) ?_
  refine g_iload_n dX3_glows_6 rfl ?_
  refine g_aload_n dX3_glows_7 rfl ?_
  refine m_getI fl_X3_13 rfl rfl dX3_glows_8 ?_
  refine g_ic3 dX3_glows_11 ?_
  refine g_imul dX3_glows_12 ?_
  refine g_isub dX3_glows_13 ?_
  obtain rfl := Option.some.inj h
  exact g_iret rfl (Nat.le_refl _) rfl dX3_glows_14 ⟨rfl, rfl⟩
set_option maxRecDepth 100000 in
set_option maxHeartbeats 4000000 in
theorem k_X3_longs_5_50 {D : va_G} {cA : Nat → ClassId} {b b2 k : Nat} {dyn : Nat → Nat} {t s : Nat} {a1 : Int32} {μ : g_M} {z : Int32 × g_M} (h : f_X3_longs_5_50 a1 μ = some z) : g_K (g_XX D cA b b2 dyn) yX3_longs Y_X3_longs 3 0 0 k [.ref 5, .ref 50, .int a1] (μ, (g_rfX t s)) (fun r1 σ1 => r1 = some (.int z.1) ∧ σ1 = (z.2, (g_rfX t s))) := by
  unfold f_X3_longs_5_50 at h
  refine g_met 0 (by decide) rfl rfl (Nat.le_of_ble_eq_true rfl) ?_
  refine g_aload_n dX3_longs_0 rfl ?_
  refine g_bipush (v := 11) dX3_longs_1 (by decide) ?_
  obtain ⟨μ3, q2, h⟩ := g_bind h
  refine m_cVv mt_X0_began ml_X3_7 mv_X0_began dX3_longs_3 (k_X0_began q2) rfl rfl rfl rfl (by decide) ⟨Nat.le_refl _, Nat.le_refl _⟩ (Nat.le_of_ble_eq_true rfl) ?_
  refine g_aload_n dX3_longs_6 rfl ?_
  refine g_aload_n dX3_longs_7 rfl ?_
  refine g_iload_n dX3_longs_8 rfl ?_
  obtain ⟨⟨x4, μ6⟩, q5, h⟩ := g_bind h
  refine m_cO mt_X3_glows mo_X3_17_X6 dX3_longs_9 (k_X3_glows_5_50 q5) rfl rfl rfl rfl (by decide) ⟨Nat.le_refl _, Nat.le_refl _⟩ (Nat.le_of_ble_eq_true rfl) ?_
  refine g_aload_n dX3_longs_12 rfl ?_
  refine m_getI fl_X3_23 rfl rfl dX3_longs_13 ?_
  refine g_ixor dX3_longs_16 ?_
  obtain rfl := Option.some.inj h
  exact g_iret rfl (Nat.le_refl _) rfl dX3_longs_17 ⟨rfl, rfl⟩
set_option maxRecDepth 100000 in
set_option maxHeartbeats 4000000 in
theorem k_X6_longs_5_50 {D : va_G} {cA : Nat → ClassId} {b b2 k : Nat} {dyn : Nat → Nat} {t s : Nat} {a1 : Int32} {μ : g_M} {z : Int32 × g_M} (h : f_X6_longs_5_50 a1 μ = some z) : g_K (g_XX D cA b b2 dyn) yX6_longs Y_X6_longs 4 0 0 k [.ref 5, .ref 50, .int a1] (μ, (g_rfX t s)) (fun r1 σ1 => r1 = some (.int z.1) ∧ σ1 = (z.2, (g_rfX t s))) := by
  unfold f_X6_longs_5_50 at h
  refine g_met 0 (by decide) rfl rfl (Nat.le_of_ble_eq_true rfl) ?_
  refine g_aload_n dX6_longs_0 rfl ?_
  refine g_bipush (v := 30) dX6_longs_1 (by decide) ?_
  obtain ⟨μ3, q2, h⟩ := g_bind h
  refine m_cVv mt_X0_began ml_X6_15 mv_X0_began dX6_longs_3 (k_X0_began q2) rfl rfl rfl rfl (by decide) ⟨Nat.le_refl _, Nat.le_refl _⟩ (Nat.le_of_ble_eq_true rfl) ?_
  refine g_aload_n dX6_longs_6 rfl ?_
  refine g_aload_n dX6_longs_7 rfl ?_
  refine g_iload_n dX6_longs_8 rfl ?_
  obtain ⟨⟨x4, μ6⟩, q5, h⟩ := g_bind h
  refine m_cU mt_X3_longs mu_X6_21 dX6_longs_9 (k_X3_longs_5_50 q5) rfl rfl rfl rfl (by decide) ⟨Nat.le_refl _, Nat.le_refl _⟩ (Nat.le_of_ble_eq_true rfl) ?_
  refine g_aload_n dX6_longs_12 rfl ?_
  refine m_getI fl_X6_25 rfl rfl dX6_longs_13 ?_
  refine g_isub dX6_longs_16 ?_
  obtain rfl := Option.some.inj h
  exact g_iret rfl (Nat.le_refl _) rfl dX6_longs_17 ⟨rfl, rfl⟩
set_option maxRecDepth 100000 in
set_option maxHeartbeats 4000000 in
theorem k_X3_glows_6_50 {D : va_G} {cA : Nat → ClassId} {b b2 k : Nat} {dyn : Nat → Nat} {t s : Nat} {a1 : Int32} {μ : g_M} {z : Int32 × g_M} (h : f_X3_glows_6_50 a1 μ = some z) : g_K (g_XX D cA b b2 dyn) yX3_glows Y_X3_glows 2 0 0 k [.ref 6, .ref 50, .int a1] (μ, (g_rfX t s)) (fun r1 σ1 => r1 = some (.int z.1) ∧ σ1 = (z.2, (g_rfX t s))) := by
  unfold f_X3_glows_6_50 at h
  refine g_met 0 (by decide) rfl rfl (Nat.le_of_ble_eq_true rfl) ?_
  refine g_aload_n dX3_glows_0 rfl ?_
  refine g_bipush (v := 10) dX3_glows_1 (by decide) ?_
  obtain ⟨μ3, q2, h⟩ := g_bind h
  refine m_cVv mt_X0_began ml_X3_7 mv_X0_began dX3_glows_3 (k_X0_began q2) rfl rfl rfl rfl (by decide) ⟨Nat.le_refl _, Nat.le_refl _⟩ (Nat.le_of_ble_eq_true rfl) ?_
  refine g_iload_n dX3_glows_6 rfl ?_
  refine g_aload_n dX3_glows_7 rfl ?_
  refine m_getI fl_X3_13 rfl rfl dX3_glows_8 ?_
  refine g_ic3 dX3_glows_11 ?_
  refine g_imul dX3_glows_12 ?_
  refine g_isub dX3_glows_13 ?_
  obtain rfl := Option.some.inj h
  exact g_iret rfl (Nat.le_refl _) rfl dX3_glows_14 ⟨rfl, rfl⟩
set_option maxRecDepth 100000 in
set_option maxHeartbeats 4000000 in
theorem k_X1_glows_6_50 {D : va_G} {cA : Nat → ClassId} {b b2 k : Nat} {dyn : Nat → Nat} {t s : Nat} {a1 : Int32} {μ : g_M} {z : Int32 × g_M} (h : f_X1_glows_6_50 a1 μ = some z) : g_K (g_XX D cA b b2 dyn) yX1_glows Y_X1_glows 3 0 0 k [.ref 6, .ref 50, .int a1] (μ, (g_rfX t s)) (fun r1 σ1 => r1 = some (.int z.1) ∧ σ1 = (z.2, (g_rfX t s))) := by
  unfold f_X1_glows_6_50 at h
  refine g_met 0 (by decide) rfl rfl (Nat.le_of_ble_eq_true rfl) ?_
  refine g_aload_n dX1_glows_0 rfl ?_
  refine g_bipush (v := 50) dX1_glows_1 (by decide) ?_
  obtain ⟨μ3, q2, h⟩ := g_bind h
  refine m_cVv mt_X0_began ml_X1_11 mv_X0_began dX1_glows_3 (k_X0_began q2) rfl rfl rfl rfl (by decide) ⟨Nat.le_refl _, Nat.le_refl _⟩ (Nat.le_of_ble_eq_true rfl) ?_
  refine g_aload_n dX1_glows_6 rfl ?_
  refine g_aload_n dX1_glows_7 rfl ?_
  refine g_iload_n dX1_glows_8 rfl ?_
  obtain ⟨⟨x4, μ6⟩, q5, h⟩ := g_bind h
  refine m_cU mt_X3_glows mu_X1_17 dX1_glows_9 (k_X3_glows_6_50 q5) rfl rfl rfl rfl (by decide) ⟨Nat.le_refl _, Nat.le_refl _⟩ (Nat.le_of_ble_eq_true rfl) ?_
  refine g_ic3 dX1_glows_12 ?_
  refine g_ixor dX1_glows_13 ?_
  obtain rfl := Option.some.inj h
  exact g_iret rfl (Nat.le_refl _) rfl dX1_glows_14 ⟨rfl, rfl⟩
set_option maxRecDepth 100000 in
set_option maxHeartbeats 4000000 in
theorem k_X3_longs_6_50 {D : va_G} {cA : Nat → ClassId} {b b2 k : Nat} {dyn : Nat → Nat} {t s : Nat} {a1 : Int32} {μ : g_M} {z : Int32 × g_M} (h : f_X3_longs_6_50 a1 μ = some z) : g_K (g_XX D cA b b2 dyn) yX3_longs Y_X3_longs 4 0 0 k [.ref 6, .ref 50, .int a1] (μ, (g_rfX t s)) (fun r1 σ1 => r1 = some (.int z.1) ∧ σ1 = (z.2, (g_rfX t s))) := by
  unfold f_X3_longs_6_50 at h
  refine g_met 0 (by decide) rfl rfl (Nat.le_of_ble_eq_true rfl) ?_
  refine g_aload_n dX3_longs_0 rfl ?_
  refine g_bipush (v := 11) dX3_longs_1 (by decide) ?_
  obtain ⟨μ3, q2, h⟩ := g_bind h
  refine m_cVv mt_X0_began ml_X3_7 mv_X0_began dX3_longs_3 (k_X0_began q2) rfl rfl rfl rfl (by decide) ⟨Nat.le_refl _, Nat.le_refl _⟩ (Nat.le_of_ble_eq_true rfl) ?_
  refine g_aload_n dX3_longs_6 rfl ?_
  refine g_aload_n dX3_longs_7 rfl ?_
  refine g_iload_n dX3_longs_8 rfl ?_
  obtain ⟨⟨x4, μ6⟩, q5, h⟩ := g_bind h
  refine m_cO mt_X1_glows mo_X3_17_X1 dX3_longs_9 (k_X1_glows_6_50 q5) rfl rfl rfl rfl (by decide) ⟨Nat.le_refl _, Nat.le_refl _⟩ (Nat.le_of_ble_eq_true rfl) ?_
  refine g_aload_n dX3_longs_12 rfl ?_
  refine m_getI fl_X3_23 rfl rfl dX3_longs_13 ?_
  refine g_ixor dX3_longs_16 ?_
  obtain rfl := Option.some.inj h
  exact g_iret rfl (Nat.le_refl _) rfl dX3_longs_17 ⟨rfl, rfl⟩
set_option maxRecDepth 100000 in
set_option maxHeartbeats 4000000 in
theorem k_X6_longs_6_50 {D : va_G} {cA : Nat → ClassId} {b b2 k : Nat} {dyn : Nat → Nat} {t s : Nat} {a1 : Int32} {μ : g_M} {z : Int32 × g_M} (h : f_X6_longs_6_50 a1 μ = some z) : g_K (g_XX D cA b b2 dyn) yX6_longs Y_X6_longs 5 0 0 k [.ref 6, .ref 50, .int a1] (μ, (g_rfX t s)) (fun r1 σ1 => r1 = some (.int z.1) ∧ σ1 = (z.2, (g_rfX t s))) := by
  unfold f_X6_longs_6_50 at h
  refine g_met 0 (by decide) rfl rfl (Nat.le_of_ble_eq_true rfl) ?_
  refine g_aload_n dX6_longs_0 rfl ?_
  refine g_bipush (v := 30) dX6_longs_1 (by decide) ?_
  obtain ⟨μ3, q2, h⟩ := g_bind h
  refine m_cVv mt_X0_began ml_X6_15 mv_X0_began dX6_longs_3 (k_X0_began q2) rfl rfl rfl rfl (by decide) ⟨Nat.le_refl _, Nat.le_refl _⟩ (Nat.le_of_ble_eq_true rfl) ?_
  refine g_aload_n dX6_longs_6 rfl ?_
  refine g_aload_n dX6_longs_7 rfl ?_
  refine g_iload_n dX6_longs_8 rfl ?_
  obtain ⟨⟨x4, μ6⟩, q5, h⟩ := g_bind h
  refine m_cU mt_X3_longs mu_X6_21 dX6_longs_9 (k_X3_longs_6_50 q5) rfl rfl rfl rfl (by decide) ⟨Nat.le_refl _, Nat.le_refl _⟩ (Nat.le_of_ble_eq_true rfl) ?_
  refine g_aload_n dX6_longs_12 rfl ?_
  refine m_getI fl_X6_25 rfl rfl dX6_longs_13 ?_
  refine g_isub dX6_longs_16 ?_
  obtain rfl := Option.some.inj h
  exact g_iret rfl (Nat.le_refl _) rfl dX6_longs_17 ⟨rfl, rfl⟩
set_option maxRecDepth 100000 in
set_option maxHeartbeats 4000000 in
theorem k_X3_glows_7_50 {D : va_G} {cA : Nat → ClassId} {b b2 k : Nat} {dyn : Nat → Nat} {t s : Nat} {a1 : Int32} {μ : g_M} {z : Int32 × g_M} (h : f_X3_glows_7_50 a1 μ = some z) : g_K (g_XX D cA b b2 dyn) yX3_glows Y_X3_glows 2 0 0 k [.ref 7, .ref 50, .int a1] (μ, (g_rfX t s)) (fun r1 σ1 => r1 = some (.int z.1) ∧ σ1 = (z.2, (g_rfX t s))) := by
  unfold f_X3_glows_7_50 at h
  refine g_met 0 (by decide) rfl rfl (Nat.le_of_ble_eq_true rfl) ?_
  refine g_aload_n dX3_glows_0 rfl ?_
  refine g_bipush (v := 10) dX3_glows_1 (by decide) ?_
  obtain ⟨μ3, q2, h⟩ := g_bind h
  refine m_cVv mt_X0_began ml_X3_7 mv_X0_began dX3_glows_3 (k_X0_began q2) rfl rfl rfl rfl (by decide) ⟨Nat.le_refl _, Nat.le_refl _⟩ (Nat.le_of_ble_eq_true rfl) ?_
  refine g_iload_n dX3_glows_6 rfl ?_
  refine g_aload_n dX3_glows_7 rfl ?_
  refine m_getI fl_X3_13 rfl rfl dX3_glows_8 ?_
  refine g_ic3 dX3_glows_11 ?_
  refine g_imul dX3_glows_12 ?_
  refine g_isub dX3_glows_13 ?_
  obtain rfl := Option.some.inj h
  exact g_iret rfl (Nat.le_refl _) rfl dX3_glows_14 ⟨rfl, rfl⟩
set_option maxRecDepth 100000 in
set_option maxHeartbeats 4000000 in
theorem k_X3_longs_7_50 {D : va_G} {cA : Nat → ClassId} {b b2 k : Nat} {dyn : Nat → Nat} {t s : Nat} {a1 : Int32} {μ : g_M} {z : Int32 × g_M} (h : f_X3_longs_7_50 a1 μ = some z) : g_K (g_XX D cA b b2 dyn) yX3_longs Y_X3_longs 3 0 0 k [.ref 7, .ref 50, .int a1] (μ, (g_rfX t s)) (fun r1 σ1 => r1 = some (.int z.1) ∧ σ1 = (z.2, (g_rfX t s))) := by
  unfold f_X3_longs_7_50 at h
  refine g_met 0 (by decide) rfl rfl (Nat.le_of_ble_eq_true rfl) ?_
  refine g_aload_n dX3_longs_0 rfl ?_
  refine g_bipush (v := 11) dX3_longs_1 (by decide) ?_
  obtain ⟨μ3, q2, h⟩ := g_bind h
  refine m_cVv mt_X0_began ml_X3_7 mv_X0_began dX3_longs_3 (k_X0_began q2) rfl rfl rfl rfl (by decide) ⟨Nat.le_refl _, Nat.le_refl _⟩ (Nat.le_of_ble_eq_true rfl) ?_
  refine g_aload_n dX3_longs_6 rfl ?_
  refine g_aload_n dX3_longs_7 rfl ?_
  refine g_iload_n dX3_longs_8 rfl ?_
  obtain ⟨⟨x4, μ6⟩, q5, h⟩ := g_bind h
  refine m_cO mt_X3_glows mo_X3_17_X4 dX3_longs_9 (k_X3_glows_7_50 q5) rfl rfl rfl rfl (by decide) ⟨Nat.le_refl _, Nat.le_refl _⟩ (Nat.le_of_ble_eq_true rfl) ?_
  refine g_aload_n dX3_longs_12 rfl ?_
  refine m_getI fl_X3_23 rfl rfl dX3_longs_13 ?_
  refine g_ixor dX3_longs_16 ?_
  obtain rfl := Option.some.inj h
  exact g_iret rfl (Nat.le_refl _) rfl dX3_longs_17 ⟨rfl, rfl⟩
set_option maxRecDepth 100000 in
set_option maxHeartbeats 4000000 in
theorem k_X3_longs_8_50 {D : va_G} {cA : Nat → ClassId} {b b2 k : Nat} {dyn : Nat → Nat} {t s : Nat} {a1 : Int32} {μ : g_M} {z : Int32 × g_M} (h : f_X3_longs_8_50 a1 μ = some z) : g_K (g_XX D cA b b2 dyn) yX3_longs Y_X3_longs 3 0 0 k [.ref 8, .ref 50, .int a1] (μ, (g_rfX t s)) (fun r1 σ1 => r1 = some (.int z.1) ∧ σ1 = (z.2, (g_rfX t s))) := by
  unfold f_X3_longs_8_50 at h
  refine g_met 0 (by decide) rfl rfl (Nat.le_of_ble_eq_true rfl) ?_
  refine g_aload_n dX3_longs_0 rfl ?_
  refine g_bipush (v := 11) dX3_longs_1 (by decide) ?_
  obtain ⟨μ3, q2, h⟩ := g_bind h
  refine m_cVv mt_X0_began ml_X3_7 mv_X0_began dX3_longs_3 (k_X0_began q2) rfl rfl rfl rfl (by decide) ⟨Nat.le_refl _, Nat.le_refl _⟩ (Nat.le_of_ble_eq_true rfl) ?_
  refine g_aload_n dX3_longs_6 rfl ?_
  refine g_aload_n dX3_longs_7 rfl ?_
  refine g_iload_n dX3_longs_8 rfl ?_
  obtain ⟨⟨x4, μ6⟩, q5, h⟩ := g_bind h
  refine m_cO mt_X3_glows mo_X3_17_X5 dX3_longs_9 (k_X3_glows_8_50 q5) rfl rfl rfl rfl (by decide) ⟨Nat.le_refl _, Nat.le_refl _⟩ (Nat.le_of_ble_eq_true rfl) ?_
  refine g_aload_n dX3_longs_12 rfl ?_
  refine m_getI fl_X3_23 rfl rfl dX3_longs_13 ?_
  refine g_ixor dX3_longs_16 ?_
  obtain rfl := Option.some.inj h
  exact g_iret rfl (Nat.le_refl _) rfl dX3_longs_17 ⟨rfl, rfl⟩
set_option maxRecDepth 100000 in
set_option maxHeartbeats 4000000 in
theorem k_X5_longs_8_50 {D : va_G} {cA : Nat → ClassId} {b b2 k : Nat} {dyn : Nat → Nat} {t s : Nat} {a1 : Int32} {μ : g_M} {z : Int32 × g_M} (h : f_X5_longs_8_50 a1 μ = some z) : g_K (g_XX D cA b b2 dyn) yX5_longs Y_X5_longs 4 0 0 k [.ref 8, .ref 50, .int a1] (μ, (g_rfX t s)) (fun r1 σ1 => r1 = some (.int z.1) ∧ σ1 = (z.2, (g_rfX t s))) := by
  unfold f_X5_longs_8_50 at h
  refine g_met 0 (by decide) rfl rfl (Nat.le_of_ble_eq_true rfl) ?_
  refine g_aload_n dX5_longs_0 rfl ?_
  refine g_bipush (v := 60) dX5_longs_1 (by decide) ?_
  obtain ⟨μ3, q2, h⟩ := g_bind h
  refine m_cVv mt_X0_began ml_X5_15 mv_X0_began dX5_longs_3 (k_X0_began q2) rfl rfl rfl rfl (by decide) ⟨Nat.le_refl _, Nat.le_refl _⟩ (Nat.le_of_ble_eq_true rfl) ?_
  refine g_ic0 dX5_longs_6 ?_
  refine g_aload_n dX5_longs_7 rfl ?_
  refine g_aload_n dX5_longs_8 rfl ?_
  refine g_iload_n dX5_longs_9 rfl ?_
  obtain ⟨⟨x4, μ6⟩, q5, h⟩ := g_bind h
  refine m_cU mt_X3_longs mu_X5_21 dX5_longs_10 (k_X3_longs_8_50 q5) rfl rfl rfl rfl (by decide) ⟨Nat.le_refl _, Nat.le_refl _⟩ (Nat.le_of_ble_eq_true rfl) ?_
  refine g_isub dX5_longs_13 ?_
  obtain rfl := Option.some.inj h
  exact g_iret rfl (Nat.le_refl _) rfl dX5_longs_14 ⟨rfl, rfl⟩
set_option maxRecDepth 100000 in
set_option maxHeartbeats 4000000 in
theorem k_X3_weds_4_50 {D : va_G} {cA : Nat → ClassId} {b b2 k : Nat} {dyn : Nat → Nat} {t s : Nat} {a1 : Int32} {μ : g_M} {z : Int32 × g_M} (h : f_X3_weds_4_50 a1 μ = some z) : g_K (g_XX D cA b b2 dyn) yX3_weds Y_X3_weds 5 0 0 k [.ref 4, .ref 50, .int a1] (μ, (g_rfX t s)) (fun r1 σ1 => r1 = some (.int z.1) ∧ σ1 = (z.2, (g_rfX t s))) := by
  unfold f_X3_weds_4_50 at h
  refine g_met 0 (by decide) rfl rfl (Nat.le_of_ble_eq_true rfl) ?_
  refine g_aload_n dX3_weds_0 rfl ?_
  refine g_bipush (v := 13) dX3_weds_1 (by decide) ?_
  obtain ⟨μ3, q2, h⟩ := g_bind h
  refine m_cVv mt_X0_began ml_X3_7 mv_X0_began dX3_weds_3 (k_X0_began q2) rfl rfl rfl rfl (by decide) ⟨Nat.le_refl _, Nat.le_refl _⟩ (Nat.le_of_ble_eq_true rfl) ?_
  refine g_aload_n dX3_weds_6 rfl ?_
  refine g_aload_n dX3_weds_7 rfl ?_
  refine g_iload_n dX3_weds_8 rfl ?_
  obtain ⟨⟨x4, μ6⟩, q5, h⟩ := g_bind h
  refine m_cO mt_X3_longs mo_X3_30_X10 dX3_weds_9 (k_X3_longs_4_50 q5) rfl rfl rfl rfl (by decide) ⟨Nat.le_refl _, Nat.le_refl _⟩ (Nat.le_of_ble_eq_true rfl) ?_
  refine g_ic1 dX3_weds_12 ?_
  refine g_iadd dX3_weds_13 ?_
  obtain rfl := Option.some.inj h
  exact g_iret rfl (Nat.le_refl _) rfl dX3_weds_14 ⟨rfl, rfl⟩
set_option maxRecDepth 100000 in
set_option maxHeartbeats 4000000 in
theorem k_X3_weds_5_50 {D : va_G} {cA : Nat → ClassId} {b b2 k : Nat} {dyn : Nat → Nat} {t s : Nat} {a1 : Int32} {μ : g_M} {z : Int32 × g_M} (h : f_X3_weds_5_50 a1 μ = some z) : g_K (g_XX D cA b b2 dyn) yX3_weds Y_X3_weds 5 0 0 k [.ref 5, .ref 50, .int a1] (μ, (g_rfX t s)) (fun r1 σ1 => r1 = some (.int z.1) ∧ σ1 = (z.2, (g_rfX t s))) := by
  unfold f_X3_weds_5_50 at h
  refine g_met 0 (by decide) rfl rfl (Nat.le_of_ble_eq_true rfl) ?_
  refine g_aload_n dX3_weds_0 rfl ?_
  refine g_bipush (v := 13) dX3_weds_1 (by decide) ?_
  obtain ⟨μ3, q2, h⟩ := g_bind h
  refine m_cVv mt_X0_began ml_X3_7 mv_X0_began dX3_weds_3 (k_X0_began q2) rfl rfl rfl rfl (by decide) ⟨Nat.le_refl _, Nat.le_refl _⟩ (Nat.le_of_ble_eq_true rfl) ?_
  refine g_aload_n dX3_weds_6 rfl ?_
  refine g_aload_n dX3_weds_7 rfl ?_
  refine g_iload_n dX3_weds_8 rfl ?_
  obtain ⟨⟨x4, μ6⟩, q5, h⟩ := g_bind h
  refine m_cO mt_X6_longs mo_X3_30_X6 dX3_weds_9 (k_X6_longs_5_50 q5) rfl rfl rfl rfl (by decide) ⟨Nat.le_refl _, Nat.le_refl _⟩ (Nat.le_of_ble_eq_true rfl) ?_
  refine g_ic1 dX3_weds_12 ?_
  refine g_iadd dX3_weds_13 ?_
  obtain rfl := Option.some.inj h
  exact g_iret rfl (Nat.le_refl _) rfl dX3_weds_14 ⟨rfl, rfl⟩
set_option maxRecDepth 100000 in
set_option maxHeartbeats 4000000 in
theorem k_X3_weds_6_50 {D : va_G} {cA : Nat → ClassId} {b b2 k : Nat} {dyn : Nat → Nat} {t s : Nat} {a1 : Int32} {μ : g_M} {z : Int32 × g_M} (h : f_X3_weds_6_50 a1 μ = some z) : g_K (g_XX D cA b b2 dyn) yX3_weds Y_X3_weds 6 0 0 k [.ref 6, .ref 50, .int a1] (μ, (g_rfX t s)) (fun r1 σ1 => r1 = some (.int z.1) ∧ σ1 = (z.2, (g_rfX t s))) := by
  unfold f_X3_weds_6_50 at h
  refine g_met 0 (by decide) rfl rfl (Nat.le_of_ble_eq_true rfl) ?_
  refine g_aload_n dX3_weds_0 rfl ?_
  refine g_bipush (v := 13) dX3_weds_1 (by decide) ?_
  obtain ⟨μ3, q2, h⟩ := g_bind h
  refine m_cVv mt_X0_began ml_X3_7 mv_X0_began dX3_weds_3 (k_X0_began q2) rfl rfl rfl rfl (by decide) ⟨Nat.le_refl _, Nat.le_refl _⟩ (Nat.le_of_ble_eq_true rfl) ?_
  refine g_aload_n dX3_weds_6 rfl ?_
  refine g_aload_n dX3_weds_7 rfl ?_
  refine g_iload_n dX3_weds_8 rfl ?_
  obtain ⟨⟨x4, μ6⟩, q5, h⟩ := g_bind h
  refine m_cO mt_X6_longs mo_X3_30_X1 dX3_weds_9 (k_X6_longs_6_50 q5) rfl rfl rfl rfl (by decide) ⟨Nat.le_refl _, Nat.le_refl _⟩ (Nat.le_of_ble_eq_true rfl) ?_
  refine g_ic1 dX3_weds_12 ?_
  refine g_iadd dX3_weds_13 ?_
  obtain rfl := Option.some.inj h
  exact g_iret rfl (Nat.le_refl _) rfl dX3_weds_14 ⟨rfl, rfl⟩
set_option maxRecDepth 100000 in
set_option maxHeartbeats 4000000 in
theorem k_X1_weds_6_50 {D : va_G} {cA : Nat → ClassId} {b b2 k : Nat} {dyn : Nat → Nat} {t s : Nat} {a1 : Int32} {μ : g_M} {z : Int32 × g_M} (h : f_X1_weds_6_50 a1 μ = some z) : g_K (g_XX D cA b b2 dyn) yX1_weds Y_X1_weds 7 0 0 k [.ref 6, .ref 50, .int a1] (μ, (g_rfX t s)) (fun r1 σ1 => r1 = some (.int z.1) ∧ σ1 = (z.2, (g_rfX t s))) := by
  unfold f_X1_weds_6_50 at h
  refine g_met 1 (by decide) rfl rfl (Nat.le_of_ble_eq_true rfl) ?_
  refine g_aload_n dX1_weds_0 rfl ?_
  refine g_bipush (v := 51) dX1_weds_1 (by decide) ?_
  obtain ⟨μ3, q2, h⟩ := g_bind h
  refine m_cVv mt_X0_began ml_X1_11 mv_X0_began dX1_weds_3 (k_X0_began q2) rfl rfl rfl rfl (by decide) ⟨Nat.le_refl _, Nat.le_refl _⟩ (Nat.le_of_ble_eq_true rfl) ?_
  refine g_aload_n dX1_weds_6 rfl ?_
  refine g_aload_n dX1_weds_7 rfl ?_
  refine g_iload_n dX1_weds_8 rfl ?_
  obtain ⟨⟨x4, μ6⟩, q5, h⟩ := g_bind h
  refine m_cU mt_X3_weds mu_X1_21 dX1_weds_9 (k_X3_weds_6_50 q5) rfl rfl rfl rfl (by decide) ⟨Nat.le_refl _, Nat.le_refl _⟩ (Nat.le_of_ble_eq_true rfl) ?_
  refine g_istore_3 rfl (Nat.le_of_ble_eq_true rfl) dX1_weds_12 ?_
  refine g_iload_n dX1_weds_13 rfl ?_
  refine g_aload_n dX1_weds_14 rfl ?_
  refine g_aload_n dX1_weds_15 rfl ?_
  refine g_iload_n dX1_weds_16 rfl ?_
  obtain ⟨⟨x7, μ9⟩, q8, h⟩ := g_bind h
  refine m_cO mt_X3_parts mo_X1_24_X1 dX1_weds_17 (k_X3_parts_6_50 q8) rfl rfl rfl rfl (by decide) ⟨Nat.le_refl _, Nat.le_refl _⟩ (Nat.le_of_ble_eq_true rfl) ?_
  refine g_imul dX1_weds_20 ?_
  obtain rfl := Option.some.inj h
  exact g_iret rfl (Nat.le_refl _) rfl dX1_weds_21 ⟨rfl, rfl⟩
set_option maxRecDepth 100000 in
set_option maxHeartbeats 4000000 in
theorem k_X3_weds_7_50 {D : va_G} {cA : Nat → ClassId} {b b2 k : Nat} {dyn : Nat → Nat} {t s : Nat} {a1 : Int32} {μ : g_M} {z : Int32 × g_M} (h : f_X3_weds_7_50 a1 μ = some z) : g_K (g_XX D cA b b2 dyn) yX3_weds Y_X3_weds 4 0 0 k [.ref 7, .ref 50, .int a1] (μ, (g_rfX t s)) (fun r1 σ1 => r1 = some (.int z.1) ∧ σ1 = (z.2, (g_rfX t s))) := by
  unfold f_X3_weds_7_50 at h
  refine g_met 0 (by decide) rfl rfl (Nat.le_of_ble_eq_true rfl) ?_
  refine g_aload_n dX3_weds_0 rfl ?_
  refine g_bipush (v := 13) dX3_weds_1 (by decide) ?_
  obtain ⟨μ3, q2, h⟩ := g_bind h
  refine m_cVv mt_X0_began ml_X3_7 mv_X0_began dX3_weds_3 (k_X0_began q2) rfl rfl rfl rfl (by decide) ⟨Nat.le_refl _, Nat.le_refl _⟩ (Nat.le_of_ble_eq_true rfl) ?_
  refine g_aload_n dX3_weds_6 rfl ?_
  refine g_aload_n dX3_weds_7 rfl ?_
  refine g_iload_n dX3_weds_8 rfl ?_
  obtain ⟨⟨x4, μ6⟩, q5, h⟩ := g_bind h
  refine m_cO mt_X3_longs mo_X3_30_X4 dX3_weds_9 (k_X3_longs_7_50 q5) rfl rfl rfl rfl (by decide) ⟨Nat.le_refl _, Nat.le_refl _⟩ (Nat.le_of_ble_eq_true rfl) ?_
  refine g_ic1 dX3_weds_12 ?_
  refine g_iadd dX3_weds_13 ?_
  obtain rfl := Option.some.inj h
  exact g_iret rfl (Nat.le_refl _) rfl dX3_weds_14 ⟨rfl, rfl⟩
set_option maxRecDepth 100000 in
set_option maxHeartbeats 4000000 in
theorem k_X3_weds_8_50 {D : va_G} {cA : Nat → ClassId} {b b2 k : Nat} {dyn : Nat → Nat} {t s : Nat} {a1 : Int32} {μ : g_M} {z : Int32 × g_M} (h : f_X3_weds_8_50 a1 μ = some z) : g_K (g_XX D cA b b2 dyn) yX3_weds Y_X3_weds 5 0 0 k [.ref 8, .ref 50, .int a1] (μ, (g_rfX t s)) (fun r1 σ1 => r1 = some (.int z.1) ∧ σ1 = (z.2, (g_rfX t s))) := by
  unfold f_X3_weds_8_50 at h
  refine g_met 0 (by decide) rfl rfl (Nat.le_of_ble_eq_true rfl) ?_
  refine g_aload_n dX3_weds_0 rfl ?_
  refine g_bipush (v := 13) dX3_weds_1 (by decide) ?_
  obtain ⟨μ3, q2, h⟩ := g_bind h
  refine m_cVv mt_X0_began ml_X3_7 mv_X0_began dX3_weds_3 (k_X0_began q2) rfl rfl rfl rfl (by decide) ⟨Nat.le_refl _, Nat.le_refl _⟩ (Nat.le_of_ble_eq_true rfl) ?_
  refine g_aload_n dX3_weds_6 rfl ?_
  refine g_aload_n dX3_weds_7 rfl ?_
  refine g_iload_n dX3_weds_8 rfl ?_
  obtain ⟨⟨x4, μ6⟩, q5, h⟩ := g_bind h
  refine m_cO mt_X5_longs mo_X3_30_X5 dX3_weds_9 (k_X5_longs_8_50 q5) rfl rfl rfl rfl (by decide) ⟨Nat.le_refl _, Nat.le_refl _⟩ (Nat.le_of_ble_eq_true rfl) ?_
  refine g_ic1 dX3_weds_12 ?_
  refine g_iadd dX3_weds_13 ?_
  obtain rfl := Option.some.inj h
  exact g_iret rfl (Nat.le_refl _) rfl dX3_weds_14 ⟨rfl, rfl⟩
set_option maxRecDepth 100000 in
set_option maxHeartbeats 4000000 in
theorem k_X11_act {D : va_G} {cA : Nat → ClassId} {b b2 k : Nat} {dyn : Nat → Nat} {t s : Nat} {a1 : Int32} {a2 : Int32} {a3 : Int32} {μ : g_M} {z : Int32 × g_M} (h : f_X11_act a1 a2 a3 μ = some z) : g_K (g_XX D cA b b2 dyn) yX11_act Y_X11_act 8 0 0 k [.ref 0, .int a1, .int a2, .int a3] (μ, (g_rfX t s)) (fun r1 σ1 => r1 = some (.int z.1) ∧ σ1 = (z.2, (g_rfX t s))) := by
  unfold f_X11_act at h
  refine g_met 3 (by decide) rfl rfl (Nat.le_of_ble_eq_true rfl) ?_
  refine g_aload_n dX11_act_0 rfl ?_
  refine m_getR fl_X11_29 rfl rfl rfl dX11_act_1 ?_
  obtain ⟨μ3, q2, h⟩ := g_bind h
  refine m_cVv mt_X0_clear ml_X11_307 mv_X0_clear dX11_act_4 (k_X0_clear q2) rfl rfl rfl rfl (by decide) ⟨Nat.le_refl _, Nat.le_refl _⟩ (Nat.le_of_ble_eq_true rfl) ?_
  refine g_iload_n dX11_act_7 rfl ?_
  refine m_cS mt_X11_isShelf ml_X11_295 ms_X11_isShelf dX11_act_8 (k_X11_isShelf rfl) rfl rfl (by decide) ⟨Nat.le_refl _, Nat.le_refl _⟩ (Nat.le_of_ble_eq_true rfl) ?_
  refine g_if_eq 31 (by decide) dX11_act_11 (fun c4 => ?_) (fun c4 => ?_)
  · have h := g_ifp c4 h
    refine g_ic0 dX11_act_31 ?_
    obtain rfl := Option.some.inj h
    exact g_iret rfl (Nat.le_refl _) rfl dX11_act_32 ⟨rfl, rfl⟩
  · have h := g_ifn c4 h
    refine g_iload_n dX11_act_14 rfl ?_
    refine g_ic0 dX11_act_15 ?_
    refine g_ic3 dX11_act_16 ?_
    refine m_cS mt_X11_isBetween ml_X11_120 ms_X11_isBetween dX11_act_17 (k_X11_isBetween rfl) rfl rfl (by decide) ⟨Nat.le_refl _, Nat.le_refl _⟩ (Nat.le_of_ble_eq_true rfl) ?_
    refine g_if_eq 31 (by decide) dX11_act_20 (fun c5 => ?_) (fun c5 => ?_)
    · have h := g_ifp c5 h
      refine g_ic0 dX11_act_31 ?_
      obtain rfl := Option.some.inj h
      exact g_iret rfl (Nat.le_refl _) rfl dX11_act_32 ⟨rfl, rfl⟩
    · have h := g_ifn c5 h
      refine g_aload_n dX11_act_23 rfl ?_
      refine g_iload_n dX11_act_24 rfl ?_
      obtain ⟨x6, q7, h⟩ := g_bind h
      refine m_cV mt_X11_heldOn ml_X11_301 mv_X11_heldOn dX11_act_25 (k_X11_heldOn q7) rfl rfl rfl rfl (by decide) ⟨Nat.le_refl _, Nat.le_refl _⟩ (Nat.le_of_ble_eq_true rfl) ?_
      refine g_if_eq 33 (by decide) dX11_act_28 (fun c8 => ?_) (fun c8 => ?_)
      · have h := g_ifp c8 h
        refine g_aload_n dX11_act_33 rfl ?_
        refine m_getR fl_X11_51 rfl rfl rfl dX11_act_34 ?_
        refine g_iload_n dX11_act_37 rfl ?_
        obtain ⟨x9, qx9, h⟩ := g_bind h
        refine m_iald rfl qx9 dX11_act_38 ?_
        refine g_istore_4 rfl (Nat.le_of_ble_eq_true rfl) dX11_act_39 ?_
        refine g_aload_n dX11_act_41 rfl ?_
        refine m_getR fl_X11_29 rfl rfl rfl dX11_act_42 ?_
        refine g_iload dX11_act_45 rfl ?_
        obtain ⟨μ10, eμ10, h⟩ := g_let h
        refine m_putI fl_X11_310 fw_0_2 rfl rfl rfl rfl dX11_act_47 eμ10 ?_
        refine g_aload_n dX11_act_50 rfl ?_
        refine m_getR fl_X11_29 rfl rfl rfl dX11_act_51 ?_
        refine g_aload_n dX11_act_54 rfl ?_
        refine m_getR fl_X11_10 rfl rfl rfl dX11_act_55 ?_
        refine m_getR fl_X11_90 rfl rfl rfl dX11_act_58 ?_
        refine g_iload dX11_act_61 rfl ?_
        obtain ⟨x11, qx11, h⟩ := g_bind h
        refine m_iald rfl qx11 dX11_act_63 ?_
        obtain ⟨μ12, eμ12, h⟩ := g_let h
        refine m_putI fl_X11_313 fw_0_3 rfl rfl rfl rfl dX11_act_64 eμ12 ?_
        refine g_aload_n dX11_act_67 rfl ?_
        refine m_getR fl_X11_10 rfl rfl rfl dX11_act_68 ?_
        refine m_getR fl_X11_315 rfl rfl rfl dX11_act_71 ?_
        refine g_aload_n dX11_act_74 rfl ?_
        refine m_getR fl_X11_10 rfl rfl rfl dX11_act_75 ?_
        refine m_getR fl_X11_81 rfl rfl rfl dX11_act_78 ?_
        refine g_iload dX11_act_81 rfl ?_
        obtain ⟨x13, qx13, h⟩ := g_bind h
        refine m_iald rfl qx13 dX11_act_83 ?_
        by_cases c14 : x13 = 1
        · have h := g_ifp c14 h
          refine m_aald1 1 c14 rfl (by decide) rfl dX11_act_84 ?_
          refine g_astore_5 rfl (Nat.le_of_ble_eq_true rfl) dX11_act_85 ?_
          refine g_iload_n dX11_act_87 rfl ?_
          by_cases c15 : a2 = 0
          · have h := g_ifp c15 h
            refine m_tab 0 116 c15 dX11_act_88 (by decide) (by decide) rfl (by decide) ?_
            refine g_aload dX11_act_116 rfl ?_
            refine g_aload_n dX11_act_118 rfl ?_
            refine m_getR fl_X11_29 rfl rfl rfl dX11_act_119 ?_
            refine g_iload_n dX11_act_122 rfl ?_
            obtain ⟨⟨x16, μ18⟩, q17, h⟩ := g_bind h
            refine m_cO mt_X10_glows mo_X11_319_X10 dX11_act_123 (k_X10_glows_4_50 q17) rfl rfl rfl rfl (by decide) ⟨Nat.le_refl _, Nat.le_refl _⟩ (Nat.le_of_ble_eq_true rfl) ?_
            refine g_istore_6 rfl (Nat.le_of_ble_eq_true rfl) dX11_act_126 ?_
            refine g_goto 173 (by decide) dX11_act_128 ?_
            refine g_aload_n dX11_act_173 rfl ?_
            refine m_getR fl_X11_29 rfl rfl rfl dX11_act_174 ?_
            refine m_getI fl_X11_334 rfl rfl dX11_act_177 ?_
            refine g_if_eq 188 (by decide) dX11_act_180 (fun c19 => ?_) (fun c19 => ?_)
            · have h := g_ifp c19 h
              refine g_iload dX11_act_188 rfl ?_
              obtain rfl := Option.some.inj h
              exact g_iret rfl (Nat.le_refl _) rfl dX11_act_190 ⟨rfl, rfl⟩
            · have h := g_ifn c19 h
              refine g_bipush (v := (-15)) dX11_act_183 (by decide) ?_
              refine g_goto 190 (by decide) dX11_act_185 ?_
              obtain rfl := Option.some.inj h
              exact g_iret rfl (Nat.le_refl _) rfl dX11_act_190 ⟨rfl, rfl⟩
          have h := g_ifn c15 h
          by_cases c20 : a2 = 1
          · have h := g_ifp c20 h
            refine m_tab 1 131 c20 dX11_act_88 (by decide) (by decide) rfl (by decide) ?_
            refine g_aload dX11_act_131 rfl ?_
            refine g_aload_n dX11_act_133 rfl ?_
            refine m_getR fl_X11_29 rfl rfl rfl dX11_act_134 ?_
            refine g_iload_n dX11_act_137 rfl ?_
            obtain ⟨⟨x21, μ23⟩, q22, h⟩ := g_bind h
            refine m_cO mt_X3_longs mo_X11_325_X10 dX11_act_138 (k_X3_longs_4_50 q22) rfl rfl rfl rfl (by decide) ⟨Nat.le_refl _, Nat.le_refl _⟩ (Nat.le_of_ble_eq_true rfl) ?_
            refine g_istore_6 rfl (Nat.le_of_ble_eq_true rfl) dX11_act_141 ?_
            refine g_goto 173 (by decide) dX11_act_143 ?_
            refine g_aload_n dX11_act_173 rfl ?_
            refine m_getR fl_X11_29 rfl rfl rfl dX11_act_174 ?_
            refine m_getI fl_X11_334 rfl rfl dX11_act_177 ?_
            refine g_if_eq 188 (by decide) dX11_act_180 (fun c24 => ?_) (fun c24 => ?_)
            · have h := g_ifp c24 h
              refine g_iload dX11_act_188 rfl ?_
              obtain rfl := Option.some.inj h
              exact g_iret rfl (Nat.le_refl _) rfl dX11_act_190 ⟨rfl, rfl⟩
            · have h := g_ifn c24 h
              refine g_bipush (v := (-15)) dX11_act_183 (by decide) ?_
              refine g_goto 190 (by decide) dX11_act_185 ?_
              obtain rfl := Option.some.inj h
              exact g_iret rfl (Nat.le_refl _) rfl dX11_act_190 ⟨rfl, rfl⟩
          have h := g_ifn c20 h
          by_cases c25 : a2 = 2
          · have h := g_ifp c25 h
            refine m_tab 2 146 c25 dX11_act_88 (by decide) (by decide) rfl (by decide) ?_
            refine g_aload dX11_act_146 rfl ?_
            refine g_aload_n dX11_act_148 rfl ?_
            refine m_getR fl_X11_29 rfl rfl rfl dX11_act_149 ?_
            refine g_iload_n dX11_act_152 rfl ?_
            obtain ⟨⟨x26, μ28⟩, q27, h⟩ := g_bind h
            refine m_cO mt_X3_parts mo_X11_328_X10 dX11_act_153 (k_X3_parts_4_50 q27) rfl rfl rfl rfl (by decide) ⟨Nat.le_refl _, Nat.le_refl _⟩ (Nat.le_of_ble_eq_true rfl) ?_
            refine g_istore_6 rfl (Nat.le_of_ble_eq_true rfl) dX11_act_156 ?_
            refine g_goto 173 (by decide) dX11_act_158 ?_
            refine g_aload_n dX11_act_173 rfl ?_
            refine m_getR fl_X11_29 rfl rfl rfl dX11_act_174 ?_
            refine m_getI fl_X11_334 rfl rfl dX11_act_177 ?_
            refine g_if_eq 188 (by decide) dX11_act_180 (fun c29 => ?_) (fun c29 => ?_)
            · have h := g_ifp c29 h
              refine g_iload dX11_act_188 rfl ?_
              obtain rfl := Option.some.inj h
              exact g_iret rfl (Nat.le_refl _) rfl dX11_act_190 ⟨rfl, rfl⟩
            · have h := g_ifn c29 h
              refine g_bipush (v := (-15)) dX11_act_183 (by decide) ?_
              refine g_goto 190 (by decide) dX11_act_185 ?_
              obtain rfl := Option.some.inj h
              exact g_iret rfl (Nat.le_refl _) rfl dX11_act_190 ⟨rfl, rfl⟩
          have h := g_ifn c25 h
          refine g_tabOut 161 dX11_act_88 (by have nc15 := m_ne 0 0 c15 (by decide); have nc20 := m_ne 1 1 c20 (by decide); have nc25 := m_ne 2 2 c25 (by decide); omega) (by decide) ?_
          refine g_aload dX11_act_161 rfl ?_
          refine g_aload_n dX11_act_163 rfl ?_
          refine m_getR fl_X11_29 rfl rfl rfl dX11_act_164 ?_
          refine g_iload_n dX11_act_167 rfl ?_
          obtain ⟨⟨x30, μ32⟩, q31, h⟩ := g_bind h
          refine m_cO mt_X3_weds mo_X11_331_X10 dX11_act_168 (k_X3_weds_4_50 q31) rfl rfl rfl rfl (by decide) ⟨Nat.le_refl _, Nat.le_refl _⟩ (Nat.le_of_ble_eq_true rfl) ?_
          refine g_istore_6 rfl (Nat.le_of_ble_eq_true rfl) dX11_act_171 ?_
          refine g_aload_n dX11_act_173 rfl ?_
          refine m_getR fl_X11_29 rfl rfl rfl dX11_act_174 ?_
          refine m_getI fl_X11_334 rfl rfl dX11_act_177 ?_
          refine g_if_eq 188 (by decide) dX11_act_180 (fun c33 => ?_) (fun c33 => ?_)
          · have h := g_ifp c33 h
            refine g_iload dX11_act_188 rfl ?_
            obtain rfl := Option.some.inj h
            exact g_iret rfl (Nat.le_refl _) rfl dX11_act_190 ⟨rfl, rfl⟩
          · have h := g_ifn c33 h
            refine g_bipush (v := (-15)) dX11_act_183 (by decide) ?_
            refine g_goto 190 (by decide) dX11_act_185 ?_
            obtain rfl := Option.some.inj h
            exact g_iret rfl (Nat.le_refl _) rfl dX11_act_190 ⟨rfl, rfl⟩
        have h := g_ifn c14 h
        by_cases c34 : x13 = 2
        · have h := g_ifp c34 h
          refine m_aald1 2 c34 rfl (by decide) rfl dX11_act_84 ?_
          refine g_astore_5 rfl (Nat.le_of_ble_eq_true rfl) dX11_act_85 ?_
          refine g_iload_n dX11_act_87 rfl ?_
          by_cases c35 : a2 = 0
          · have h := g_ifp c35 h
            refine m_tab 0 116 c35 dX11_act_88 (by decide) (by decide) rfl (by decide) ?_
            refine g_aload dX11_act_116 rfl ?_
            refine g_aload_n dX11_act_118 rfl ?_
            refine m_getR fl_X11_29 rfl rfl rfl dX11_act_119 ?_
            refine g_iload_n dX11_act_122 rfl ?_
            obtain ⟨⟨x36, μ38⟩, q37, h⟩ := g_bind h
            refine m_cO mt_X3_glows mo_X11_319_X6 dX11_act_123 (k_X3_glows_5_50 q37) rfl rfl rfl rfl (by decide) ⟨Nat.le_refl _, Nat.le_refl _⟩ (Nat.le_of_ble_eq_true rfl) ?_
            refine g_istore_6 rfl (Nat.le_of_ble_eq_true rfl) dX11_act_126 ?_
            refine g_goto 173 (by decide) dX11_act_128 ?_
            refine g_aload_n dX11_act_173 rfl ?_
            refine m_getR fl_X11_29 rfl rfl rfl dX11_act_174 ?_
            refine m_getI fl_X11_334 rfl rfl dX11_act_177 ?_
            refine g_if_eq 188 (by decide) dX11_act_180 (fun c39 => ?_) (fun c39 => ?_)
            · have h := g_ifp c39 h
              refine g_iload dX11_act_188 rfl ?_
              obtain rfl := Option.some.inj h
              exact g_iret rfl (Nat.le_refl _) rfl dX11_act_190 ⟨rfl, rfl⟩
            · have h := g_ifn c39 h
              refine g_bipush (v := (-15)) dX11_act_183 (by decide) ?_
              refine g_goto 190 (by decide) dX11_act_185 ?_
              obtain rfl := Option.some.inj h
              exact g_iret rfl (Nat.le_refl _) rfl dX11_act_190 ⟨rfl, rfl⟩
          have h := g_ifn c35 h
          by_cases c40 : a2 = 1
          · have h := g_ifp c40 h
            refine m_tab 1 131 c40 dX11_act_88 (by decide) (by decide) rfl (by decide) ?_
            refine g_aload dX11_act_131 rfl ?_
            refine g_aload_n dX11_act_133 rfl ?_
            refine m_getR fl_X11_29 rfl rfl rfl dX11_act_134 ?_
            refine g_iload_n dX11_act_137 rfl ?_
            obtain ⟨⟨x41, μ43⟩, q42, h⟩ := g_bind h
            refine m_cO mt_X6_longs mo_X11_325_X6 dX11_act_138 (k_X6_longs_5_50 q42) rfl rfl rfl rfl (by decide) ⟨Nat.le_refl _, Nat.le_refl _⟩ (Nat.le_of_ble_eq_true rfl) ?_
            refine g_istore_6 rfl (Nat.le_of_ble_eq_true rfl) dX11_act_141 ?_
            refine g_goto 173 (by decide) dX11_act_143 ?_
            refine g_aload_n dX11_act_173 rfl ?_
            refine m_getR fl_X11_29 rfl rfl rfl dX11_act_174 ?_
            refine m_getI fl_X11_334 rfl rfl dX11_act_177 ?_
            refine g_if_eq 188 (by decide) dX11_act_180 (fun c44 => ?_) (fun c44 => ?_)
            · have h := g_ifp c44 h
              refine g_iload dX11_act_188 rfl ?_
              obtain rfl := Option.some.inj h
              exact g_iret rfl (Nat.le_refl _) rfl dX11_act_190 ⟨rfl, rfl⟩
            · have h := g_ifn c44 h
              refine g_bipush (v := (-15)) dX11_act_183 (by decide) ?_
              refine g_goto 190 (by decide) dX11_act_185 ?_
              obtain rfl := Option.some.inj h
              exact g_iret rfl (Nat.le_refl _) rfl dX11_act_190 ⟨rfl, rfl⟩
          have h := g_ifn c40 h
          by_cases c45 : a2 = 2
          · have h := g_ifp c45 h
            refine m_tab 2 146 c45 dX11_act_88 (by decide) (by decide) rfl (by decide) ?_
            refine g_aload dX11_act_146 rfl ?_
            refine g_aload_n dX11_act_148 rfl ?_
            refine m_getR fl_X11_29 rfl rfl rfl dX11_act_149 ?_
            refine g_iload_n dX11_act_152 rfl ?_
            obtain ⟨⟨x46, μ48⟩, q47, h⟩ := g_bind h
            refine m_cO mt_X3_parts mo_X11_328_X6 dX11_act_153 (k_X3_parts_5_50 q47) rfl rfl rfl rfl (by decide) ⟨Nat.le_refl _, Nat.le_refl _⟩ (Nat.le_of_ble_eq_true rfl) ?_
            refine g_istore_6 rfl (Nat.le_of_ble_eq_true rfl) dX11_act_156 ?_
            refine g_goto 173 (by decide) dX11_act_158 ?_
            refine g_aload_n dX11_act_173 rfl ?_
            refine m_getR fl_X11_29 rfl rfl rfl dX11_act_174 ?_
            refine m_getI fl_X11_334 rfl rfl dX11_act_177 ?_
            refine g_if_eq 188 (by decide) dX11_act_180 (fun c49 => ?_) (fun c49 => ?_)
            · have h := g_ifp c49 h
              refine g_iload dX11_act_188 rfl ?_
              obtain rfl := Option.some.inj h
              exact g_iret rfl (Nat.le_refl _) rfl dX11_act_190 ⟨rfl, rfl⟩
            · have h := g_ifn c49 h
              refine g_bipush (v := (-15)) dX11_act_183 (by decide) ?_
              refine g_goto 190 (by decide) dX11_act_185 ?_
              obtain rfl := Option.some.inj h
              exact g_iret rfl (Nat.le_refl _) rfl dX11_act_190 ⟨rfl, rfl⟩
          have h := g_ifn c45 h
          refine g_tabOut 161 dX11_act_88 (by have nc35 := m_ne 0 0 c35 (by decide); have nc40 := m_ne 1 1 c40 (by decide); have nc45 := m_ne 2 2 c45 (by decide); omega) (by decide) ?_
          refine g_aload dX11_act_161 rfl ?_
          refine g_aload_n dX11_act_163 rfl ?_
          refine m_getR fl_X11_29 rfl rfl rfl dX11_act_164 ?_
          refine g_iload_n dX11_act_167 rfl ?_
          obtain ⟨⟨x50, μ52⟩, q51, h⟩ := g_bind h
          refine m_cO mt_X3_weds mo_X11_331_X6 dX11_act_168 (k_X3_weds_5_50 q51) rfl rfl rfl rfl (by decide) ⟨Nat.le_refl _, Nat.le_refl _⟩ (Nat.le_of_ble_eq_true rfl) ?_
          refine g_istore_6 rfl (Nat.le_of_ble_eq_true rfl) dX11_act_171 ?_
          refine g_aload_n dX11_act_173 rfl ?_
          refine m_getR fl_X11_29 rfl rfl rfl dX11_act_174 ?_
          refine m_getI fl_X11_334 rfl rfl dX11_act_177 ?_
          refine g_if_eq 188 (by decide) dX11_act_180 (fun c53 => ?_) (fun c53 => ?_)
          · have h := g_ifp c53 h
            refine g_iload dX11_act_188 rfl ?_
            obtain rfl := Option.some.inj h
            exact g_iret rfl (Nat.le_refl _) rfl dX11_act_190 ⟨rfl, rfl⟩
          · have h := g_ifn c53 h
            refine g_bipush (v := (-15)) dX11_act_183 (by decide) ?_
            refine g_goto 190 (by decide) dX11_act_185 ?_
            obtain rfl := Option.some.inj h
            exact g_iret rfl (Nat.le_refl _) rfl dX11_act_190 ⟨rfl, rfl⟩
        have h := g_ifn c34 h
        by_cases c54 : x13 = 3
        · have h := g_ifp c54 h
          refine m_aald1 3 c54 rfl (by decide) rfl dX11_act_84 ?_
          refine g_astore_5 rfl (Nat.le_of_ble_eq_true rfl) dX11_act_85 ?_
          refine g_iload_n dX11_act_87 rfl ?_
          by_cases c55 : a2 = 0
          · have h := g_ifp c55 h
            refine m_tab 0 116 c55 dX11_act_88 (by decide) (by decide) rfl (by decide) ?_
            refine g_aload dX11_act_116 rfl ?_
            refine g_aload_n dX11_act_118 rfl ?_
            refine m_getR fl_X11_29 rfl rfl rfl dX11_act_119 ?_
            refine g_iload_n dX11_act_122 rfl ?_
            obtain ⟨⟨x56, μ58⟩, q57, h⟩ := g_bind h
            refine m_cO mt_X1_glows mo_X11_319_X1 dX11_act_123 (k_X1_glows_6_50 q57) rfl rfl rfl rfl (by decide) ⟨Nat.le_refl _, Nat.le_refl _⟩ (Nat.le_of_ble_eq_true rfl) ?_
            refine g_istore_6 rfl (Nat.le_of_ble_eq_true rfl) dX11_act_126 ?_
            refine g_goto 173 (by decide) dX11_act_128 ?_
            refine g_aload_n dX11_act_173 rfl ?_
            refine m_getR fl_X11_29 rfl rfl rfl dX11_act_174 ?_
            refine m_getI fl_X11_334 rfl rfl dX11_act_177 ?_
            refine g_if_eq 188 (by decide) dX11_act_180 (fun c59 => ?_) (fun c59 => ?_)
            · have h := g_ifp c59 h
              refine g_iload dX11_act_188 rfl ?_
              obtain rfl := Option.some.inj h
              exact g_iret rfl (Nat.le_refl _) rfl dX11_act_190 ⟨rfl, rfl⟩
            · have h := g_ifn c59 h
              refine g_bipush (v := (-15)) dX11_act_183 (by decide) ?_
              refine g_goto 190 (by decide) dX11_act_185 ?_
              obtain rfl := Option.some.inj h
              exact g_iret rfl (Nat.le_refl _) rfl dX11_act_190 ⟨rfl, rfl⟩
          have h := g_ifn c55 h
          by_cases c60 : a2 = 1
          · have h := g_ifp c60 h
            refine m_tab 1 131 c60 dX11_act_88 (by decide) (by decide) rfl (by decide) ?_
            refine g_aload dX11_act_131 rfl ?_
            refine g_aload_n dX11_act_133 rfl ?_
            refine m_getR fl_X11_29 rfl rfl rfl dX11_act_134 ?_
            refine g_iload_n dX11_act_137 rfl ?_
            obtain ⟨⟨x61, μ63⟩, q62, h⟩ := g_bind h
            refine m_cO mt_X6_longs mo_X11_325_X1 dX11_act_138 (k_X6_longs_6_50 q62) rfl rfl rfl rfl (by decide) ⟨Nat.le_refl _, Nat.le_refl _⟩ (Nat.le_of_ble_eq_true rfl) ?_
            refine g_istore_6 rfl (Nat.le_of_ble_eq_true rfl) dX11_act_141 ?_
            refine g_goto 173 (by decide) dX11_act_143 ?_
            refine g_aload_n dX11_act_173 rfl ?_
            refine m_getR fl_X11_29 rfl rfl rfl dX11_act_174 ?_
            refine m_getI fl_X11_334 rfl rfl dX11_act_177 ?_
            refine g_if_eq 188 (by decide) dX11_act_180 (fun c64 => ?_) (fun c64 => ?_)
            · have h := g_ifp c64 h
              refine g_iload dX11_act_188 rfl ?_
              obtain rfl := Option.some.inj h
              exact g_iret rfl (Nat.le_refl _) rfl dX11_act_190 ⟨rfl, rfl⟩
            · have h := g_ifn c64 h
              refine g_bipush (v := (-15)) dX11_act_183 (by decide) ?_
              refine g_goto 190 (by decide) dX11_act_185 ?_
              obtain rfl := Option.some.inj h
              exact g_iret rfl (Nat.le_refl _) rfl dX11_act_190 ⟨rfl, rfl⟩
          have h := g_ifn c60 h
          by_cases c65 : a2 = 2
          · have h := g_ifp c65 h
            refine m_tab 2 146 c65 dX11_act_88 (by decide) (by decide) rfl (by decide) ?_
            refine g_aload dX11_act_146 rfl ?_
            refine g_aload_n dX11_act_148 rfl ?_
            refine m_getR fl_X11_29 rfl rfl rfl dX11_act_149 ?_
            refine g_iload_n dX11_act_152 rfl ?_
            obtain ⟨⟨x66, μ68⟩, q67, h⟩ := g_bind h
            refine m_cO mt_X3_parts mo_X11_328_X1 dX11_act_153 (k_X3_parts_6_50 q67) rfl rfl rfl rfl (by decide) ⟨Nat.le_refl _, Nat.le_refl _⟩ (Nat.le_of_ble_eq_true rfl) ?_
            refine g_istore_6 rfl (Nat.le_of_ble_eq_true rfl) dX11_act_156 ?_
            refine g_goto 173 (by decide) dX11_act_158 ?_
            refine g_aload_n dX11_act_173 rfl ?_
            refine m_getR fl_X11_29 rfl rfl rfl dX11_act_174 ?_
            refine m_getI fl_X11_334 rfl rfl dX11_act_177 ?_
            refine g_if_eq 188 (by decide) dX11_act_180 (fun c69 => ?_) (fun c69 => ?_)
            · have h := g_ifp c69 h
              refine g_iload dX11_act_188 rfl ?_
              obtain rfl := Option.some.inj h
              exact g_iret rfl (Nat.le_refl _) rfl dX11_act_190 ⟨rfl, rfl⟩
            · have h := g_ifn c69 h
              refine g_bipush (v := (-15)) dX11_act_183 (by decide) ?_
              refine g_goto 190 (by decide) dX11_act_185 ?_
              obtain rfl := Option.some.inj h
              exact g_iret rfl (Nat.le_refl _) rfl dX11_act_190 ⟨rfl, rfl⟩
          have h := g_ifn c65 h
          refine g_tabOut 161 dX11_act_88 (by have nc55 := m_ne 0 0 c55 (by decide); have nc60 := m_ne 1 1 c60 (by decide); have nc65 := m_ne 2 2 c65 (by decide); omega) (by decide) ?_
          refine g_aload dX11_act_161 rfl ?_
          refine g_aload_n dX11_act_163 rfl ?_
          refine m_getR fl_X11_29 rfl rfl rfl dX11_act_164 ?_
          refine g_iload_n dX11_act_167 rfl ?_
          obtain ⟨⟨x70, μ72⟩, q71, h⟩ := g_bind h
          refine m_cO mt_X1_weds mo_X11_331_X1 dX11_act_168 (k_X1_weds_6_50 q71) rfl rfl rfl rfl (by decide) ⟨Nat.le_refl _, Nat.le_refl _⟩ (Nat.le_of_ble_eq_true rfl) ?_
          refine g_istore_6 rfl (Nat.le_of_ble_eq_true rfl) dX11_act_171 ?_
          refine g_aload_n dX11_act_173 rfl ?_
          refine m_getR fl_X11_29 rfl rfl rfl dX11_act_174 ?_
          refine m_getI fl_X11_334 rfl rfl dX11_act_177 ?_
          refine g_if_eq 188 (by decide) dX11_act_180 (fun c73 => ?_) (fun c73 => ?_)
          · have h := g_ifp c73 h
            refine g_iload dX11_act_188 rfl ?_
            obtain rfl := Option.some.inj h
            exact g_iret rfl (Nat.le_refl _) rfl dX11_act_190 ⟨rfl, rfl⟩
          · have h := g_ifn c73 h
            refine g_bipush (v := (-15)) dX11_act_183 (by decide) ?_
            refine g_goto 190 (by decide) dX11_act_185 ?_
            obtain rfl := Option.some.inj h
            exact g_iret rfl (Nat.le_refl _) rfl dX11_act_190 ⟨rfl, rfl⟩
        have h := g_ifn c54 h
        by_cases c74 : x13 = 4
        · have h := g_ifp c74 h
          refine m_aald1 4 c74 rfl (by decide) rfl dX11_act_84 ?_
          refine g_astore_5 rfl (Nat.le_of_ble_eq_true rfl) dX11_act_85 ?_
          refine g_iload_n dX11_act_87 rfl ?_
          by_cases c75 : a2 = 0
          · have h := g_ifp c75 h
            refine m_tab 0 116 c75 dX11_act_88 (by decide) (by decide) rfl (by decide) ?_
            refine g_aload dX11_act_116 rfl ?_
            refine g_aload_n dX11_act_118 rfl ?_
            refine m_getR fl_X11_29 rfl rfl rfl dX11_act_119 ?_
            refine g_iload_n dX11_act_122 rfl ?_
            obtain ⟨⟨x76, μ78⟩, q77, h⟩ := g_bind h
            refine m_cO mt_X3_glows mo_X11_319_X4 dX11_act_123 (k_X3_glows_7_50 q77) rfl rfl rfl rfl (by decide) ⟨Nat.le_refl _, Nat.le_refl _⟩ (Nat.le_of_ble_eq_true rfl) ?_
            refine g_istore_6 rfl (Nat.le_of_ble_eq_true rfl) dX11_act_126 ?_
            refine g_goto 173 (by decide) dX11_act_128 ?_
            refine g_aload_n dX11_act_173 rfl ?_
            refine m_getR fl_X11_29 rfl rfl rfl dX11_act_174 ?_
            refine m_getI fl_X11_334 rfl rfl dX11_act_177 ?_
            refine g_if_eq 188 (by decide) dX11_act_180 (fun c79 => ?_) (fun c79 => ?_)
            · have h := g_ifp c79 h
              refine g_iload dX11_act_188 rfl ?_
              obtain rfl := Option.some.inj h
              exact g_iret rfl (Nat.le_refl _) rfl dX11_act_190 ⟨rfl, rfl⟩
            · have h := g_ifn c79 h
              refine g_bipush (v := (-15)) dX11_act_183 (by decide) ?_
              refine g_goto 190 (by decide) dX11_act_185 ?_
              obtain rfl := Option.some.inj h
              exact g_iret rfl (Nat.le_refl _) rfl dX11_act_190 ⟨rfl, rfl⟩
          have h := g_ifn c75 h
          by_cases c80 : a2 = 1
          · have h := g_ifp c80 h
            refine m_tab 1 131 c80 dX11_act_88 (by decide) (by decide) rfl (by decide) ?_
            refine g_aload dX11_act_131 rfl ?_
            refine g_aload_n dX11_act_133 rfl ?_
            refine m_getR fl_X11_29 rfl rfl rfl dX11_act_134 ?_
            refine g_iload_n dX11_act_137 rfl ?_
            obtain ⟨⟨x81, μ83⟩, q82, h⟩ := g_bind h
            refine m_cO mt_X3_longs mo_X11_325_X4 dX11_act_138 (k_X3_longs_7_50 q82) rfl rfl rfl rfl (by decide) ⟨Nat.le_refl _, Nat.le_refl _⟩ (Nat.le_of_ble_eq_true rfl) ?_
            refine g_istore_6 rfl (Nat.le_of_ble_eq_true rfl) dX11_act_141 ?_
            refine g_goto 173 (by decide) dX11_act_143 ?_
            refine g_aload_n dX11_act_173 rfl ?_
            refine m_getR fl_X11_29 rfl rfl rfl dX11_act_174 ?_
            refine m_getI fl_X11_334 rfl rfl dX11_act_177 ?_
            refine g_if_eq 188 (by decide) dX11_act_180 (fun c84 => ?_) (fun c84 => ?_)
            · have h := g_ifp c84 h
              refine g_iload dX11_act_188 rfl ?_
              obtain rfl := Option.some.inj h
              exact g_iret rfl (Nat.le_refl _) rfl dX11_act_190 ⟨rfl, rfl⟩
            · have h := g_ifn c84 h
              refine g_bipush (v := (-15)) dX11_act_183 (by decide) ?_
              refine g_goto 190 (by decide) dX11_act_185 ?_
              obtain rfl := Option.some.inj h
              exact g_iret rfl (Nat.le_refl _) rfl dX11_act_190 ⟨rfl, rfl⟩
          have h := g_ifn c80 h
          by_cases c85 : a2 = 2
          · have h := g_ifp c85 h
            refine m_tab 2 146 c85 dX11_act_88 (by decide) (by decide) rfl (by decide) ?_
            refine g_aload dX11_act_146 rfl ?_
            refine g_aload_n dX11_act_148 rfl ?_
            refine m_getR fl_X11_29 rfl rfl rfl dX11_act_149 ?_
            refine g_iload_n dX11_act_152 rfl ?_
            obtain ⟨⟨x86, μ88⟩, q87, h⟩ := g_bind h
            refine m_cO mt_X4_parts mo_X11_328_X4 dX11_act_153 (k_X4_parts_7_50 q87) rfl rfl rfl rfl (by decide) ⟨Nat.le_refl _, Nat.le_refl _⟩ (Nat.le_of_ble_eq_true rfl) ?_
            refine g_istore_6 rfl (Nat.le_of_ble_eq_true rfl) dX11_act_156 ?_
            refine g_goto 173 (by decide) dX11_act_158 ?_
            refine g_aload_n dX11_act_173 rfl ?_
            refine m_getR fl_X11_29 rfl rfl rfl dX11_act_174 ?_
            refine m_getI fl_X11_334 rfl rfl dX11_act_177 ?_
            refine g_if_eq 188 (by decide) dX11_act_180 (fun c89 => ?_) (fun c89 => ?_)
            · have h := g_ifp c89 h
              refine g_iload dX11_act_188 rfl ?_
              obtain rfl := Option.some.inj h
              exact g_iret rfl (Nat.le_refl _) rfl dX11_act_190 ⟨rfl, rfl⟩
            · have h := g_ifn c89 h
              refine g_bipush (v := (-15)) dX11_act_183 (by decide) ?_
              refine g_goto 190 (by decide) dX11_act_185 ?_
              obtain rfl := Option.some.inj h
              exact g_iret rfl (Nat.le_refl _) rfl dX11_act_190 ⟨rfl, rfl⟩
          have h := g_ifn c85 h
          refine g_tabOut 161 dX11_act_88 (by have nc75 := m_ne 0 0 c75 (by decide); have nc80 := m_ne 1 1 c80 (by decide); have nc85 := m_ne 2 2 c85 (by decide); omega) (by decide) ?_
          refine g_aload dX11_act_161 rfl ?_
          refine g_aload_n dX11_act_163 rfl ?_
          refine m_getR fl_X11_29 rfl rfl rfl dX11_act_164 ?_
          refine g_iload_n dX11_act_167 rfl ?_
          obtain ⟨⟨x90, μ92⟩, q91, h⟩ := g_bind h
          refine m_cO mt_X3_weds mo_X11_331_X4 dX11_act_168 (k_X3_weds_7_50 q91) rfl rfl rfl rfl (by decide) ⟨Nat.le_refl _, Nat.le_refl _⟩ (Nat.le_of_ble_eq_true rfl) ?_
          refine g_istore_6 rfl (Nat.le_of_ble_eq_true rfl) dX11_act_171 ?_
          refine g_aload_n dX11_act_173 rfl ?_
          refine m_getR fl_X11_29 rfl rfl rfl dX11_act_174 ?_
          refine m_getI fl_X11_334 rfl rfl dX11_act_177 ?_
          refine g_if_eq 188 (by decide) dX11_act_180 (fun c93 => ?_) (fun c93 => ?_)
          · have h := g_ifp c93 h
            refine g_iload dX11_act_188 rfl ?_
            obtain rfl := Option.some.inj h
            exact g_iret rfl (Nat.le_refl _) rfl dX11_act_190 ⟨rfl, rfl⟩
          · have h := g_ifn c93 h
            refine g_bipush (v := (-15)) dX11_act_183 (by decide) ?_
            refine g_goto 190 (by decide) dX11_act_185 ?_
            obtain rfl := Option.some.inj h
            exact g_iret rfl (Nat.le_refl _) rfl dX11_act_190 ⟨rfl, rfl⟩
        have h := g_ifn c74 h
        by_cases c94 : x13 = 5
        · have h := g_ifp c94 h
          refine m_aald1 5 c94 rfl (by decide) rfl dX11_act_84 ?_
          refine g_astore_5 rfl (Nat.le_of_ble_eq_true rfl) dX11_act_85 ?_
          refine g_iload_n dX11_act_87 rfl ?_
          by_cases c95 : a2 = 0
          · have h := g_ifp c95 h
            refine m_tab 0 116 c95 dX11_act_88 (by decide) (by decide) rfl (by decide) ?_
            refine g_aload dX11_act_116 rfl ?_
            refine g_aload_n dX11_act_118 rfl ?_
            refine m_getR fl_X11_29 rfl rfl rfl dX11_act_119 ?_
            refine g_iload_n dX11_act_122 rfl ?_
            obtain ⟨⟨x96, μ98⟩, q97, h⟩ := g_bind h
            refine m_cO mt_X3_glows mo_X11_319_X5 dX11_act_123 (k_X3_glows_8_50 q97) rfl rfl rfl rfl (by decide) ⟨Nat.le_refl _, Nat.le_refl _⟩ (Nat.le_of_ble_eq_true rfl) ?_
            refine g_istore_6 rfl (Nat.le_of_ble_eq_true rfl) dX11_act_126 ?_
            refine g_goto 173 (by decide) dX11_act_128 ?_
            refine g_aload_n dX11_act_173 rfl ?_
            refine m_getR fl_X11_29 rfl rfl rfl dX11_act_174 ?_
            refine m_getI fl_X11_334 rfl rfl dX11_act_177 ?_
            refine g_if_eq 188 (by decide) dX11_act_180 (fun c99 => ?_) (fun c99 => ?_)
            · have h := g_ifp c99 h
              refine g_iload dX11_act_188 rfl ?_
              obtain rfl := Option.some.inj h
              exact g_iret rfl (Nat.le_refl _) rfl dX11_act_190 ⟨rfl, rfl⟩
            · have h := g_ifn c99 h
              refine g_bipush (v := (-15)) dX11_act_183 (by decide) ?_
              refine g_goto 190 (by decide) dX11_act_185 ?_
              obtain rfl := Option.some.inj h
              exact g_iret rfl (Nat.le_refl _) rfl dX11_act_190 ⟨rfl, rfl⟩
          have h := g_ifn c95 h
          by_cases c100 : a2 = 1
          · have h := g_ifp c100 h
            refine m_tab 1 131 c100 dX11_act_88 (by decide) (by decide) rfl (by decide) ?_
            refine g_aload dX11_act_131 rfl ?_
            refine g_aload_n dX11_act_133 rfl ?_
            refine m_getR fl_X11_29 rfl rfl rfl dX11_act_134 ?_
            refine g_iload_n dX11_act_137 rfl ?_
            obtain ⟨⟨x101, μ103⟩, q102, h⟩ := g_bind h
            refine m_cO mt_X5_longs mo_X11_325_X5 dX11_act_138 (k_X5_longs_8_50 q102) rfl rfl rfl rfl (by decide) ⟨Nat.le_refl _, Nat.le_refl _⟩ (Nat.le_of_ble_eq_true rfl) ?_
            refine g_istore_6 rfl (Nat.le_of_ble_eq_true rfl) dX11_act_141 ?_
            refine g_goto 173 (by decide) dX11_act_143 ?_
            refine g_aload_n dX11_act_173 rfl ?_
            refine m_getR fl_X11_29 rfl rfl rfl dX11_act_174 ?_
            refine m_getI fl_X11_334 rfl rfl dX11_act_177 ?_
            refine g_if_eq 188 (by decide) dX11_act_180 (fun c104 => ?_) (fun c104 => ?_)
            · have h := g_ifp c104 h
              refine g_iload dX11_act_188 rfl ?_
              obtain rfl := Option.some.inj h
              exact g_iret rfl (Nat.le_refl _) rfl dX11_act_190 ⟨rfl, rfl⟩
            · have h := g_ifn c104 h
              refine g_bipush (v := (-15)) dX11_act_183 (by decide) ?_
              refine g_goto 190 (by decide) dX11_act_185 ?_
              obtain rfl := Option.some.inj h
              exact g_iret rfl (Nat.le_refl _) rfl dX11_act_190 ⟨rfl, rfl⟩
          have h := g_ifn c100 h
          by_cases c105 : a2 = 2
          · have h := g_ifp c105 h
            refine m_tab 2 146 c105 dX11_act_88 (by decide) (by decide) rfl (by decide) ?_
            refine g_aload dX11_act_146 rfl ?_
            refine g_aload_n dX11_act_148 rfl ?_
            refine m_getR fl_X11_29 rfl rfl rfl dX11_act_149 ?_
            refine g_iload_n dX11_act_152 rfl ?_
            obtain ⟨⟨x106, μ108⟩, q107, h⟩ := g_bind h
            refine m_cO mt_X5_parts mo_X11_328_X5 dX11_act_153 (k_X5_parts_8_50 q107) rfl rfl rfl rfl (by decide) ⟨Nat.le_refl _, Nat.le_refl _⟩ (Nat.le_of_ble_eq_true rfl) ?_
            refine g_istore_6 rfl (Nat.le_of_ble_eq_true rfl) dX11_act_156 ?_
            refine g_goto 173 (by decide) dX11_act_158 ?_
            refine g_aload_n dX11_act_173 rfl ?_
            refine m_getR fl_X11_29 rfl rfl rfl dX11_act_174 ?_
            refine m_getI fl_X11_334 rfl rfl dX11_act_177 ?_
            refine g_if_eq 188 (by decide) dX11_act_180 (fun c109 => ?_) (fun c109 => ?_)
            · have h := g_ifp c109 h
              refine g_iload dX11_act_188 rfl ?_
              obtain rfl := Option.some.inj h
              exact g_iret rfl (Nat.le_refl _) rfl dX11_act_190 ⟨rfl, rfl⟩
            · have h := g_ifn c109 h
              refine g_bipush (v := (-15)) dX11_act_183 (by decide) ?_
              refine g_goto 190 (by decide) dX11_act_185 ?_
              obtain rfl := Option.some.inj h
              exact g_iret rfl (Nat.le_refl _) rfl dX11_act_190 ⟨rfl, rfl⟩
          have h := g_ifn c105 h
          refine g_tabOut 161 dX11_act_88 (by have nc95 := m_ne 0 0 c95 (by decide); have nc100 := m_ne 1 1 c100 (by decide); have nc105 := m_ne 2 2 c105 (by decide); omega) (by decide) ?_
          refine g_aload dX11_act_161 rfl ?_
          refine g_aload_n dX11_act_163 rfl ?_
          refine m_getR fl_X11_29 rfl rfl rfl dX11_act_164 ?_
          refine g_iload_n dX11_act_167 rfl ?_
          obtain ⟨⟨x110, μ112⟩, q111, h⟩ := g_bind h
          refine m_cO mt_X3_weds mo_X11_331_X5 dX11_act_168 (k_X3_weds_8_50 q111) rfl rfl rfl rfl (by decide) ⟨Nat.le_refl _, Nat.le_refl _⟩ (Nat.le_of_ble_eq_true rfl) ?_
          refine g_istore_6 rfl (Nat.le_of_ble_eq_true rfl) dX11_act_171 ?_
          refine g_aload_n dX11_act_173 rfl ?_
          refine m_getR fl_X11_29 rfl rfl rfl dX11_act_174 ?_
          refine m_getI fl_X11_334 rfl rfl dX11_act_177 ?_
          refine g_if_eq 188 (by decide) dX11_act_180 (fun c113 => ?_) (fun c113 => ?_)
          · have h := g_ifp c113 h
            refine g_iload dX11_act_188 rfl ?_
            obtain rfl := Option.some.inj h
            exact g_iret rfl (Nat.le_refl _) rfl dX11_act_190 ⟨rfl, rfl⟩
          · have h := g_ifn c113 h
            refine g_bipush (v := (-15)) dX11_act_183 (by decide) ?_
            refine g_goto 190 (by decide) dX11_act_185 ?_
            obtain rfl := Option.some.inj h
            exact g_iret rfl (Nat.le_refl _) rfl dX11_act_190 ⟨rfl, rfl⟩
        have h := g_ifn c94 h
        cases h
      · have h := g_ifn c8 h
        refine g_ic0 dX11_act_31 ?_
        obtain rfl := Option.some.inj h
        exact g_iret rfl (Nat.le_refl _) rfl dX11_act_32 ⟨rfl, rfl⟩
