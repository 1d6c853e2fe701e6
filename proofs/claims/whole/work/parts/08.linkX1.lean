set_option maxRecDepth 100000 in
set_option maxHeartbeats 4000000 in
theorem k_X2_bestSetting_11_L14 {D : va_G} {cA : Nat → ClassId} {b b2 k : Nat} {dyn : Nat → Nat} {t s : Nat} {L : Nat} {Q : Option Value → g_S → Prop} {N : Nat} (hR : g_RO (g_XX D cA b b2 dyn) k (g_rfX t s) t L) : ∀ (n : Nat) (x_2 : Int32) (x_3 : Int32) (x_4 : Int32) (x_5 : Int32) (x_6 : Int32) (x_7 : Int32) (μ : g_M) (z_6 : Int32) (z_μ : g_M), f_X2_bestSetting_11_L14 N t L n x_2 x_3 x_4 x_5 x_6 x_7 μ = some (z_6, z_μ) → g_V (g_XX D cA b b2 dyn) Y_X2_bestSetting 7 0 0 Q k 0 0 59 [some (.ref 1), some (.ref 11), some (.int x_2), none, some (.int x_4), none, some (.int z_6), none, none] [] (z_μ, (g_rfX t s)) → g_V (g_XX D cA b b2 dyn) Y_X2_bestSetting 7 0 0 Q k 0 0 14 [some (.ref 1), some (.ref 11), some (.int x_2), some (.int x_3), some (.int x_4), some (.int x_5), some (.int x_6), some (.int x_7), none] [] (μ, (g_rfX t s)) := by
  intro n
  induction n with
  | zero =>
    intro x_2 x_3 x_4 x_5 x_6 x_7 μ z_6 z_μ h
    rw [f_X2_bestSetting_11_L14] at h
    cases h
  | succ n ih =>
    intro x_2 x_3 x_4 x_5 x_6 x_7 μ z_6 z_μ h hc
    rw [f_X2_bestSetting_11_L14] at h
    refine g_iload dX2_bestSetting_14 rfl ?_
    refine g_iload_n dX2_bestSetting_16 rfl ?_
    refine g_icmp_gt 59 (by decide) dX2_bestSetting_17 (fun c2 => ?_) (fun c2 => ?_)
    · have h := g_ifp c2 h
      obtain ⟨rfl, rfl⟩ := g_inj2 h
      exact g_less _ (g_subS (g_subS (g_subS (g_subN (g_subS (g_subN (g_subS (g_subN (g_subN g_sub0))))))))) hc
    · have h := g_ifn c2 h
      refine g_aload_n dX2_bestSetting_20 rfl ?_
      refine g_iload_n dX2_bestSetting_21 rfl ?_
      refine g_iload dX2_bestSetting_22 rfl ?_
      obtain ⟨μ3, qμ3, h⟩ := g_bind h
      refine m_iast rfl qμ3 dX2_bestSetting_24 ?_
      refine g_aload_n dX2_bestSetting_25 rfl ?_
      refine g_iload_n dX2_bestSetting_26 rfl ?_
      obtain ⟨μ6, q5, h⟩ := g_bind h
      refine m_cVv mt_X9_settle ml_X2_42 mv_X9_settle dX2_bestSetting_27 (k_X9_settle hR q5) rfl rfl rfl rfl (by decide) ⟨Nat.le_refl _, Nat.le_refl _⟩ (Nat.le_of_ble_eq_true rfl) ?_
      refine g_aload_n dX2_bestSetting_30 rfl ?_
      refine g_bipush (v := 16) dX2_bestSetting_31 (by decide) ?_
      obtain ⟨⟨x7, μ9⟩, q8, h⟩ := g_bind h
      refine m_cS mt_X2_restWorth ml_X2_46 ms_X2_restWorth dX2_bestSetting_33 (k_X2_restWorth q8) rfl rfl (by decide) ⟨Nat.le_refl _, Nat.le_refl _⟩ (Nat.le_of_ble_eq_true rfl) ?_
      refine g_istore_8 rfl (Nat.le_of_ble_eq_true rfl) dX2_bestSetting_36 ?_
      refine g_iload dX2_bestSetting_38 rfl ?_
      refine g_iload dX2_bestSetting_40 rfl ?_
      refine g_icmp_le 53 (by decide) dX2_bestSetting_42 (fun c10 => ?_) (fun c10 => ?_)
      · have h := g_ifp c10 h
        refine g_iinc_7 (v := 1) rfl (by decide) (Nat.le_of_ble_eq_true rfl) dX2_bestSetting_53 ?_
        refine g_goto 14 (by decide) dX2_bestSetting_56 ?_
        exact g_less _ (g_subS (g_subS (g_subS (g_subS (g_subS (g_subS (g_subS (g_subS (g_subN g_sub0))))))))) (ih _ _ _ _ _ _ _ _ _ h hc)
      · have h := g_ifn c10 h
        refine g_iload dX2_bestSetting_45 rfl ?_
        refine g_istore_5 rfl (Nat.le_of_ble_eq_true rfl) dX2_bestSetting_47 ?_
        refine g_iload dX2_bestSetting_49 rfl ?_
        refine g_istore_6 rfl (Nat.le_of_ble_eq_true rfl) dX2_bestSetting_51 ?_
        refine g_iinc_7 (v := 1) rfl (by decide) (Nat.le_of_ble_eq_true rfl) dX2_bestSetting_53 ?_
        refine g_goto 14 (by decide) dX2_bestSetting_56 ?_
        exact g_less _ (g_subS (g_subS (g_subS (g_subS (g_subS (g_subS (g_subS (g_subS (g_subN g_sub0))))))))) (ih _ _ _ _ _ _ _ _ _ h hc)
set_option maxRecDepth 100000 in
set_option maxHeartbeats 4000000 in
theorem k_X2_bestSetting_11 {D : va_G} {cA : Nat → ClassId} {b b2 k : Nat} {dyn : Nat → Nat} {t s : Nat} {L : Nat} {N : Nat} (hR : g_RO (g_XX D cA b b2 dyn) k (g_rfX t s) t L) {a1 : Int32} {a2 : Int32} {μ : g_M} {z : Int32 × g_M} (h : f_X2_bestSetting_11 N t L a1 a2 μ = some z) : g_K (g_XX D cA b b2 dyn) yX2_bestSetting Y_X2_bestSetting 7 0 0 k [.ref 1, .ref 11, .int a1, .int a2] (μ, (g_rfX t s)) (fun r1 σ1 => r1 = some (.int z.1) ∧ σ1 = (z.2, (g_rfX t s))) := by
  unfold f_X2_bestSetting_11 at h
  refine g_met 5 (by decide) rfl rfl (Nat.le_of_ble_eq_true rfl) ?_
  refine g_aload_n dX2_bestSetting_0 rfl ?_
  refine g_iload_n dX2_bestSetting_1 rfl ?_
  obtain ⟨x1, qx1, h⟩ := g_bind h
  refine m_iald rfl qx1 dX2_bestSetting_2 ?_
  refine g_istore_4 rfl (Nat.le_of_ble_eq_true rfl) dX2_bestSetting_3 ?_
  refine g_icm1 dX2_bestSetting_5 ?_
  refine g_istore_5 rfl (Nat.le_of_ble_eq_true rfl) dX2_bestSetting_6 ?_
  refine g_ic0 dX2_bestSetting_8 ?_
  refine g_istore_6 rfl (Nat.le_of_ble_eq_true rfl) dX2_bestSetting_9 ?_
  refine g_ic0 dX2_bestSetting_11 ?_
  refine g_istore_7 rfl (Nat.le_of_ble_eq_true rfl) dX2_bestSetting_12 ?_
  obtain ⟨⟨x2, μ3⟩, q4, h⟩ := g_bind h
  refine g_less _ (g_subS (g_subS (g_subS (g_subS (g_subS (g_subS (g_subS (g_subS (g_subN g_sub0))))))))) (k_X2_bestSetting_11_L14 hR _ _ _ _ _ _ _ _ _ _ q4 ?_)
  refine g_aload_n dX2_bestSetting_59 rfl ?_
  refine g_iload_n dX2_bestSetting_60 rfl ?_
  refine g_iload dX2_bestSetting_61 rfl ?_
  obtain ⟨μ5, qμ5, h⟩ := g_bind h
  refine m_iast rfl qμ5 dX2_bestSetting_63 ?_
  refine g_aload_n dX2_bestSetting_64 rfl ?_
  refine g_iload_n dX2_bestSetting_65 rfl ?_
  obtain ⟨μ8, q7, h⟩ := g_bind h
  refine m_cVv mt_X9_settle ml_X2_42 mv_X9_settle dX2_bestSetting_66 (k_X9_settle hR q7) rfl rfl rfl rfl (by decide) ⟨Nat.le_refl _, Nat.le_refl _⟩ (Nat.le_of_ble_eq_true rfl) ?_
  refine g_iload dX2_bestSetting_69 rfl ?_
  obtain rfl := Option.some.inj h
  exact g_iret rfl (Nat.le_refl _) rfl dX2_bestSetting_71 ⟨rfl, rfl⟩
set_option maxRecDepth 100000 in
set_option maxHeartbeats 4000000 in
theorem k_X11_placeFor {D : va_G} {cA : Nat → ClassId} {b b2 k : Nat} {dyn : Nat → Nat} {t s : Nat} {L : Nat} {N : Nat} (hR : g_RO (g_XX D cA b b2 dyn) k (g_rfX t s) t L) {a1 : Int32} {μ : g_M} {z : Int32 × g_M} (h : f_X11_placeFor N t L a1 μ = some z) : g_K (g_XX D cA b b2 dyn) yX11_placeFor Y_X11_placeFor 8 0 0 k [.ref 0, .int a1] (μ, (g_rfX t s)) (fun r1 σ1 => r1 = some (.int z.1) ∧ σ1 = (z.2, (g_rfX t s))) := by
  unfold f_X11_placeFor at h
  refine g_met 0 (by decide) rfl rfl (Nat.le_of_ble_eq_true rfl) ?_
  refine g_aload_n dX11_placeFor_0 rfl ?_
  refine g_iload_n dX11_placeFor_1 rfl ?_
  refine m_cV mt_X11_isOven ml_X11_78 mv_X11_isOven dX11_placeFor_2 (k_X11_isOven rfl) rfl rfl rfl rfl (by decide) ⟨Nat.le_refl _, Nat.le_refl _⟩ (Nat.le_of_ble_eq_true rfl) ?_
  refine g_if_eq 28 (by decide) dX11_placeFor_5 (fun c1 => ?_) (fun c1 => ?_)
  · have h := g_ifp c1 h
    refine g_icm1 dX11_placeFor_28 ?_
    obtain rfl := Option.some.inj h
    exact g_iret rfl (Nat.le_refl _) rfl dX11_placeFor_29 ⟨rfl, rfl⟩
  · have h := g_ifn c1 h
    refine g_aload_n dX11_placeFor_8 rfl ?_
    refine m_getR fl_X11_10 rfl rfl rfl dX11_placeFor_9 ?_
    refine g_aload_n dX11_placeFor_12 rfl ?_
    refine m_getR fl_X11_10 rfl rfl rfl dX11_placeFor_13 ?_
    refine m_getR fl_X11_87 rfl rfl rfl dX11_placeFor_16 ?_
    refine g_iload_n dX11_placeFor_19 rfl ?_
    refine g_bipush (v := 15) dX11_placeFor_20 (by decide) ?_
    obtain ⟨⟨x2, μ4⟩, q3, h⟩ := g_bind h
    refine m_cS mt_X2_bestSetting ml_X11_180 ms_X2_bestSetting dX11_placeFor_22 (k_X2_bestSetting_11 hR q3) rfl rfl (by decide) ⟨Nat.le_refl _, Nat.le_refl _⟩ (Nat.le_of_ble_eq_true rfl) ?_
    refine g_goto 29 (by decide) dX11_placeFor_25 ?_
    obtain rfl := Option.some.inj h
    exact g_iret rfl (Nat.le_refl _) rfl dX11_placeFor_29 ⟨rfl, rfl⟩
set_option maxRecDepth 100000 in
set_option maxHeartbeats 4000000 in
theorem k_X2_bestSetting_10_L14 {D : va_G} {cA : Nat → ClassId} {b b2 k : Nat} {dyn : Nat → Nat} {t s : Nat} {L : Nat} {Q : Option Value → g_S → Prop} {N : Nat} (hR : g_RO (g_XX D cA b b2 dyn) k (g_rfX t s) t L) : ∀ (n : Nat) (x_2 : Int32) (x_3 : Int32) (x_4 : Int32) (x_5 : Int32) (x_6 : Int32) (x_7 : Int32) (μ : g_M) (z_6 : Int32) (z_μ : g_M), f_X2_bestSetting_10_L14 N t L n x_2 x_3 x_4 x_5 x_6 x_7 μ = some (z_6, z_μ) → g_V (g_XX D cA b b2 dyn) Y_X2_bestSetting 7 0 0 Q k 0 0 59 [some (.ref 1), some (.ref 10), some (.int x_2), none, some (.int x_4), none, some (.int z_6), none, none] [] (z_μ, (g_rfX t s)) → g_V (g_XX D cA b b2 dyn) Y_X2_bestSetting 7 0 0 Q k 0 0 14 [some (.ref 1), some (.ref 10), some (.int x_2), some (.int x_3), some (.int x_4), some (.int x_5), some (.int x_6), some (.int x_7), none] [] (μ, (g_rfX t s)) := by
  intro n
  induction n with
  | zero =>
    intro x_2 x_3 x_4 x_5 x_6 x_7 μ z_6 z_μ h
    rw [f_X2_bestSetting_10_L14] at h
    cases h
  | succ n ih =>
    intro x_2 x_3 x_4 x_5 x_6 x_7 μ z_6 z_μ h hc
    rw [f_X2_bestSetting_10_L14] at h
    refine g_iload dX2_bestSetting_14 rfl ?_
    refine g_iload_n dX2_bestSetting_16 rfl ?_
    refine g_icmp_gt 59 (by decide) dX2_bestSetting_17 (fun c2 => ?_) (fun c2 => ?_)
    · have h := g_ifp c2 h
      obtain ⟨rfl, rfl⟩ := g_inj2 h
      exact g_less _ (g_subS (g_subS (g_subS (g_subN (g_subS (g_subN (g_subS (g_subN (g_subN g_sub0))))))))) hc
    · have h := g_ifn c2 h
      refine g_aload_n dX2_bestSetting_20 rfl ?_
      refine g_iload_n dX2_bestSetting_21 rfl ?_
      refine g_iload dX2_bestSetting_22 rfl ?_
      obtain ⟨μ3, qμ3, h⟩ := g_bind h
      refine m_iast rfl qμ3 dX2_bestSetting_24 ?_
      refine g_aload_n dX2_bestSetting_25 rfl ?_
      refine g_iload_n dX2_bestSetting_26 rfl ?_
      obtain ⟨μ6, q5, h⟩ := g_bind h
      refine m_cVv mt_X9_settle ml_X2_42 mv_X9_settle dX2_bestSetting_27 (k_X9_settle hR q5) rfl rfl rfl rfl (by decide) ⟨Nat.le_refl _, Nat.le_refl _⟩ (Nat.le_of_ble_eq_true rfl) ?_
      refine g_aload_n dX2_bestSetting_30 rfl ?_
      refine g_bipush (v := 16) dX2_bestSetting_31 (by decide) ?_
      obtain ⟨⟨x7, μ9⟩, q8, h⟩ := g_bind h
      refine m_cS mt_X2_restWorth ml_X2_46 ms_X2_restWorth dX2_bestSetting_33 (k_X2_restWorth q8) rfl rfl (by decide) ⟨Nat.le_refl _, Nat.le_refl _⟩ (Nat.le_of_ble_eq_true rfl) ?_
      refine g_istore_8 rfl (Nat.le_of_ble_eq_true rfl) dX2_bestSetting_36 ?_
      refine g_iload dX2_bestSetting_38 rfl ?_
      refine g_iload dX2_bestSetting_40 rfl ?_
      refine g_icmp_le 53 (by decide) dX2_bestSetting_42 (fun c10 => ?_) (fun c10 => ?_)
      · have h := g_ifp c10 h
        refine g_iinc_7 (v := 1) rfl (by decide) (Nat.le_of_ble_eq_true rfl) dX2_bestSetting_53 ?_
        refine g_goto 14 (by decide) dX2_bestSetting_56 ?_
        exact g_less _ (g_subS (g_subS (g_subS (g_subS (g_subS (g_subS (g_subS (g_subS (g_subN g_sub0))))))))) (ih _ _ _ _ _ _ _ _ _ h hc)
      · have h := g_ifn c10 h
        refine g_iload dX2_bestSetting_45 rfl ?_
        refine g_istore_5 rfl (Nat.le_of_ble_eq_true rfl) dX2_bestSetting_47 ?_
        refine g_iload dX2_bestSetting_49 rfl ?_
        refine g_istore_6 rfl (Nat.le_of_ble_eq_true rfl) dX2_bestSetting_51 ?_
        refine g_iinc_7 (v := 1) rfl (by decide) (Nat.le_of_ble_eq_true rfl) dX2_bestSetting_53 ?_
        refine g_goto 14 (by decide) dX2_bestSetting_56 ?_
        exact g_less _ (g_subS (g_subS (g_subS (g_subS (g_subS (g_subS (g_subS (g_subS (g_subN g_sub0))))))))) (ih _ _ _ _ _ _ _ _ _ h hc)
set_option maxRecDepth 100000 in
set_option maxHeartbeats 4000000 in
theorem k_X2_bestSetting_10 {D : va_G} {cA : Nat → ClassId} {b b2 k : Nat} {dyn : Nat → Nat} {t s : Nat} {L : Nat} {N : Nat} (hR : g_RO (g_XX D cA b b2 dyn) k (g_rfX t s) t L) {a1 : Int32} {a2 : Int32} {μ : g_M} {z : Int32 × g_M} (h : f_X2_bestSetting_10 N t L a1 a2 μ = some z) : g_K (g_XX D cA b b2 dyn) yX2_bestSetting Y_X2_bestSetting 7 0 0 k [.ref 1, .ref 10, .int a1, .int a2] (μ, (g_rfX t s)) (fun r1 σ1 => r1 = some (.int z.1) ∧ σ1 = (z.2, (g_rfX t s))) := by
  unfold f_X2_bestSetting_10 at h
  refine g_met 5 (by decide) rfl rfl (Nat.le_of_ble_eq_true rfl) ?_
  refine g_aload_n dX2_bestSetting_0 rfl ?_
  refine g_iload_n dX2_bestSetting_1 rfl ?_
  obtain ⟨x1, qx1, h⟩ := g_bind h
  refine m_iald rfl qx1 dX2_bestSetting_2 ?_
  refine g_istore_4 rfl (Nat.le_of_ble_eq_true rfl) dX2_bestSetting_3 ?_
  refine g_icm1 dX2_bestSetting_5 ?_
  refine g_istore_5 rfl (Nat.le_of_ble_eq_true rfl) dX2_bestSetting_6 ?_
  refine g_ic0 dX2_bestSetting_8 ?_
  refine g_istore_6 rfl (Nat.le_of_ble_eq_true rfl) dX2_bestSetting_9 ?_
  refine g_ic0 dX2_bestSetting_11 ?_
  refine g_istore_7 rfl (Nat.le_of_ble_eq_true rfl) dX2_bestSetting_12 ?_
  obtain ⟨⟨x2, μ3⟩, q4, h⟩ := g_bind h
  refine g_less _ (g_subS (g_subS (g_subS (g_subS (g_subS (g_subS (g_subS (g_subS (g_subN g_sub0))))))))) (k_X2_bestSetting_10_L14 hR _ _ _ _ _ _ _ _ _ _ q4 ?_)
  refine g_aload_n dX2_bestSetting_59 rfl ?_
  refine g_iload_n dX2_bestSetting_60 rfl ?_
  refine g_iload dX2_bestSetting_61 rfl ?_
  obtain ⟨μ5, qμ5, h⟩ := g_bind h
  refine m_iast rfl qμ5 dX2_bestSetting_63 ?_
  refine g_aload_n dX2_bestSetting_64 rfl ?_
  refine g_iload_n dX2_bestSetting_65 rfl ?_
  obtain ⟨μ8, q7, h⟩ := g_bind h
  refine m_cVv mt_X9_settle ml_X2_42 mv_X9_settle dX2_bestSetting_66 (k_X9_settle hR q7) rfl rfl rfl rfl (by decide) ⟨Nat.le_refl _, Nat.le_refl _⟩ (Nat.le_of_ble_eq_true rfl) ?_
  refine g_iload dX2_bestSetting_69 rfl ?_
  obtain rfl := Option.some.inj h
  exact g_iret rfl (Nat.le_refl _) rfl dX2_bestSetting_71 ⟨rfl, rfl⟩
set_option maxRecDepth 100000 in
set_option maxHeartbeats 4000000 in
theorem k_X11_warmFor {D : va_G} {cA : Nat → ClassId} {b b2 k : Nat} {dyn : Nat → Nat} {t s : Nat} {L : Nat} {N : Nat} (hR : g_RO (g_XX D cA b b2 dyn) k (g_rfX t s) t L) {a1 : Int32} {μ : g_M} {z : Int32 × g_M} (h : f_X11_warmFor N t L a1 μ = some z) : g_K (g_XX D cA b b2 dyn) yX11_warmFor Y_X11_warmFor 8 0 0 k [.ref 0, .int a1] (μ, (g_rfX t s)) (fun r1 σ1 => r1 = some (.int z.1) ∧ σ1 = (z.2, (g_rfX t s))) := by
  unfold f_X11_warmFor at h
  refine g_met 0 (by decide) rfl rfl (Nat.le_of_ble_eq_true rfl) ?_
  refine g_aload_n dX11_warmFor_0 rfl ?_
  refine g_iload_n dX11_warmFor_1 rfl ?_
  refine m_cV mt_X11_isOven ml_X11_78 mv_X11_isOven dX11_warmFor_2 (k_X11_isOven rfl) rfl rfl rfl rfl (by decide) ⟨Nat.le_refl _, Nat.le_refl _⟩ (Nat.le_of_ble_eq_true rfl) ?_
  refine g_if_eq 28 (by decide) dX11_warmFor_5 (fun c1 => ?_) (fun c1 => ?_)
  · have h := g_ifp c1 h
    refine g_icm1 dX11_warmFor_28 ?_
    obtain rfl := Option.some.inj h
    exact g_iret rfl (Nat.le_refl _) rfl dX11_warmFor_29 ⟨rfl, rfl⟩
  · have h := g_ifn c1 h
    refine g_aload_n dX11_warmFor_8 rfl ?_
    refine m_getR fl_X11_10 rfl rfl rfl dX11_warmFor_9 ?_
    refine g_aload_n dX11_warmFor_12 rfl ?_
    refine m_getR fl_X11_10 rfl rfl rfl dX11_warmFor_13 ?_
    refine m_getR fl_X11_84 rfl rfl rfl dX11_warmFor_16 ?_
    refine g_iload_n dX11_warmFor_19 rfl ?_
    refine g_bipush (v := 9) dX11_warmFor_20 (by decide) ?_
    obtain ⟨⟨x2, μ4⟩, q3, h⟩ := g_bind h
    refine m_cS mt_X2_bestSetting ml_X11_180 ms_X2_bestSetting dX11_warmFor_22 (k_X2_bestSetting_10 hR q3) rfl rfl (by decide) ⟨Nat.le_refl _, Nat.le_refl _⟩ (Nat.le_of_ble_eq_true rfl) ?_
    refine g_goto 29 (by decide) dX11_warmFor_25 ?_
    obtain rfl := Option.some.inj h
    exact g_iret rfl (Nat.le_refl _) rfl dX11_warmFor_29 ⟨rfl, rfl⟩
set_option maxRecDepth 100000 in
set_option maxHeartbeats 4000000 in
theorem k_X9_isPair {D : va_G} {cA : Nat → ClassId} {b b2 k : Nat} {dyn : Nat → Nat} {t s : Nat} {a1 : Int32} {a2 : Int32} {μ : g_M} {z : Int32} (h : f_X9_isPair a1 a2 μ = some z) : g_K (g_XX D cA b b2 dyn) yX9_isPair Y_X9_isPair 2 0 0 k [.ref 1, .int a1, .int a2] (μ, (g_rfX t s)) (fun r1 σ1 => r1 = some (.int z) ∧ σ1 = (μ, (g_rfX t s))) := by
  unfold f_X9_isPair at h
  refine g_met 0 (by decide) rfl rfl (Nat.le_of_ble_eq_true rfl) ?_
  refine g_aload_n dX9_isPair_0 rfl ?_
  refine g_iload_n dX9_isPair_1 rfl ?_
  refine g_iload_n dX9_isPair_2 rfl ?_
  obtain ⟨x1, q2, h⟩ := g_bind h
  refine m_cV mt_X9_wishOf ml_X9_132 mv_X9_wishOf dX9_isPair_3 (k_X9_wishOf q2) rfl rfl rfl rfl (by decide) ⟨Nat.le_refl _, Nat.le_refl _⟩ (Nat.le_of_ble_eq_true rfl) ?_
  refine g_if_le 22 (by decide) dX9_isPair_6 (fun c3 => ?_) (fun c3 => ?_)
  · have h := g_ifp c3 h
    refine g_ic0 dX9_isPair_22 ?_
    obtain rfl := Option.some.inj h
    exact g_zret rfl (Nat.le_refl _) rfl rfl dX9_isPair_23 ⟨rfl, rfl⟩
  · have h := g_ifn c3 h
    refine g_aload_n dX9_isPair_9 rfl ?_
    refine g_iload_n dX9_isPair_10 rfl ?_
    refine g_iload_n dX9_isPair_11 rfl ?_
    obtain ⟨x4, q5, h⟩ := g_bind h
    refine m_cV mt_X9_wishOf ml_X9_132 mv_X9_wishOf dX9_isPair_12 (k_X9_wishOf q5) rfl rfl rfl rfl (by decide) ⟨Nat.le_refl _, Nat.le_refl _⟩ (Nat.le_of_ble_eq_true rfl) ?_
    refine g_if_le 22 (by decide) dX9_isPair_15 (fun c6 => ?_) (fun c6 => ?_)
    · have h := g_ifp c6 h
      refine g_ic0 dX9_isPair_22 ?_
      obtain rfl := Option.some.inj h
      exact g_zret rfl (Nat.le_refl _) rfl rfl dX9_isPair_23 ⟨rfl, rfl⟩
    · have h := g_ifn c6 h
      refine g_ic1 dX9_isPair_18 ?_
      refine g_goto 23 (by decide) dX9_isPair_19 ?_
      obtain rfl := Option.some.inj h
      exact g_zret rfl (Nat.le_refl _) rfl rfl dX9_isPair_23 ⟨rfl, rfl⟩
set_option maxRecDepth 100000 in
set_option maxHeartbeats 4000000 in
theorem k_X11_pairs_L19 {D : va_G} {cA : Nat → ClassId} {b b2 k : Nat} {dyn : Nat → Nat} {t s : Nat} {Q : Option Value → g_S → Prop} {N : Nat} : ∀ (n : Nat) (x_1 : Int32) (x_2 : Int32) (x_3 : Int32) (μ : g_M) (z_1 : Int32), f_X11_pairs_L19 N n x_1 x_2 x_3 μ = some z_1 → g_V (g_XX D cA b b2 dyn) Y_X11_pairs 3 0 0 Q k 0 0 51 [some (.ref 0), some (.int z_1), some (.int x_2), none] [] (μ, (g_rfX t s)) → g_V (g_XX D cA b b2 dyn) Y_X11_pairs 3 0 0 Q k 0 0 19 [some (.ref 0), some (.int x_1), some (.int x_2), some (.int x_3)] [] (μ, (g_rfX t s)) := by
  intro n
  induction n with
  | zero =>
    intro x_1 x_2 x_3 μ z_1 h
    rw [f_X11_pairs_L19] at h
    cases h
  | succ n ih =>
    intro x_1 x_2 x_3 μ z_1 h hc
    rw [f_X11_pairs_L19] at h
    refine g_iload_n dX11_pairs_19 rfl ?_
    refine g_aload_n dX11_pairs_20 rfl ?_
    refine m_getR fl_X11_10 rfl rfl rfl dX11_pairs_21 ?_
    refine m_getI fl_X11_70 rfl rfl dX11_pairs_24 ?_
    refine g_icmp_ge 51 (by decide) dX11_pairs_27 (fun c3 => ?_) (fun c3 => ?_)
    · have h := g_ifp c3 h
      obtain rfl := Option.some.inj h
      exact g_less _ (g_subS (g_subS (g_subS (g_subN g_sub0)))) hc
    · have h := g_ifn c3 h
      refine g_aload_n dX11_pairs_30 rfl ?_
      refine m_getR fl_X11_10 rfl rfl rfl dX11_pairs_31 ?_
      refine g_iload_n dX11_pairs_34 rfl ?_
      refine g_iload_n dX11_pairs_35 rfl ?_
      obtain ⟨x4, q5, h⟩ := g_bind h
      refine m_cV mt_X9_isPair ml_X11_184 mv_X9_isPair dX11_pairs_36 (k_X9_isPair q5) rfl rfl rfl rfl (by decide) ⟨Nat.le_refl _, Nat.le_refl _⟩ (Nat.le_of_ble_eq_true rfl) ?_
      refine g_if_eq 45 (by decide) dX11_pairs_39 (fun c6 => ?_) (fun c6 => ?_)
      · have h := g_ifp c6 h
        refine g_iinc_3 (v := 1) rfl (by decide) (Nat.le_of_ble_eq_true rfl) dX11_pairs_45 ?_
        refine g_goto 19 (by decide) dX11_pairs_48 ?_
        exact g_less _ (g_subS (g_subS (g_subS (g_subS g_sub0)))) (ih _ _ _ _ _ h hc)
      · have h := g_ifn c6 h
        refine g_iinc_1 (v := 1) rfl (by decide) (Nat.le_of_ble_eq_true rfl) dX11_pairs_42 ?_
        refine g_iinc_3 (v := 1) rfl (by decide) (Nat.le_of_ble_eq_true rfl) dX11_pairs_45 ?_
        refine g_goto 19 (by decide) dX11_pairs_48 ?_
        exact g_less _ (g_subS (g_subS (g_subS (g_subS g_sub0)))) (ih _ _ _ _ _ h hc)
set_option maxRecDepth 100000 in
set_option maxHeartbeats 4000000 in
theorem k_X11_pairs_L4 {D : va_G} {cA : Nat → ClassId} {b b2 k : Nat} {dyn : Nat → Nat} {t s : Nat} {Q : Option Value → g_S → Prop} {N : Nat} : ∀ (n : Nat) (x_1 : Int32) (x_2 : Int32) (μ : g_M) (z_1 : Int32), f_X11_pairs_L4 N n x_1 x_2 μ = some z_1 → g_V (g_XX D cA b b2 dyn) Y_X11_pairs 3 0 0 Q k 0 0 57 [none, some (.int z_1), none, none] [] (μ, (g_rfX t s)) → g_V (g_XX D cA b b2 dyn) Y_X11_pairs 3 0 0 Q k 0 0 4 [some (.ref 0), some (.int x_1), some (.int x_2), none] [] (μ, (g_rfX t s)) := by
  intro n
  induction n with
  | zero =>
    intro x_1 x_2 μ z_1 h
    rw [f_X11_pairs_L4] at h
    cases h
  | succ n ih =>
    intro x_1 x_2 μ z_1 h hc
    rw [f_X11_pairs_L4] at h
    refine g_iload_n dX11_pairs_4 rfl ?_
    refine g_aload_n dX11_pairs_5 rfl ?_
    refine m_getR fl_X11_10 rfl rfl rfl dX11_pairs_6 ?_
    refine m_getI fl_X11_70 rfl rfl dX11_pairs_9 ?_
    refine g_icmp_ge 57 (by decide) dX11_pairs_12 (fun c1 => ?_) (fun c1 => ?_)
    · have h := g_ifp c1 h
      obtain rfl := Option.some.inj h
      exact g_less _ (g_subN (g_subS (g_subN (g_subN g_sub0)))) hc
    · have h := g_ifn c1 h
      refine g_iload_n dX11_pairs_15 rfl ?_
      refine g_ic1 dX11_pairs_16 ?_
      refine g_iadd dX11_pairs_17 ?_
      obtain ⟨x2, ex2, h⟩ := g_let h
      refine g_top ex2 ?_
      refine g_istore_3 rfl (Nat.le_of_ble_eq_true rfl) dX11_pairs_18 ?_
      obtain ⟨x3, q4, h⟩ := g_bind h
      refine g_less _ (g_subS (g_subS (g_subS (g_subS g_sub0)))) (k_X11_pairs_L19 _ _ _ _ _ _ q4 ?_)
      refine g_iinc_2 (v := 1) rfl (by decide) (Nat.le_of_ble_eq_true rfl) dX11_pairs_51 ?_
      refine g_goto 4 (by decide) dX11_pairs_54 ?_
      exact g_less _ (g_subS (g_subS (g_subS (g_subN g_sub0)))) (ih _ _ _ _ h hc)
set_option maxRecDepth 100000 in
set_option maxHeartbeats 4000000 in
theorem k_X11_pairs {D : va_G} {cA : Nat → ClassId} {b b2 k : Nat} {dyn : Nat → Nat} {t s : Nat} {N : Nat} {μ : g_M} {z : Int32} (h : f_X11_pairs N μ = some z) : g_K (g_XX D cA b b2 dyn) yX11_pairs Y_X11_pairs 3 0 0 k [.ref 0] (μ, (g_rfX t s)) (fun r1 σ1 => r1 = some (.int z) ∧ σ1 = (μ, (g_rfX t s))) := by
  unfold f_X11_pairs at h
  refine g_met 3 (by decide) rfl rfl (Nat.le_of_ble_eq_true rfl) ?_
  refine g_ic0 dX11_pairs_0 ?_
  refine g_istore_1 rfl (Nat.le_of_ble_eq_true rfl) dX11_pairs_1 ?_
  refine g_ic0 dX11_pairs_2 ?_
  refine g_istore_2 rfl (Nat.le_of_ble_eq_true rfl) dX11_pairs_3 ?_
  obtain ⟨x1, q2, h⟩ := g_bind h
  refine g_less _ (g_subS (g_subS (g_subS (g_subN g_sub0)))) (k_X11_pairs_L4 _ _ _ _ _ q2 ?_)
  refine g_iload_n dX11_pairs_57 rfl ?_
  obtain rfl := Option.some.inj h
  exact g_iret rfl (Nat.le_refl _) rfl dX11_pairs_58 ⟨rfl, rfl⟩
set_option maxRecDepth 100000 in
set_option maxHeartbeats 4000000 in
theorem k_X9_everybody {D : va_G} {cA : Nat → ClassId} {b b2 k : Nat} {dyn : Nat → Nat} {t s : Nat} {μ : g_M} {z : Int32} (h : f_X9_everybody μ = z) : g_K (g_XX D cA b b2 dyn) yX9_everybody Y_X9_everybody 1 0 0 k [.ref 1] (μ, (g_rfX t s)) (fun r1 σ1 => r1 = some (.int z) ∧ σ1 = (μ, (g_rfX t s))) := by
  unfold f_X9_everybody at h
  refine g_met 0 (by decide) rfl rfl (Nat.le_of_ble_eq_true rfl) ?_
  refine g_ic1 dX9_everybody_0 ?_
  refine g_aload_n dX9_everybody_1 rfl ?_
  refine m_getI fl_X9_83 rfl rfl dX9_everybody_2 ?_
  refine g_ishl dX9_everybody_5 ?_
  refine g_ic1 dX9_everybody_6 ?_
  refine g_isub dX9_everybody_7 ?_
  subst h
  exact g_iret rfl (Nat.le_refl _) rfl dX9_everybody_8 ⟨rfl, rfl⟩
set_option maxRecDepth 100000 in
set_option maxHeartbeats 4000000 in
theorem k_X2_weddingOf {D : va_G} {cA : Nat → ClassId} {b b2 k : Nat} {dyn : Nat → Nat} {t s : Nat} {a1 : Int32} {a2 : Int32} {μ : g_M} {z : Int32} (h : f_X2_weddingOf a1 a2 μ = some z) : g_K (g_XX D cA b b2 dyn) yX2_weddingOf Y_X2_weddingOf 2 0 0 k [.ref 1, .int a1, .int a2] (μ, (g_rfX t s)) (fun r1 σ1 => r1 = some (.int z) ∧ σ1 = (μ, (g_rfX t s))) := by
  unfold f_X2_weddingOf at h
  refine g_met 0 (by decide) rfl rfl (Nat.le_of_ble_eq_true rfl) ?_
  refine g_sipush (v := 1000) dX2_weddingOf_0 (by decide) ?_
  refine g_aload_n dX2_weddingOf_3 rfl ?_
  refine g_iload_n dX2_weddingOf_4 rfl ?_
  refine g_iload_n dX2_weddingOf_5 rfl ?_
  obtain ⟨x1, q2, h⟩ := g_bind h
  refine m_cV mt_X9_wishOf ml_X2_66 mv_X9_wishOf dX2_weddingOf_6 (k_X9_wishOf q2) rfl rfl rfl rfl (by decide) ⟨Nat.le_refl _, Nat.le_refl _⟩ (Nat.le_of_ble_eq_true rfl) ?_
  refine g_iadd dX2_weddingOf_9 ?_
  refine g_aload_n dX2_weddingOf_10 rfl ?_
  refine g_iload_n dX2_weddingOf_11 rfl ?_
  refine g_iload_n dX2_weddingOf_12 rfl ?_
  obtain ⟨x3, q4, h⟩ := g_bind h
  refine m_cV mt_X9_wishOf ml_X2_66 mv_X9_wishOf dX2_weddingOf_13 (k_X9_wishOf q4) rfl rfl rfl rfl (by decide) ⟨Nat.le_refl _, Nat.le_refl _⟩ (Nat.le_of_ble_eq_true rfl) ?_
  refine g_iadd dX2_weddingOf_16 ?_
  obtain rfl := Option.some.inj h
  exact g_iret rfl (Nat.le_refl _) rfl dX2_weddingOf_17 ⟨rfl, rfl⟩
set_option maxRecDepth 100000 in
set_option maxHeartbeats 4000000 in
theorem k_X2_mostWed_L34 {D : va_G} {cA : Nat → ClassId} {b b2 k : Nat} {dyn : Nat → Nat} {t s : Nat} {Q : Option Value → g_S → Prop} {F : Int32 → Int32 → g_M → Option Int32} {d0 : Nat} (hF : ∀ (a1 : Int32) (a2 : Int32) (μ : g_M) (z : Int32), F a1 a2 μ = some z → g_K (g_XX D cA b b2 dyn) yX2_mostWed Y_X2_mostWed d0 0 0 k [.ref 1, .int a1, .int a2] (μ, (g_rfX t s)) (fun r1 σ1 => r1 = some (.int z) ∧ σ1 = (μ, (g_rfX t s)))) {N : Nat} : ∀ (n : Nat) (x_1 : Int32) (x_2 : Int32) (x_3 : Int32) (x_4 : Int32) (μ : g_M) (z_3 : Int32), f_X2_mostWed_L34 F N n x_1 x_2 x_3 x_4 μ = some z_3 → g_V (g_XX D cA b b2 dyn) Y_X2_mostWed (d0 + 3) 0 0 Q k 0 0 100 [none, none, none, some (.int z_3), none, none] [] (μ, (g_rfX t s)) → g_V (g_XX D cA b b2 dyn) Y_X2_mostWed (d0 + 3) 0 0 Q k 0 0 34 [some (.ref 1), some (.int x_1), some (.int x_2), some (.int x_3), some (.int x_4), none] [] (μ, (g_rfX t s)) := by
  intro n
  induction n with
  | zero =>
    intro x_1 x_2 x_3 x_4 μ z_3 h
    rw [f_X2_mostWed_L34] at h
    cases h
  | succ n ih =>
    intro x_1 x_2 x_3 x_4 μ z_3 h hc
    rw [f_X2_mostWed_L34] at h
    refine g_iload dX2_mostWed_34 rfl ?_
    refine g_aload_n dX2_mostWed_36 rfl ?_
    refine m_getI fl_X2_73 rfl rfl dX2_mostWed_37 ?_
    refine g_icmp_ge 100 (by decide) dX2_mostWed_40 (fun c6 => ?_) (fun c6 => ?_)
    · have h := g_ifp c6 h
      obtain rfl := Option.some.inj h
      exact g_less _ (g_subN (g_subN (g_subN (g_subS (g_subN (g_subN g_sub0)))))) hc
    · have h := g_ifn c6 h
      refine g_iload_n dX2_mostWed_43 rfl ?_
      refine g_iload dX2_mostWed_44 rfl ?_
      refine g_ishr dX2_mostWed_46 ?_
      refine g_ic1 dX2_mostWed_47 ?_
      refine g_iand dX2_mostWed_48 ?_
      refine g_if_eq 94 (by decide) dX2_mostWed_49 (fun c7 => ?_) (fun c7 => ?_)
      · have h := g_ifp c7 h
        refine g_iinc_4 (v := 1) rfl (by decide) (Nat.le_of_ble_eq_true rfl) dX2_mostWed_94 ?_
        refine g_goto 34 (by decide) dX2_mostWed_97 ?_
        exact g_less _ (g_subS (g_subS (g_subS (g_subS (g_subS (g_subN g_sub0)))))) (ih _ _ _ _ _ _ h hc)
      · have h := g_ifn c7 h
        refine g_aload_n dX2_mostWed_52 rfl ?_
        refine g_iload_n dX2_mostWed_53 rfl ?_
        refine g_iload dX2_mostWed_54 rfl ?_
        obtain ⟨x8, q9, h⟩ := g_bind h
        refine m_cV mt_X9_isPair ml_X2_76 mv_X9_isPair dX2_mostWed_56 (k_X9_isPair q9) rfl rfl rfl rfl (by omega) ⟨Nat.le_refl _, Nat.le_refl _⟩ (Nat.le_of_ble_eq_true rfl) ?_
        refine g_if_eq 94 (by decide) dX2_mostWed_59 (fun c10 => ?_) (fun c10 => ?_)
        · have h := g_ifp c10 h
          refine g_iinc_4 (v := 1) rfl (by decide) (Nat.le_of_ble_eq_true rfl) dX2_mostWed_94 ?_
          refine g_goto 34 (by decide) dX2_mostWed_97 ?_
          exact g_less _ (g_subS (g_subS (g_subS (g_subS (g_subS (g_subN g_sub0)))))) (ih _ _ _ _ _ _ h hc)
        · have h := g_ifn c10 h
          refine g_aload_n dX2_mostWed_62 rfl ?_
          refine g_iload_n dX2_mostWed_63 rfl ?_
          refine g_iload dX2_mostWed_64 rfl ?_
          obtain ⟨x11, q12, h⟩ := g_bind h
          refine m_cS mt_X2_weddingOf ml_X2_80 ms_X2_weddingOf dX2_mostWed_66 (k_X2_weddingOf q12) rfl rfl (by omega) ⟨Nat.le_refl _, Nat.le_refl _⟩ (Nat.le_of_ble_eq_true rfl) ?_
          refine g_aload_n dX2_mostWed_69 rfl ?_
          refine g_iload_n dX2_mostWed_70 rfl ?_
          refine g_ic1 dX2_mostWed_71 ?_
          refine g_iload dX2_mostWed_72 rfl ?_
          refine g_ishl dX2_mostWed_74 ?_
          refine g_icm1 dX2_mostWed_75 ?_
          refine g_ixor dX2_mostWed_76 ?_
          refine g_iand dX2_mostWed_77 ?_
          refine g_iload_n dX2_mostWed_78 rfl ?_
          refine g_ic1 dX2_mostWed_79 ?_
          refine g_iadd dX2_mostWed_80 ?_
          obtain ⟨x13, q14, h⟩ := g_bind h
          refine m_cS mt_X2_mostWed ml_X2_69 ms_X2_mostWed dX2_mostWed_81 (hF _ _ _ _ q14) rfl rfl (by omega) ⟨Nat.le_refl _, Nat.le_refl _⟩ (Nat.le_of_ble_eq_true rfl) ?_
          refine g_iadd dX2_mostWed_84 ?_
          obtain ⟨x15, ex15, h⟩ := g_let h
          refine g_top ex15 ?_
          refine g_istore_5 rfl (Nat.le_of_ble_eq_true rfl) dX2_mostWed_85 ?_
          refine g_iload_n dX2_mostWed_87 rfl ?_
          refine g_iload dX2_mostWed_88 rfl ?_
          refine m_max ml_X2_83 dX2_mostWed_90 (by omega) ⟨Nat.le_refl _, Nat.le_refl _⟩ (Nat.le_of_ble_eq_true rfl) ?_
          obtain ⟨x16, ex16, h⟩ := g_let h
          refine g_top ex16 ?_
          refine g_istore_3 rfl (Nat.le_of_ble_eq_true rfl) dX2_mostWed_93 ?_
          refine g_iinc_4 (v := 1) rfl (by decide) (Nat.le_of_ble_eq_true rfl) dX2_mostWed_94 ?_
          refine g_goto 34 (by decide) dX2_mostWed_97 ?_
          exact g_less _ (g_subS (g_subS (g_subS (g_subS (g_subS (g_subN g_sub0)))))) (ih _ _ _ _ _ _ h hc)
set_option maxRecDepth 100000 in
set_option maxHeartbeats 4000000 in
theorem k_X2_mostWed {D : va_G} {cA : Nat → ClassId} {b b2 k : Nat} {dyn : Nat → Nat} {t s : Nat} {N : Nat} : ∀ (n : Nat) (a1 : Int32) (a2 : Int32) (μ : g_M) (z : Int32), f_X2_mostWed N n a1 a2 μ = some z → g_K (g_XX D cA b b2 dyn) yX2_mostWed Y_X2_mostWed (3 * n) 0 0 k [.ref 1, .int a1, .int a2] (μ, (g_rfX t s)) (fun r1 σ1 => r1 = some (.int z) ∧ σ1 = (μ, (g_rfX t s))) := by
  intro n
  induction n with
  | zero =>
    intro a1 a2 μ z h
    rw [f_X2_mostWed] at h
    cases h
  | succ n hF =>
    intro a1 a2 μ z h
    rw [f_X2_mostWed] at h
    refine g_met (d := 3 * n + 3) 3 (by decide) rfl rfl (Nat.le_of_ble_eq_true rfl) ?_
    refine g_iload_n dX2_mostWed_0 rfl ?_
    refine g_aload_n dX2_mostWed_1 rfl ?_
    refine m_getI fl_X2_73 rfl rfl dX2_mostWed_2 ?_
    refine g_icmp_lt 10 (by decide) dX2_mostWed_5 (fun c1 => ?_) (fun c1 => ?_)
    · have h := g_ifp c1 h
      refine g_aload_n dX2_mostWed_10 rfl ?_
      refine g_iload_n dX2_mostWed_11 rfl ?_
      refine g_iload_n dX2_mostWed_12 rfl ?_
      refine g_ic1 dX2_mostWed_13 ?_
      refine g_iadd dX2_mostWed_14 ?_
      obtain ⟨x2, q3, h⟩ := g_bind h
      refine m_cS mt_X2_mostWed ml_X2_69 ms_X2_mostWed dX2_mostWed_15 (hF _ _ _ _ q3) rfl rfl (by omega) ⟨Nat.le_refl _, Nat.le_refl _⟩ (Nat.le_of_ble_eq_true rfl) ?_
      refine g_istore_3 rfl (Nat.le_of_ble_eq_true rfl) dX2_mostWed_18 ?_
      refine g_iload_n dX2_mostWed_19 rfl ?_
      refine g_iload_n dX2_mostWed_20 rfl ?_
      refine g_ishr dX2_mostWed_21 ?_
      refine g_ic1 dX2_mostWed_22 ?_
      refine g_iand dX2_mostWed_23 ?_
      refine g_if_ne 29 (by decide) dX2_mostWed_24 (fun c4 => ?_) (fun c4 => ?_)
      · have h := g_ifn c4 h
        refine g_iload_n dX2_mostWed_29 rfl ?_
        refine g_ic1 dX2_mostWed_30 ?_
        refine g_iadd dX2_mostWed_31 ?_
        obtain ⟨x5, ex5, h⟩ := g_let h
        refine g_top ex5 ?_
        refine g_istore_4 rfl (Nat.le_of_ble_eq_true rfl) dX2_mostWed_32 ?_
        obtain ⟨x6, q7, h⟩ := g_bind h
        refine g_less _ (g_subS (g_subS (g_subS (g_subS (g_subS (g_subN g_sub0)))))) (k_X2_mostWed_L34 hF _ _ _ _ _ _ _ q7 ?_)
        refine g_iload_n dX2_mostWed_100 rfl ?_
        obtain rfl := Option.some.inj h
        exact g_iret rfl (Nat.le_refl _) rfl dX2_mostWed_101 ⟨rfl, rfl⟩
      · have h := g_ifp c4 h
        refine g_iload_n dX2_mostWed_27 rfl ?_
        obtain rfl := Option.some.inj h
        exact g_iret rfl (Nat.le_refl _) rfl dX2_mostWed_28 ⟨rfl, rfl⟩
    · have h := g_ifn c1 h
      refine g_ic0 dX2_mostWed_8 ?_
      obtain rfl := Option.some.inj h
      exact g_iret rfl (Nat.le_refl _) rfl dX2_mostWed_9 ⟨rfl, rfl⟩
set_option maxRecDepth 100000 in
set_option maxHeartbeats 4000000 in
theorem k_X2_mostWeddings {D : va_G} {cA : Nat → ClassId} {b b2 k : Nat} {dyn : Nat → Nat} {t s : Nat} {N : Nat} {μ : g_M} {z : Int32} (h : f_X2_mostWeddings N μ = some z) : g_K (g_XX D cA b b2 dyn) yX2_mostWeddings Y_X2_mostWeddings 25 0 0 k [.ref 1] (μ, (g_rfX t s)) (fun r1 σ1 => r1 = some (.int z) ∧ σ1 = (μ, (g_rfX t s))) := by
  unfold f_X2_mostWeddings at h
  refine g_met 0 (by decide) rfl rfl (Nat.le_of_ble_eq_true rfl) ?_
  refine g_aload_n dX2_mostWeddings_0 rfl ?_
  refine g_aload_n dX2_mostWeddings_1 rfl ?_
  refine m_cV mt_X9_everybody ml_X2_53 mv_X9_everybody dX2_mostWeddings_2 (k_X9_everybody rfl) rfl rfl rfl rfl (by decide) ⟨Nat.le_refl _, Nat.le_refl _⟩ (Nat.le_of_ble_eq_true rfl) ?_
  refine g_ic0 dX2_mostWeddings_5 ?_
  obtain ⟨x1, q2, h⟩ := g_bind h
  refine m_cS mt_X2_mostWed ml_X2_69 ms_X2_mostWed dX2_mostWeddings_6 (k_X2_mostWed _ _ _ _ _ q2) rfl rfl (by decide) ⟨Nat.le_refl _, Nat.le_refl _⟩ (Nat.le_of_ble_eq_true rfl) ?_
  obtain rfl := Option.some.inj h
  exact g_iret rfl (Nat.le_refl _) rfl dX2_mostWeddings_9 ⟨rfl, rfl⟩
set_option maxRecDepth 100000 in
set_option maxHeartbeats 4000000 in
theorem k_X11_weddings {D : va_G} {cA : Nat → ClassId} {b b2 k : Nat} {dyn : Nat → Nat} {t s : Nat} {N : Nat} {a1 : Int32} {μ : g_M} {z : Int32} (h : f_X11_weddings N a1 μ = some z) : g_K (g_XX D cA b b2 dyn) yX11_weddings Y_X11_weddings 26 0 0 k [.ref 0, .int a1] (μ, (g_rfX t s)) (fun r1 σ1 => r1 = some (.int z) ∧ σ1 = (μ, (g_rfX t s))) := by
  unfold f_X11_weddings at h
  refine g_met 1 (by decide) rfl rfl (Nat.le_of_ble_eq_true rfl) ?_
  refine g_iload_n dX11_weddings_0 rfl ?_
  refine g_ic0 dX11_weddings_1 ?_
  refine g_ic1 dX11_weddings_2 ?_
  refine m_cS mt_X11_isBetween ml_X11_120 ms_X11_isBetween dX11_weddings_3 (k_X11_isBetween rfl) rfl rfl (by decide) ⟨Nat.le_refl _, Nat.le_refl _⟩ (Nat.le_of_ble_eq_true rfl) ?_
  refine g_if_ne 11 (by decide) dX11_weddings_6 (fun c1 => ?_) (fun c1 => ?_)
  · have h := g_ifn c1 h
    refine g_aload_n dX11_weddings_11 rfl ?_
    refine m_getR fl_X11_10 rfl rfl rfl dX11_weddings_12 ?_
    obtain ⟨x2, q3, h⟩ := g_bind h
    refine m_cS mt_X2_mostWeddings ml_X11_188 ms_X2_mostWeddings dX11_weddings_15 (k_X2_mostWeddings q3) rfl rfl (by decide) ⟨Nat.le_refl _, Nat.le_refl _⟩ (Nat.le_of_ble_eq_true rfl) ?_
    refine g_istore_2 rfl (Nat.le_of_ble_eq_true rfl) dX11_weddings_18 ?_
    refine g_iload_n dX11_weddings_19 rfl ?_
    refine g_if_ne 31 (by decide) dX11_weddings_20 (fun c4 => ?_) (fun c4 => ?_)
    · have h := g_ifn c4 h
      refine g_iload_n dX11_weddings_31 rfl ?_
      refine g_sipush (v := 1000) dX11_weddings_32 (by decide) ?_
      refine g_irem dX11_weddings_35 (by decide) ?_
      obtain rfl := Option.some.inj h
      exact g_iret rfl (Nat.le_refl _) rfl dX11_weddings_36 ⟨rfl, rfl⟩
    · have h := g_ifp c4 h
      refine g_iload_n dX11_weddings_23 rfl ?_
      refine g_sipush (v := 1000) dX11_weddings_24 (by decide) ?_
      refine g_idiv dX11_weddings_27 (by decide) ?_
      refine g_goto 36 (by decide) dX11_weddings_28 ?_
      obtain rfl := Option.some.inj h
      exact g_iret rfl (Nat.le_refl _) rfl dX11_weddings_36 ⟨rfl, rfl⟩
  · have h := g_ifp c1 h
    refine g_icm1 dX11_weddings_9 ?_
    obtain rfl := Option.some.inj h
    exact g_iret rfl (Nat.le_refl _) rfl dX11_weddings_10 ⟨rfl, rfl⟩
set_option maxRecDepth 100000 in
set_option maxHeartbeats 4000000 in
theorem k_X2_firstMate_L12 {D : va_G} {cA : Nat → ClassId} {b b2 k : Nat} {dyn : Nat → Nat} {t s : Nat} {Q : Option Value → g_S → Prop} {N : Nat} : ∀ (n : Nat) (x_1 : Int32) (x_2 : Int32) (x_3 : Int32) (x_4 : Int32) (μ : g_M) (z : (Int32) ⊕ (Unit)), f_X2_firstMate_L12 N n x_1 x_2 x_3 x_4 μ = some z → (∀ q : Int32, z = .inl q → Q (some (.int q)) (μ, (g_rfX t s))) → (z = .inr () → g_V (g_XX D cA b b2 dyn) Y_X2_firstMate 25 0 0 Q k 0 0 76 [none, none, none, none, none] [] (μ, (g_rfX t s))) → g_V (g_XX D cA b b2 dyn) Y_X2_firstMate 25 0 0 Q k 0 0 12 [some (.ref 1), some (.int x_1), some (.int x_2), some (.int x_3), some (.int x_4)] [] (μ, (g_rfX t s)) := by
  intro n
  induction n with
  | zero =>
    intro x_1 x_2 x_3 x_4 μ z h
    rw [f_X2_firstMate_L12] at h
    cases h
  | succ n ih =>
    intro x_1 x_2 x_3 x_4 μ z h hr hc
    rw [f_X2_firstMate_L12] at h
    refine g_iload dX2_firstMate_12 rfl ?_
    refine g_aload_n dX2_firstMate_14 rfl ?_
    refine m_getI fl_X2_73 rfl rfl dX2_firstMate_15 ?_
    refine g_icmp_ge 76 (by decide) dX2_firstMate_18 (fun c4 => ?_) (fun c4 => ?_)
    · have h := g_ifp c4 h
      obtain rfl := Option.some.inj h
      exact g_less _ (g_subN (g_subN (g_subN (g_subN (g_subN g_sub0))))) (hc  rfl)
    · have h := g_ifn c4 h
      refine g_iload_n dX2_firstMate_21 rfl ?_
      refine g_iload dX2_firstMate_22 rfl ?_
      refine g_ishr dX2_firstMate_24 ?_
      refine g_ic1 dX2_firstMate_25 ?_
      refine g_iand dX2_firstMate_26 ?_
      refine g_if_eq 70 (by decide) dX2_firstMate_27 (fun c5 => ?_) (fun c5 => ?_)
      · have h := g_ifp c5 h
        refine g_iinc_4 (v := 1) rfl (by decide) (Nat.le_of_ble_eq_true rfl) dX2_firstMate_70 ?_
        refine g_goto 12 (by decide) dX2_firstMate_73 ?_
        exact g_less _ (g_subS (g_subS (g_subS (g_subS (g_subS g_sub0))))) (ih _ _ _ _ _ _ h hr hc)
      · have h := g_ifn c5 h
        refine g_aload_n dX2_firstMate_30 rfl ?_
        refine g_iload_n dX2_firstMate_31 rfl ?_
        refine g_iload dX2_firstMate_32 rfl ?_
        obtain ⟨x6, q7, h⟩ := g_bind h
        refine m_cV mt_X9_isPair ml_X2_76 mv_X9_isPair dX2_firstMate_34 (k_X9_isPair q7) rfl rfl rfl rfl (by decide) ⟨Nat.le_refl _, Nat.le_refl _⟩ (Nat.le_of_ble_eq_true rfl) ?_
        refine g_if_eq 70 (by decide) dX2_firstMate_37 (fun c8 => ?_) (fun c8 => ?_)
        · have h := g_ifp c8 h
          refine g_iinc_4 (v := 1) rfl (by decide) (Nat.le_of_ble_eq_true rfl) dX2_firstMate_70 ?_
          refine g_goto 12 (by decide) dX2_firstMate_73 ?_
          exact g_less _ (g_subS (g_subS (g_subS (g_subS (g_subS g_sub0))))) (ih _ _ _ _ _ _ h hr hc)
        · have h := g_ifn c8 h
          refine g_aload_n dX2_firstMate_40 rfl ?_
          refine g_iload_n dX2_firstMate_41 rfl ?_
          refine g_iload dX2_firstMate_42 rfl ?_
          obtain ⟨x9, q10, h⟩ := g_bind h
          refine m_cS mt_X2_weddingOf ml_X2_80 ms_X2_weddingOf dX2_firstMate_44 (k_X2_weddingOf q10) rfl rfl (by decide) ⟨Nat.le_refl _, Nat.le_refl _⟩ (Nat.le_of_ble_eq_true rfl) ?_
          refine g_aload_n dX2_firstMate_47 rfl ?_
          refine g_iload_n dX2_firstMate_48 rfl ?_
          refine g_ic1 dX2_firstMate_49 ?_
          refine g_iload dX2_firstMate_50 rfl ?_
          refine g_ishl dX2_firstMate_52 ?_
          refine g_icm1 dX2_firstMate_53 ?_
          refine g_ixor dX2_firstMate_54 ?_
          refine g_iand dX2_firstMate_55 ?_
          refine g_iload_n dX2_firstMate_56 rfl ?_
          refine g_ic1 dX2_firstMate_57 ?_
          refine g_iadd dX2_firstMate_58 ?_
          obtain ⟨x11, q12, h⟩ := g_bind h
          refine m_cS mt_X2_mostWed ml_X2_69 ms_X2_mostWed dX2_firstMate_59 (k_X2_mostWed _ _ _ _ _ q12) rfl rfl (by decide) ⟨Nat.le_refl _, Nat.le_refl _⟩ (Nat.le_of_ble_eq_true rfl) ?_
          refine g_iadd dX2_firstMate_62 ?_
          refine g_iload_n dX2_firstMate_63 rfl ?_
          refine g_icmp_ne 70 (by decide) dX2_firstMate_64 (fun c13 => ?_) (fun c13 => ?_)
          · have h := g_ifn c13 h
            refine g_iinc_4 (v := 1) rfl (by decide) (Nat.le_of_ble_eq_true rfl) dX2_firstMate_70 ?_
            refine g_goto 12 (by decide) dX2_firstMate_73 ?_
            exact g_less _ (g_subS (g_subS (g_subS (g_subS (g_subS g_sub0))))) (ih _ _ _ _ _ _ h hr hc)
          · have h := g_ifp c13 h
            refine g_iload dX2_firstMate_67 rfl ?_
            obtain rfl := Option.some.inj h
            exact g_iret rfl (Nat.le_refl _) rfl dX2_firstMate_69 (hr _ rfl)
set_option maxRecDepth 100000 in
set_option maxHeartbeats 4000000 in
theorem k_X2_firstMate {D : va_G} {cA : Nat → ClassId} {b b2 k : Nat} {dyn : Nat → Nat} {t s : Nat} {N : Nat} {a1 : Int32} {a2 : Int32} {μ : g_M} {z : Int32} (h : f_X2_firstMate N a1 a2 μ = some z) : g_K (g_XX D cA b b2 dyn) yX2_firstMate Y_X2_firstMate 25 0 0 k [.ref 1, .int a1, .int a2] (μ, (g_rfX t s)) (fun r1 σ1 => r1 = some (.int z) ∧ σ1 = (μ, (g_rfX t s))) := by
  unfold f_X2_firstMate at h
  refine g_met 2 (by decide) rfl rfl (Nat.le_of_ble_eq_true rfl) ?_
  refine g_aload_n dX2_firstMate_0 rfl ?_
  refine g_iload_n dX2_firstMate_1 rfl ?_
  refine g_iload_n dX2_firstMate_2 rfl ?_
  obtain ⟨x1, q2, h⟩ := g_bind h
  refine m_cS mt_X2_mostWed ml_X2_69 ms_X2_mostWed dX2_firstMate_3 (k_X2_mostWed _ _ _ _ _ q2) rfl rfl (by decide) ⟨Nat.le_refl _, Nat.le_refl _⟩ (Nat.le_of_ble_eq_true rfl) ?_
  refine g_istore_3 rfl (Nat.le_of_ble_eq_true rfl) dX2_firstMate_6 ?_
  refine g_iload_n dX2_firstMate_7 rfl ?_
  refine g_ic1 dX2_firstMate_8 ?_
  refine g_iadd dX2_firstMate_9 ?_
  obtain ⟨x3, ex3, h⟩ := g_let h
  refine g_top ex3 ?_
  refine g_istore_4 rfl (Nat.le_of_ble_eq_true rfl) dX2_firstMate_10 ?_
  obtain ⟨w5, q4, h⟩ := g_bind h
  refine g_less _ (g_subS (g_subS (g_subS (g_subS (g_subS g_sub0))))) (k_X2_firstMate_L12 _ _ _ _ _ _ _ q4 ?_ ?_)
  · intro q0 e0
    subst e0
    cases h
    exact ⟨rfl, rfl⟩
  · intro  e0
    subst e0
    try dsimp only at h
    refine g_bipush (v := 6) dX2_firstMate_76 (by decide) ?_
    obtain rfl := Option.some.inj h
    exact g_iret rfl (Nat.le_refl _) rfl dX2_firstMate_78 ⟨rfl, rfl⟩
set_option maxRecDepth 100000 in
set_option maxHeartbeats 4000000 in
theorem k_X2_mateOf_L7 {D : va_G} {cA : Nat → ClassId} {b b2 k : Nat} {dyn : Nat → Nat} {t s : Nat} {Q : Option Value → g_S → Prop} {N : Nat} : ∀ (n : Nat) (x_1 : Int32) (x_2 : Int32) (x_3 : Int32) (μ : g_M) (z : (Int32) ⊕ (Unit)), f_X2_mateOf_L7 N n x_1 x_2 x_3 μ = some z → (∀ q : Int32, z = .inl q → Q (some (.int q)) (μ, (g_rfX t s))) → (z = .inr () → g_V (g_XX D cA b b2 dyn) Y_X2_mateOf 26 0 0 Q k 0 0 66 [none, none, none, none, none] [] (μ, (g_rfX t s))) → g_V (g_XX D cA b b2 dyn) Y_X2_mateOf 26 0 0 Q k 0 0 7 [some (.ref 1), some (.int x_1), some (.int x_2), some (.int x_3), none] [] (μ, (g_rfX t s)) := by
  intro n
  induction n with
  | zero =>
    intro x_1 x_2 x_3 μ z h
    rw [f_X2_mateOf_L7] at h
    cases h
  | succ n ih =>
    intro x_1 x_2 x_3 μ z h hr hc
    rw [f_X2_mateOf_L7] at h
    refine g_iload_n dX2_mateOf_7 rfl ?_
    refine g_iload_n dX2_mateOf_8 rfl ?_
    refine g_icmp_gt 66 (by decide) dX2_mateOf_9 (fun c2 => ?_) (fun c2 => ?_)
    · have h := g_ifp c2 h
      obtain rfl := Option.some.inj h
      exact g_less _ (g_subN (g_subN (g_subN (g_subN (g_subN g_sub0))))) (hc  rfl)
    · have h := g_ifn c2 h
      refine g_iload_n dX2_mateOf_12 rfl ?_
      refine g_iload_n dX2_mateOf_13 rfl ?_
      refine g_ishr dX2_mateOf_14 ?_
      refine g_ic1 dX2_mateOf_15 ?_
      refine g_iand dX2_mateOf_16 ?_
      refine g_if_eq 60 (by decide) dX2_mateOf_17 (fun c3 => ?_) (fun c3 => ?_)
      · have h := g_ifp c3 h
        refine g_iinc_3 (v := 1) rfl (by decide) (Nat.le_of_ble_eq_true rfl) dX2_mateOf_60 ?_
        refine g_goto 7 (by decide) dX2_mateOf_63 ?_
        exact g_less _ (g_subS (g_subS (g_subS (g_subS (g_subN g_sub0))))) (ih _ _ _ _ _ h hr hc)
      · have h := g_ifn c3 h
        refine g_aload_n dX2_mateOf_20 rfl ?_
        refine g_iload_n dX2_mateOf_21 rfl ?_
        refine g_iload_n dX2_mateOf_22 rfl ?_
        obtain ⟨x4, q5, h⟩ := g_bind h
        refine m_cS mt_X2_firstMate ml_X2_88 ms_X2_firstMate dX2_mateOf_23 (k_X2_firstMate q5) rfl rfl (by decide) ⟨Nat.le_refl _, Nat.le_refl _⟩ (Nat.le_of_ble_eq_true rfl) ?_
        refine g_istore_4 rfl (Nat.le_of_ble_eq_true rfl) dX2_mateOf_26 ?_
        refine g_iload_n dX2_mateOf_28 rfl ?_
        refine g_iload_n dX2_mateOf_29 rfl ?_
        refine g_icmp_eq 39 (by decide) dX2_mateOf_30 (fun c6 => ?_) (fun c6 => ?_)
        · have h := g_ifp c6 h
          refine g_iload_n dX2_mateOf_39 rfl ?_
          refine g_iload_n dX2_mateOf_40 rfl ?_
          refine g_icmp_ne 49 (by decide) dX2_mateOf_41 (fun cd => absurd c6 cd) (fun c9 => ?_)
          refine g_iload dX2_mateOf_44 rfl ?_
          refine g_goto 50 (by decide) dX2_mateOf_46 ?_
          obtain rfl := Option.some.inj h
          exact g_iret rfl (Nat.le_refl _) rfl dX2_mateOf_50 (hr _ rfl)
        · have h := g_ifn c6 h
          refine g_iload dX2_mateOf_33 rfl ?_
          refine g_iload_n dX2_mateOf_35 rfl ?_
          refine g_icmp_ne 51 (by decide) dX2_mateOf_36 (fun c7 => ?_) (fun c7 => ?_)
          · have h := g_ifn c7 h
            refine g_iload_n dX2_mateOf_51 rfl ?_
            refine g_ic1 dX2_mateOf_52 ?_
            refine g_iload dX2_mateOf_53 rfl ?_
            refine g_ishl dX2_mateOf_55 ?_
            refine g_icm1 dX2_mateOf_56 ?_
            refine g_ixor dX2_mateOf_57 ?_
            refine g_iand dX2_mateOf_58 ?_
            obtain ⟨x8, ex8, h⟩ := g_let h
            refine g_top ex8 ?_
            refine g_istore_2 rfl (Nat.le_of_ble_eq_true rfl) dX2_mateOf_59 ?_
            refine g_iinc_3 (v := 1) rfl (by decide) (Nat.le_of_ble_eq_true rfl) dX2_mateOf_60 ?_
            refine g_goto 7 (by decide) dX2_mateOf_63 ?_
            exact g_less _ (g_subS (g_subS (g_subS (g_subS (g_subN g_sub0))))) (ih _ _ _ _ _ h hr hc)
          · have h := g_ifp c7 h
            refine g_iload_n dX2_mateOf_39 rfl ?_
            refine g_iload_n dX2_mateOf_40 rfl ?_
            refine g_icmp_ne 49 (by decide) dX2_mateOf_41 (fun c9 => ?_) (fun cd => absurd cd c6)
            refine g_iload_n dX2_mateOf_49 rfl ?_
            obtain rfl := Option.some.inj h
            exact g_iret rfl (Nat.le_refl _) rfl dX2_mateOf_50 (hr _ rfl)
set_option maxRecDepth 100000 in
set_option maxHeartbeats 4000000 in
theorem k_X2_mateOf {D : va_G} {cA : Nat → ClassId} {b b2 k : Nat} {dyn : Nat → Nat} {t s : Nat} {N : Nat} {a1 : Int32} {μ : g_M} {z : Int32} (h : f_X2_mateOf N a1 μ = some z) : g_K (g_XX D cA b b2 dyn) yX2_mateOf Y_X2_mateOf 26 0 0 k [.ref 1, .int a1] (μ, (g_rfX t s)) (fun r1 σ1 => r1 = some (.int z) ∧ σ1 = (μ, (g_rfX t s))) := by
  unfold f_X2_mateOf at h
  refine g_met 3 (by decide) rfl rfl (Nat.le_of_ble_eq_true rfl) ?_
  refine g_aload_n dX2_mateOf_0 rfl ?_
  refine m_cV mt_X9_everybody ml_X2_53 mv_X9_everybody dX2_mateOf_1 (k_X9_everybody rfl) rfl rfl rfl rfl (by decide) ⟨Nat.le_refl _, Nat.le_refl _⟩ (Nat.le_of_ble_eq_true rfl) ?_
  obtain ⟨x1, ex1, h⟩ := g_let h
  refine g_top ex1 ?_
  refine g_istore_2 rfl (Nat.le_of_ble_eq_true rfl) dX2_mateOf_4 ?_
  refine g_ic0 dX2_mateOf_5 ?_
  refine g_istore_3 rfl (Nat.le_of_ble_eq_true rfl) dX2_mateOf_6 ?_
  obtain ⟨w3, q2, h⟩ := g_bind h
  refine g_less _ (g_subS (g_subS (g_subS (g_subS (g_subN g_sub0))))) (k_X2_mateOf_L7 _ _ _ _ _ _ q2 ?_ ?_)
  · intro q0 e0
    subst e0
    cases h
    exact ⟨rfl, rfl⟩
  · intro  e0
    subst e0
    try dsimp only at h
    refine g_bipush (v := 6) dX2_mateOf_66 (by decide) ?_
    obtain rfl := Option.some.inj h
    exact g_iret rfl (Nat.le_refl _) rfl dX2_mateOf_68 ⟨rfl, rfl⟩
set_option maxRecDepth 100000 in
set_option maxHeartbeats 4000000 in
theorem k_X11_mate {D : va_G} {cA : Nat → ClassId} {b b2 k : Nat} {dyn : Nat → Nat} {t s : Nat} {N : Nat} {a1 : Int32} {μ : g_M} {z : Int32} (h : f_X11_mate N a1 μ = some z) : g_K (g_XX D cA b b2 dyn) yX11_mate Y_X11_mate 27 0 0 k [.ref 0, .int a1] (μ, (g_rfX t s)) (fun r1 σ1 => r1 = some (.int z) ∧ σ1 = (μ, (g_rfX t s))) := by
  unfold f_X11_mate at h
  refine g_met 0 (by decide) rfl rfl (Nat.le_of_ble_eq_true rfl) ?_
  refine g_aload_n dX11_mate_0 rfl ?_
  refine g_iload_n dX11_mate_1 rfl ?_
  refine m_cV mt_X11_isOven ml_X11_78 mv_X11_isOven dX11_mate_2 (k_X11_isOven rfl) rfl rfl rfl rfl (by decide) ⟨Nat.le_refl _, Nat.le_refl _⟩ (Nat.le_of_ble_eq_true rfl) ?_
  refine g_if_eq 19 (by decide) dX11_mate_5 (fun c1 => ?_) (fun c1 => ?_)
  · have h := g_ifp c1 h
    refine g_icm1 dX11_mate_19 ?_
    obtain rfl := Option.some.inj h
    exact g_iret rfl (Nat.le_refl _) rfl dX11_mate_20 ⟨rfl, rfl⟩
  · have h := g_ifn c1 h
    refine g_aload_n dX11_mate_8 rfl ?_
    refine m_getR fl_X11_10 rfl rfl rfl dX11_mate_9 ?_
    refine g_iload_n dX11_mate_12 rfl ?_
    obtain ⟨x2, q3, h⟩ := g_bind h
    refine m_cS mt_X2_mateOf ml_X11_192 ms_X2_mateOf dX11_mate_13 (k_X2_mateOf q3) rfl rfl (by decide) ⟨Nat.le_refl _, Nat.le_refl _⟩ (Nat.le_of_ble_eq_true rfl) ?_
    refine g_goto 20 (by decide) dX11_mate_16 ?_
    obtain rfl := Option.some.inj h
    exact g_iret rfl (Nat.le_refl _) rfl dX11_mate_20 ⟨rfl, rfl⟩
set_option maxRecDepth 100000 in
set_option maxHeartbeats 4000000 in
theorem k_J6_bitCount_0f7a4 {D : va_G} {cA : Nat → ClassId} {b b2 k : Nat} {dyn : Nat → Nat} {t s : Nat} {a1 : Int32} {μ : g_M} {z : Int32} (h : f_J6_bitCount_0f7a4 a1 = some z) : g_K (g_XX D cA b b2 dyn) yJ6_bitCount_0f7a4 Y_J6_bitCount_0f7a4 1 0 0 k [.int a1] (μ, (g_rfX t s)) (fun r1 σ1 => r1 = some (.int z) ∧ σ1 = (μ, (g_rfX t s))) := by
  unfold f_J6_bitCount_0f7a4 at h
  refine g_met 0 (by decide) rfl rfl (Nat.le_of_ble_eq_true rfl) ?_
  refine g_iload_n dJ6_bitCount_0f7a4_0 rfl ?_
  refine g_iload_n dJ6_bitCount_0f7a4_1 rfl ?_
  refine g_ic1 dJ6_bitCount_0f7a4_2 ?_
  refine g_iushr dJ6_bitCount_0f7a4_3 ?_
  refine g_ldcw kc_J6_265 dJ6_bitCount_0f7a4_4 ?_
  refine g_iand dJ6_bitCount_0f7a4_7 ?_
  refine g_isub dJ6_bitCount_0f7a4_8 ?_
  obtain ⟨x1, ex1, h⟩ := g_let h
  refine g_top ex1 ?_
  refine g_istore_0 (Nat.le_of_ble_eq_true rfl) dJ6_bitCount_0f7a4_9 ?_
  refine g_iload_n dJ6_bitCount_0f7a4_10 rfl ?_
  refine g_ldcw kc_J6_266 dJ6_bitCount_0f7a4_11 ?_
  refine g_iand dJ6_bitCount_0f7a4_14 ?_
  refine g_iload_n dJ6_bitCount_0f7a4_15 rfl ?_
  refine g_ic2 dJ6_bitCount_0f7a4_16 ?_
  refine g_iushr dJ6_bitCount_0f7a4_17 ?_
  refine g_ldcw kc_J6_266 dJ6_bitCount_0f7a4_18 ?_
  refine g_iand dJ6_bitCount_0f7a4_21 ?_
  refine g_iadd dJ6_bitCount_0f7a4_22 ?_
  obtain ⟨x2, ex2, h⟩ := g_let h
  refine g_top ex2 ?_
  refine g_istore_0 (Nat.le_of_ble_eq_true rfl) dJ6_bitCount_0f7a4_23 ?_
  refine g_iload_n dJ6_bitCount_0f7a4_24 rfl ?_
  refine g_iload_n dJ6_bitCount_0f7a4_25 rfl ?_
  refine g_ic4 dJ6_bitCount_0f7a4_26 ?_
  refine g_iushr dJ6_bitCount_0f7a4_27 ?_
  refine g_iadd dJ6_bitCount_0f7a4_28 ?_
  refine g_ldcw kc_J6_267 dJ6_bitCount_0f7a4_29 ?_
  refine g_iand dJ6_bitCount_0f7a4_32 ?_
  obtain ⟨x3, ex3, h⟩ := g_let h
  refine g_top ex3 ?_
  refine g_istore_0 (Nat.le_of_ble_eq_true rfl) dJ6_bitCount_0f7a4_33 ?_
  refine g_iload_n dJ6_bitCount_0f7a4_34 rfl ?_
  refine g_iload_n dJ6_bitCount_0f7a4_35 rfl ?_
  refine g_bipush (v := 8) dJ6_bitCount_0f7a4_36 (by decide) ?_
  refine g_iushr dJ6_bitCount_0f7a4_38 ?_
  refine g_iadd dJ6_bitCount_0f7a4_39 ?_
  obtain ⟨x4, ex4, h⟩ := g_let h
  refine g_top ex4 ?_
  refine g_istore_0 (Nat.le_of_ble_eq_true rfl) dJ6_bitCount_0f7a4_40 ?_
  refine g_iload_n dJ6_bitCount_0f7a4_41 rfl ?_
  refine g_iload_n dJ6_bitCount_0f7a4_42 rfl ?_
  refine g_bipush (v := 16) dJ6_bitCount_0f7a4_43 (by decide) ?_
  refine g_iushr dJ6_bitCount_0f7a4_45 ?_
  refine g_iadd dJ6_bitCount_0f7a4_46 ?_
  obtain ⟨x5, ex5, h⟩ := g_let h
  refine g_top ex5 ?_
  refine g_istore_0 (Nat.le_of_ble_eq_true rfl) dJ6_bitCount_0f7a4_47 ?_
  refine g_iload_n dJ6_bitCount_0f7a4_48 rfl ?_
  refine g_bipush (v := 63) dJ6_bitCount_0f7a4_49 (by decide) ?_
  refine g_iand dJ6_bitCount_0f7a4_51 ?_
  obtain rfl := Option.some.inj h
  exact g_iret rfl (Nat.le_refl _) rfl dJ6_bitCount_0f7a4_52 ⟨rfl, rfl⟩
set_option maxRecDepth 100000 in
set_option maxHeartbeats 4000000 in
theorem k_X2_nobodyGoes_L10 {D : va_G} {cA : Nat → ClassId} {b b2 k : Nat} {dyn : Nat → Nat} {t s : Nat} {Q : Option Value → g_S → Prop} {N : Nat} : ∀ (n : Nat) (x_1 : Int32) (x_2 : Int32) (x_3 : Int32) (μ : g_M) (z : (Int32 × g_M) ⊕ (g_M)), f_X2_nobodyGoes_L10 N n x_1 x_2 x_3 μ = some z → (∀ q : Int32 × g_M, z = .inl q → Q (some (.int q.1)) (q.2, (g_rfX t s))) → (∀ (z_μ : g_M), z = .inr z_μ → g_V (g_XX D cA b b2 dyn) Y_X2_nobodyGoes 5 0 0 Q k 0 0 48 [none, none, none, none, none] [] (z_μ, (g_rfX t s))) → g_V (g_XX D cA b b2 dyn) Y_X2_nobodyGoes 5 0 0 Q k 0 0 10 [some (.ref 1), some (.int x_1), some (.int x_2), some (.int x_3), none] [] (μ, (g_rfX t s)) := by
  intro n
  induction n with
  | zero =>
    intro x_1 x_2 x_3 μ z h
    rw [f_X2_nobodyGoes_L10] at h
    cases h
  | succ n ih =>
    intro x_1 x_2 x_3 μ z h hr hc
    rw [f_X2_nobodyGoes_L10] at h
    refine g_iload_n dX2_nobodyGoes_10 rfl ?_
    refine g_aload_n dX2_nobodyGoes_11 rfl ?_
    refine m_getI fl_X2_33 rfl rfl dX2_nobodyGoes_12 ?_
    refine g_icmp_ge 48 (by decide) dX2_nobodyGoes_15 (fun c1 => ?_) (fun c1 => ?_)
    · have h := g_ifp c1 h
      obtain rfl := Option.some.inj h
      exact g_less _ (g_subN (g_subN (g_subN (g_subN (g_subN g_sub0))))) (hc _ rfl)
    · have h := g_ifn c1 h
      refine g_aload_n dX2_nobodyGoes_18 rfl ?_
      refine g_iload_n dX2_nobodyGoes_19 rfl ?_
      refine g_iload_n dX2_nobodyGoes_20 rfl ?_
      refine g_iload_n dX2_nobodyGoes_21 rfl ?_
      obtain ⟨⟨x2, μ4⟩, q3, h⟩ := g_bind h
      refine m_cV mt_X9_after ml_X2_22 mv_X9_after dX2_nobodyGoes_22 (k_X9_after q3) rfl rfl rfl rfl (by decide) ⟨Nat.le_refl _, Nat.le_refl _⟩ (Nat.le_of_ble_eq_true rfl) ?_
      refine g_istore_4 rfl (Nat.le_of_ble_eq_true rfl) dX2_nobodyGoes_25 ?_
      refine g_iload dX2_nobodyGoes_27 rfl ?_
      refine g_aload_n dX2_nobodyGoes_29 rfl ?_
      refine g_iload_n dX2_nobodyGoes_30 rfl ?_
      obtain ⟨x5, q6, h⟩ := g_bind h
      refine m_cV mt_X9_oneLess ml_X2_50 mv_X9_oneLess dX2_nobodyGoes_31 (k_X9_oneLess q6) rfl rfl rfl rfl (by decide) ⟨Nat.le_refl _, Nat.le_refl _⟩ (Nat.le_of_ble_eq_true rfl) ?_
      refine g_icmp_eq 39 (by decide) dX2_nobodyGoes_34 (fun c7 => ?_) (fun c7 => ?_)
      · have h := g_ifp c7 h
        refine g_iload dX2_nobodyGoes_39 rfl ?_
        refine g_istore_2 rfl (Nat.le_of_ble_eq_true rfl) dX2_nobodyGoes_41 ?_
        refine g_iinc_3 (v := 1) rfl (by decide) (Nat.le_of_ble_eq_true rfl) dX2_nobodyGoes_42 ?_
        refine g_goto 10 (by decide) dX2_nobodyGoes_45 ?_
        exact g_less _ (g_subS (g_subS (g_subS (g_subS (g_subN g_sub0))))) (ih _ _ _ _ _ h hr hc)
      · have h := g_ifn c7 h
        refine g_ic0 dX2_nobodyGoes_37 ?_
        obtain rfl := Option.some.inj h
        exact g_zret rfl (Nat.le_refl _) rfl rfl dX2_nobodyGoes_38 (hr _ rfl)
set_option maxRecDepth 100000 in
set_option maxHeartbeats 4000000 in
theorem k_X2_nobodyGoes {D : va_G} {cA : Nat → ClassId} {b b2 k : Nat} {dyn : Nat → Nat} {t s : Nat} {N : Nat} {a1 : Int32} {μ : g_M} {z : Int32 × g_M} (h : f_X2_nobodyGoes N a1 μ = some z) : g_K (g_XX D cA b b2 dyn) yX2_nobodyGoes Y_X2_nobodyGoes 5 0 0 k [.ref 1, .int a1] (μ, (g_rfX t s)) (fun r1 σ1 => r1 = some (.int z.1) ∧ σ1 = (z.2, (g_rfX t s))) := by
  unfold f_X2_nobodyGoes at h
  refine g_met 3 (by decide) rfl rfl (Nat.le_of_ble_eq_true rfl) ?_
  refine g_aload_n dX2_nobodyGoes_0 rfl ?_
  refine m_getI fl_X2_9 rfl rfl dX2_nobodyGoes_1 ?_
  refine g_istore_2 rfl (Nat.le_of_ble_eq_true rfl) dX2_nobodyGoes_4 ?_
  refine g_aload_n dX2_nobodyGoes_5 rfl ?_
  refine m_getI fl_X2_19 rfl rfl dX2_nobodyGoes_6 ?_
  refine g_istore_3 rfl (Nat.le_of_ble_eq_true rfl) dX2_nobodyGoes_9 ?_
  obtain ⟨w3, q2, h⟩ := g_bind h
  refine g_less _ (g_subS (g_subS (g_subS (g_subS (g_subN g_sub0))))) (k_X2_nobodyGoes_L10 _ _ _ _ _ _ q2 ?_ ?_)
  · intro q0 e0
    subst e0
    cases h
    exact ⟨rfl, rfl⟩
  · intro μ1 e0
    subst e0
    try dsimp only at h
    refine g_ic1 dX2_nobodyGoes_48 ?_
    obtain rfl := Option.some.inj h
    exact g_zret rfl (Nat.le_refl _) rfl rfl dX2_nobodyGoes_49 ⟨rfl, rfl⟩
set_option maxRecDepth 100000 in
set_option maxHeartbeats 4000000 in
theorem k_X2_fewestChains_L7 {D : va_G} {cA : Nat → ClassId} {b b2 k : Nat} {dyn : Nat → Nat} {t s : Nat} {Q : Option Value → g_S → Prop} {N : Nat} : ∀ (n : Nat) (x_1 : Int32) (x_2 : Int32) (μ : g_M) (z_1 : Int32) (z_μ : g_M), f_X2_fewestChains_L7 N n x_1 x_2 μ = some (z_1, z_μ) → g_V (g_XX D cA b b2 dyn) Y_X2_fewestChains 6 0 0 Q k 0 0 42 [none, some (.int z_1), none] [] (z_μ, (g_rfX t s)) → g_V (g_XX D cA b b2 dyn) Y_X2_fewestChains 6 0 0 Q k 0 0 7 [some (.ref 1), some (.int x_1), some (.int x_2)] [] (μ, (g_rfX t s)) := by
  intro n
  induction n with
  | zero =>
    intro x_1 x_2 μ z_1 z_μ h
    rw [f_X2_fewestChains_L7] at h
    cases h
  | succ n ih =>
    intro x_1 x_2 μ z_1 z_μ h hc
    rw [f_X2_fewestChains_L7] at h
    refine g_iload_n dX2_fewestChains_7 rfl ?_
    refine g_aload_n dX2_fewestChains_8 rfl ?_
    refine m_cV mt_X9_everybody ml_X2_53 mv_X9_everybody dX2_fewestChains_9 (k_X9_everybody rfl) rfl rfl rfl rfl (by decide) ⟨Nat.le_refl _, Nat.le_refl _⟩ (Nat.le_of_ble_eq_true rfl) ?_
    refine g_icmp_ge 42 (by decide) dX2_fewestChains_12 (fun c2 => ?_) (fun c2 => ?_)
    · have h := g_ifp c2 h
      obtain ⟨rfl, rfl⟩ := g_inj2 h
      exact g_less _ (g_subN (g_subS (g_subN g_sub0))) hc
    · have h := g_ifn c2 h
      refine g_iload_n dX2_fewestChains_15 rfl ?_
      obtain ⟨x3, q4, h⟩ := g_bind h
      refine m_cS mt_J6_bitCount_0f7a4 ml_X2_57 ms_J6_bitCount_0f7a4 dX2_fewestChains_16 (k_J6_bitCount_0f7a4 q4) rfl rfl (by decide) ⟨Nat.le_refl _, Nat.le_refl _⟩ (Nat.le_of_ble_eq_true rfl) ?_
      refine g_iload_n dX2_fewestChains_19 rfl ?_
      obtain ⟨x5, q6, h⟩ := g_bind h
      refine m_cS mt_J6_bitCount_0f7a4 ml_X2_57 ms_J6_bitCount_0f7a4 dX2_fewestChains_20 (k_J6_bitCount_0f7a4 q6) rfl rfl (by decide) ⟨Nat.le_refl _, Nat.le_refl _⟩ (Nat.le_of_ble_eq_true rfl) ?_
      refine g_icmp_ge 36 (by decide) dX2_fewestChains_23 (fun c7 => ?_) (fun c7 => ?_)
      · have h := g_ifp c7 h
        refine g_iinc_2 (v := 1) rfl (by decide) (Nat.le_of_ble_eq_true rfl) dX2_fewestChains_36 ?_
        refine g_goto 7 (by decide) dX2_fewestChains_39 ?_
        exact g_less _ (g_subS (g_subS (g_subS g_sub0))) (ih _ _ _ _ _ h hc)
      · have h := g_ifn c7 h
        refine g_aload_n dX2_fewestChains_26 rfl ?_
        refine g_iload_n dX2_fewestChains_27 rfl ?_
        obtain ⟨⟨x8, μ10⟩, q9, h⟩ := g_bind h
        refine m_cS mt_X2_nobodyGoes ml_X2_62 ms_X2_nobodyGoes dX2_fewestChains_28 (k_X2_nobodyGoes q9) rfl rfl (by decide) ⟨Nat.le_refl _, Nat.le_refl _⟩ (Nat.le_of_ble_eq_true rfl) ?_
        refine g_if_eq 36 (by decide) dX2_fewestChains_31 (fun c11 => ?_) (fun c11 => ?_)
        · have h := g_ifp c11 h
          refine g_iinc_2 (v := 1) rfl (by decide) (Nat.le_of_ble_eq_true rfl) dX2_fewestChains_36 ?_
          refine g_goto 7 (by decide) dX2_fewestChains_39 ?_
          exact g_less _ (g_subS (g_subS (g_subS g_sub0))) (ih _ _ _ _ _ h hc)
        · have h := g_ifn c11 h
          refine g_iload_n dX2_fewestChains_34 rfl ?_
          refine g_istore_1 rfl (Nat.le_of_ble_eq_true rfl) dX2_fewestChains_35 ?_
          refine g_iinc_2 (v := 1) rfl (by decide) (Nat.le_of_ble_eq_true rfl) dX2_fewestChains_36 ?_
          refine g_goto 7 (by decide) dX2_fewestChains_39 ?_
          exact g_less _ (g_subS (g_subS (g_subS g_sub0))) (ih _ _ _ _ _ h hc)
set_option maxRecDepth 100000 in
set_option maxHeartbeats 4000000 in
theorem k_X2_fewestChains {D : va_G} {cA : Nat → ClassId} {b b2 k : Nat} {dyn : Nat → Nat} {t s : Nat} {N : Nat} {μ : g_M} {z : Int32 × g_M} (h : f_X2_fewestChains N μ = some z) : g_K (g_XX D cA b b2 dyn) yX2_fewestChains Y_X2_fewestChains 6 0 0 k [.ref 1] (μ, (g_rfX t s)) (fun r1 σ1 => r1 = some (.int z.1) ∧ σ1 = (z.2, (g_rfX t s))) := by
  unfold f_X2_fewestChains at h
  refine g_met 2 (by decide) rfl rfl (Nat.le_of_ble_eq_true rfl) ?_
  refine g_aload_n dX2_fewestChains_0 rfl ?_
  refine m_cV mt_X9_everybody ml_X2_53 mv_X9_everybody dX2_fewestChains_1 (k_X9_everybody rfl) rfl rfl rfl rfl (by decide) ⟨Nat.le_refl _, Nat.le_refl _⟩ (Nat.le_of_ble_eq_true rfl) ?_
  obtain ⟨x1, ex1, h⟩ := g_let h
  refine g_top ex1 ?_
  refine g_istore_1 rfl (Nat.le_of_ble_eq_true rfl) dX2_fewestChains_4 ?_
  refine g_ic0 dX2_fewestChains_5 ?_
  refine g_istore_2 rfl (Nat.le_of_ble_eq_true rfl) dX2_fewestChains_6 ?_
  obtain ⟨⟨x2, μ3⟩, q4, h⟩ := g_bind h
  refine g_less _ (g_subS (g_subS (g_subS g_sub0))) (k_X2_fewestChains_L7 _ _ _ _ _ _ q4 ?_)
  refine g_iload_n dX2_fewestChains_42 rfl ?_
  obtain rfl := Option.some.inj h
  exact g_iret rfl (Nat.le_refl _) rfl dX2_fewestChains_43 ⟨rfl, rfl⟩
set_option maxRecDepth 100000 in
set_option maxHeartbeats 4000000 in
theorem k_X11_chains {D : va_G} {cA : Nat → ClassId} {b b2 k : Nat} {dyn : Nat → Nat} {t s : Nat} {N : Nat} {a1 : Int32} {μ : g_M} {z : Int32 × g_M} (h : f_X11_chains N a1 μ = some z) : g_K (g_XX D cA b b2 dyn) yX11_chains Y_X11_chains 7 0 0 k [.ref 0, .int a1] (μ, (g_rfX t s)) (fun r1 σ1 => r1 = some (.int z.1) ∧ σ1 = (z.2, (g_rfX t s))) := by
  unfold f_X11_chains at h
  refine g_met 1 (by decide) rfl rfl (Nat.le_of_ble_eq_true rfl) ?_
  refine g_iload_n dX11_chains_0 rfl ?_
  refine g_ic0 dX11_chains_1 ?_
  refine g_ic1 dX11_chains_2 ?_
  refine m_cS mt_X11_isBetween ml_X11_120 ms_X11_isBetween dX11_chains_3 (k_X11_isBetween rfl) rfl rfl (by decide) ⟨Nat.le_refl _, Nat.le_refl _⟩ (Nat.le_of_ble_eq_true rfl) ?_
  refine g_if_ne 11 (by decide) dX11_chains_6 (fun c1 => ?_) (fun c1 => ?_)
  · have h := g_ifn c1 h
    refine g_aload_n dX11_chains_11 rfl ?_
    refine m_getR fl_X11_10 rfl rfl rfl dX11_chains_12 ?_
    obtain ⟨⟨x2, μ4⟩, q3, h⟩ := g_bind h
    refine m_cS mt_X2_fewestChains ml_X11_195 ms_X2_fewestChains dX11_chains_15 (k_X2_fewestChains q3) rfl rfl (by decide) ⟨Nat.le_refl _, Nat.le_refl _⟩ (Nat.le_of_ble_eq_true rfl) ?_
    refine g_istore_2 rfl (Nat.le_of_ble_eq_true rfl) dX11_chains_18 ?_
    refine g_iload_n dX11_chains_19 rfl ?_
    refine g_if_ne 27 (by decide) dX11_chains_20 (fun c5 => ?_) (fun c5 => ?_)
    · have h := g_ifn c5 h
      refine g_iload_n dX11_chains_27 rfl ?_
      obtain ⟨x6, q7, h⟩ := g_bind h
      refine m_cS mt_J6_bitCount_0f7a4 ml_X11_198 ms_J6_bitCount_0f7a4 dX11_chains_28 (k_J6_bitCount_0f7a4 q7) rfl rfl (by decide) ⟨Nat.le_refl _, Nat.le_refl _⟩ (Nat.le_of_ble_eq_true rfl) ?_
      obtain rfl := Option.some.inj h
      exact g_iret rfl (Nat.le_refl _) rfl dX11_chains_31 ⟨rfl, rfl⟩
    · have h := g_ifp c5 h
      refine g_iload_n dX11_chains_23 rfl ?_
      refine g_goto 31 (by decide) dX11_chains_24 ?_
      obtain rfl := Option.some.inj h
      exact g_iret rfl (Nat.le_refl _) rfl dX11_chains_31 ⟨rfl, rfl⟩
  · have h := g_ifp c1 h
    refine g_icm1 dX11_chains_9 ?_
    obtain rfl := Option.some.inj h
    exact g_iret rfl (Nat.le_refl _) rfl dX11_chains_10 ⟨rfl, rfl⟩
set_option maxRecDepth 100000 in
set_option maxHeartbeats 4000000 in
theorem k_X11_isPlan {D : va_G} {cA : Nat → ClassId} {b b2 k : Nat} {dyn : Nat → Nat} {t s : Nat} {a1 : Int32} {μ : g_M} {z : Int32} (h : f_X11_isPlan a1 = z) : g_K (g_XX D cA b b2 dyn) yX11_isPlan Y_X11_isPlan 2 0 0 k [.int a1] (μ, (g_rfX t s)) (fun r1 σ1 => r1 = some (.int z) ∧ σ1 = (μ, (g_rfX t s))) := by
  unfold f_X11_isPlan at h
  refine g_met 0 (by decide) rfl rfl (Nat.le_of_ble_eq_true rfl) ?_
  refine g_iload_n dX11_isPlan_0 rfl ?_
  refine g_ic0 dX11_isPlan_1 ?_
  refine g_ic4 dX11_isPlan_2 ?_
  refine m_cS mt_X11_isBetween ml_X11_120 ms_X11_isBetween dX11_isPlan_3 (k_X11_isBetween rfl) rfl rfl (by decide) ⟨Nat.le_refl _, Nat.le_refl _⟩ (Nat.le_of_ble_eq_true rfl) ?_
  subst h
  exact g_zret rfl (Nat.le_refl _) rfl (zb_X11_isBetween a1 0 4) dX11_isPlan_6 ⟨rfl, rfl⟩
set_option maxRecDepth 100000 in
set_option maxHeartbeats 4000000 in
theorem zb_X11_isPlan (a1 : Int32) : narrow .boolean (.int (f_X11_isPlan a1)) = .int (f_X11_isPlan a1) := by
  unfold f_X11_isPlan
  repeat' split
  all_goals first | rfl | apply zb_X11_isBetween
set_option maxRecDepth 100000 in
set_option maxHeartbeats 4000000 in
theorem k_X11_chainOf {D : va_G} {cA : Nat → ClassId} {b b2 k : Nat} {dyn : Nat → Nat} {t s : Nat} {a1 : Int32} {μ : g_M} {z : Int32} (h : f_X11_chainOf a1 = z) : g_K (g_XX D cA b b2 dyn) yX11_chainOf Y_X11_chainOf 1 0 0 k [.int a1] (μ, (g_rfX t s)) (fun r1 σ1 => r1 = some (.int z) ∧ σ1 = (μ, (g_rfX t s))) := by
  unfold f_X11_chainOf at h
  refine g_met 0 (by decide) rfl rfl (Nat.le_of_ble_eq_true rfl) ?_
  refine g_iload_n dX11_chainOf_0 rfl ?_
  refine g_if_gt 8 (by decide) dX11_chainOf_1 (fun c1 => ?_) (fun c1 => ?_)
  · have h := g_ifp c1 h
    refine g_ic1 dX11_chainOf_8 ?_
    refine g_iload_n dX11_chainOf_9 rfl ?_
    refine g_ic1 dX11_chainOf_10 ?_
    refine g_isub dX11_chainOf_11 ?_
    refine g_ishl dX11_chainOf_12 ?_
    subst h
    exact g_iret rfl (Nat.le_refl _) rfl dX11_chainOf_13 ⟨rfl, rfl⟩
  · have h := g_ifn c1 h
    refine g_ic0 dX11_chainOf_4 ?_
    refine g_goto 13 (by decide) dX11_chainOf_5 ?_
    subst h
    exact g_iret rfl (Nat.le_refl _) rfl dX11_chainOf_13 ⟨rfl, rfl⟩
set_option maxRecDepth 100000 in
set_option maxHeartbeats 4000000 in
theorem k_X2_mostWorth_L20 {D : va_G} {cA : Nat → ClassId} {b b2 k : Nat} {dyn : Nat → Nat} {t s : Nat} {Q : Option Value → g_S → Prop} {F : Int32 → Int32 → Int32 → g_M → Option (Int32 × g_M)} {d0 : Nat} (hF : ∀ (a1 : Int32) (a2 : Int32) (a3 : Int32) (μ : g_M) (z : Int32 × g_M), F a1 a2 a3 μ = some z → g_K (g_XX D cA b b2 dyn) yX2_mostWorth Y_X2_mostWorth d0 0 0 k [.ref 1, .int a1, .int a2, .int a3] (μ, (g_rfX t s)) (fun r1 σ1 => r1 = some (.int z.1) ∧ σ1 = (z.2, (g_rfX t s)))) {N : Nat} : ∀ (n : Nat) (x_1 : Int32) (x_2 : Int32) (x_3 : Int32) (x_4 : Int32) (x_5 : Int32) (μ : g_M) (z_4 : Int32) (z_μ : g_M), f_X2_mostWorth_L20 F N n x_1 x_2 x_3 x_4 x_5 μ = some (z_4, z_μ) → g_V (g_XX D cA b b2 dyn) Y_X2_mostWorth (d0 + 6) 0 0 Q k 0 0 75 [none, none, none, none, some (.int z_4), none, none] [] (z_μ, (g_rfX t s)) → g_V (g_XX D cA b b2 dyn) Y_X2_mostWorth (d0 + 6) 0 0 Q k 0 0 20 [some (.ref 1), some (.int x_1), some (.int x_2), some (.int x_3), some (.int x_4), some (.int x_5), none] [] (μ, (g_rfX t s)) := by
  intro n
  induction n with
  | zero =>
    intro x_1 x_2 x_3 x_4 x_5 μ z_4 z_μ h
    rw [f_X2_mostWorth_L20] at h
    cases h
  | succ n ih =>
    intro x_1 x_2 x_3 x_4 x_5 μ z_4 z_μ h hc
    rw [f_X2_mostWorth_L20] at h
    refine g_iload dX2_mostWorth_20 rfl ?_
    refine g_aload_n dX2_mostWorth_22 rfl ?_
    refine m_getI fl_X2_73 rfl rfl dX2_mostWorth_23 ?_
    refine g_icmp_gt 75 (by decide) dX2_mostWorth_26 (fun c3 => ?_) (fun c3 => ?_)
    · have h := g_ifp c3 h
      obtain ⟨rfl, rfl⟩ := g_inj2 h
      exact g_less _ (g_subN (g_subN (g_subN (g_subN (g_subS (g_subN (g_subN g_sub0))))))) hc
    · have h := g_ifn c3 h
      refine g_aload_n dX2_mostWorth_29 rfl ?_
      refine g_iload_n dX2_mostWorth_30 rfl ?_
      refine g_iload_n dX2_mostWorth_31 rfl ?_
      refine g_iload dX2_mostWorth_32 rfl ?_
      refine m_cSN mt_X11_chainOf mn_X2_95 ms_X11_chainOf dX2_mostWorth_34 (k_X11_chainOf rfl) rfl rfl (by omega) ⟨Nat.le_refl _, Nat.le_refl _⟩ (Nat.le_of_ble_eq_true rfl) ?_
      obtain ⟨⟨x4, μ6⟩, q5, h⟩ := g_bind h
      refine m_cV mt_X9_after ml_X2_22 mv_X9_after dX2_mostWorth_37 (k_X9_after q5) rfl rfl rfl rfl (by omega) ⟨Nat.le_refl _, Nat.le_refl _⟩ (Nat.le_of_ble_eq_true rfl) ?_
      refine g_istore_6 rfl (Nat.le_of_ble_eq_true rfl) dX2_mostWorth_40 ?_
      refine g_iload dX2_mostWorth_42 rfl ?_
      refine g_aload_n dX2_mostWorth_44 rfl ?_
      refine g_iload dX2_mostWorth_45 rfl ?_
      refine g_iload_n dX2_mostWorth_47 rfl ?_
      obtain ⟨x7, q8, h⟩ := g_bind h
      refine m_cV mt_X9_worthOf ml_X2_26 mv_X9_worthOf dX2_mostWorth_48 (k_X9_worthOf q8) rfl rfl rfl rfl (by omega) ⟨Nat.le_refl _, Nat.le_refl _⟩ (Nat.le_of_ble_eq_true rfl) ?_
      refine g_aload_n dX2_mostWorth_51 rfl ?_
      refine g_iload dX2_mostWorth_52 rfl ?_
      refine g_iload_n dX2_mostWorth_54 rfl ?_
      refine g_ic1 dX2_mostWorth_55 ?_
      refine g_iadd dX2_mostWorth_56 ?_
      refine g_iload_n dX2_mostWorth_57 rfl ?_
      refine g_ic1 dX2_mostWorth_58 ?_
      refine g_isub dX2_mostWorth_59 ?_
      obtain ⟨⟨x9, μ11⟩, q10, h⟩ := g_bind h
      refine m_cS mt_X2_mostWorth ml_X2_91 ms_X2_mostWorth dX2_mostWorth_60 (hF _ _ _ _ _ q10) rfl rfl (by omega) ⟨Nat.le_refl _, Nat.le_refl _⟩ (Nat.le_of_ble_eq_true rfl) ?_
      refine g_iadd dX2_mostWorth_63 ?_
      refine m_max ml_X2_83 dX2_mostWorth_64 (by omega) ⟨Nat.le_refl _, Nat.le_refl _⟩ (Nat.le_of_ble_eq_true rfl) ?_
      obtain ⟨x12, ex12, h⟩ := g_let h
      refine g_top ex12 ?_
      refine g_istore_4 rfl (Nat.le_of_ble_eq_true rfl) dX2_mostWorth_67 ?_
      refine g_iinc_5 (v := 1) rfl (by decide) (Nat.le_of_ble_eq_true rfl) dX2_mostWorth_69 ?_
      refine g_goto 20 (by decide) dX2_mostWorth_72 ?_
      exact g_less _ (g_subS (g_subS (g_subS (g_subS (g_subS (g_subS (g_subN g_sub0))))))) (ih _ _ _ _ _ _ _ _ h hc)
set_option maxRecDepth 100000 in
set_option maxHeartbeats 4000000 in
theorem k_X2_mostWorth {D : va_G} {cA : Nat → ClassId} {b b2 k : Nat} {dyn : Nat → Nat} {t s : Nat} {N : Nat} : ∀ (n : Nat) (a1 : Int32) (a2 : Int32) (a3 : Int32) (μ : g_M) (z : Int32 × g_M), f_X2_mostWorth N n a1 a2 a3 μ = some z → g_K (g_XX D cA b b2 dyn) yX2_mostWorth Y_X2_mostWorth (6 * n) 0 0 k [.ref 1, .int a1, .int a2, .int a3] (μ, (g_rfX t s)) (fun r1 σ1 => r1 = some (.int z.1) ∧ σ1 = (z.2, (g_rfX t s))) := by
  intro n
  induction n with
  | zero =>
    intro a1 a2 a3 μ z h
    rw [f_X2_mostWorth] at h
    cases h
  | succ n hF =>
    intro a1 a2 a3 μ z h
    rw [f_X2_mostWorth] at h
    refine g_met (d := 6 * n + 6) 3 (by decide) rfl rfl (Nat.le_of_ble_eq_true rfl) ?_
    refine g_iload_n dX2_mostWorth_0 rfl ?_
    refine g_if_le 12 (by decide) dX2_mostWorth_1 (fun c1 => ?_) (fun c1 => ?_)
    · have h := g_ifp c1 h
      refine g_ic0 dX2_mostWorth_12 ?_
      obtain rfl := Option.some.inj h
      exact g_iret rfl (Nat.le_refl _) rfl dX2_mostWorth_13 ⟨rfl, rfl⟩
    · have h := g_ifn c1 h
      refine g_iload_n dX2_mostWorth_4 rfl ?_
      refine g_aload_n dX2_mostWorth_5 rfl ?_
      refine m_getI fl_X2_33 rfl rfl dX2_mostWorth_6 ?_
      refine g_icmp_lt 14 (by decide) dX2_mostWorth_9 (fun c2 => ?_) (fun c2 => ?_)
      · have h := g_ifp c2 h
        refine g_ic0 dX2_mostWorth_14 ?_
        refine g_istore_4 rfl (Nat.le_of_ble_eq_true rfl) dX2_mostWorth_15 ?_
        refine g_ic0 dX2_mostWorth_17 ?_
        refine g_istore_5 rfl (Nat.le_of_ble_eq_true rfl) dX2_mostWorth_18 ?_
        obtain ⟨⟨x3, μ4⟩, q5, h⟩ := g_bind h
        refine g_less _ (g_subS (g_subS (g_subS (g_subS (g_subS (g_subS (g_subN g_sub0))))))) (k_X2_mostWorth_L20 hF _ _ _ _ _ _ _ _ _ q5 ?_)
        refine g_iload dX2_mostWorth_75 rfl ?_
        obtain rfl := Option.some.inj h
        exact g_iret rfl (Nat.le_refl _) rfl dX2_mostWorth_77 ⟨rfl, rfl⟩
      · have h := g_ifn c2 h
        refine g_ic0 dX2_mostWorth_12 ?_
        obtain rfl := Option.some.inj h
        exact g_iret rfl (Nat.le_refl _) rfl dX2_mostWorth_13 ⟨rfl, rfl⟩
set_option maxRecDepth 100000 in
set_option maxHeartbeats 4000000 in
theorem k_X2_bestWorth {D : va_G} {cA : Nat → ClassId} {b b2 k : Nat} {dyn : Nat → Nat} {t s : Nat} {N : Nat} {a1 : Int32} {μ : g_M} {z : Int32 × g_M} (h : f_X2_bestWorth N a1 μ = some z) : g_K (g_XX D cA b b2 dyn) yX2_bestWorth Y_X2_bestWorth 37 0 0 k [.ref 1, .int a1] (μ, (g_rfX t s)) (fun r1 σ1 => r1 = some (.int z.1) ∧ σ1 = (z.2, (g_rfX t s))) := by
  unfold f_X2_bestWorth at h
  refine g_met 0 (by decide) rfl rfl (Nat.le_of_ble_eq_true rfl) ?_
  refine g_aload_n dX2_bestWorth_0 rfl ?_
  refine g_aload_n dX2_bestWorth_1 rfl ?_
  refine m_getI fl_X2_9 rfl rfl dX2_bestWorth_2 ?_
  refine g_aload_n dX2_bestWorth_5 rfl ?_
  refine m_getI fl_X2_19 rfl rfl dX2_bestWorth_6 ?_
  refine g_iload_n dX2_bestWorth_9 rfl ?_
  obtain ⟨⟨x1, μ3⟩, q2, h⟩ := g_bind h
  refine m_cS mt_X2_mostWorth ml_X2_91 ms_X2_mostWorth dX2_bestWorth_10 (k_X2_mostWorth _ _ _ _ _ _ q2) rfl rfl (by decide) ⟨Nat.le_refl _, Nat.le_refl _⟩ (Nat.le_of_ble_eq_true rfl) ?_
  obtain rfl := Option.some.inj h
  exact g_iret rfl (Nat.le_refl _) rfl dX2_bestWorth_13 ⟨rfl, rfl⟩
set_option maxRecDepth 100000 in
set_option maxHeartbeats 4000000 in
theorem k_X11_best {D : va_G} {cA : Nat → ClassId} {b b2 k : Nat} {dyn : Nat → Nat} {t s : Nat} {N : Nat} {a1 : Int32} {μ : g_M} {z : Int32 × g_M} (h : f_X11_best N a1 μ = some z) : g_K (g_XX D cA b b2 dyn) yX11_best Y_X11_best 38 0 0 k [.ref 0, .int a1] (μ, (g_rfX t s)) (fun r1 σ1 => r1 = some (.int z.1) ∧ σ1 = (z.2, (g_rfX t s))) := by
  unfold f_X11_best at h
  refine g_met 0 (by decide) rfl rfl (Nat.le_of_ble_eq_true rfl) ?_
  refine g_iload_n dX11_best_0 rfl ?_
  refine m_cS mt_X11_isPlan ml_X11_203 ms_X11_isPlan dX11_best_1 (k_X11_isPlan rfl) rfl rfl (by decide) ⟨Nat.le_refl _, Nat.le_refl _⟩ (Nat.le_of_ble_eq_true rfl) ?_
  refine g_if_eq 18 (by decide) dX11_best_4 (fun c1 => ?_) (fun c1 => ?_)
  · have h := g_ifp c1 h
    refine g_icm1 dX11_best_18 ?_
    obtain rfl := Option.some.inj h
    exact g_iret rfl (Nat.le_refl _) rfl dX11_best_19 ⟨rfl, rfl⟩
  · have h := g_ifn c1 h
    refine g_aload_n dX11_best_7 rfl ?_
    refine m_getR fl_X11_10 rfl rfl rfl dX11_best_8 ?_
    refine g_iload_n dX11_best_11 rfl ?_
    obtain ⟨⟨x2, μ4⟩, q3, h⟩ := g_bind h
    refine m_cS mt_X2_bestWorth ml_X11_206 ms_X2_bestWorth dX11_best_12 (k_X2_bestWorth q3) rfl rfl (by decide) ⟨Nat.le_refl _, Nat.le_refl _⟩ (Nat.le_of_ble_eq_true rfl) ?_
    refine g_goto 19 (by decide) dX11_best_15 ?_
    obtain rfl := Option.some.inj h
    exact g_iret rfl (Nat.le_refl _) rfl dX11_best_19 ⟨rfl, rfl⟩
set_option maxRecDepth 100000 in
set_option maxHeartbeats 4000000 in
theorem k_X2_firstBestAct_L9 {D : va_G} {cA : Nat → ClassId} {b b2 k : Nat} {dyn : Nat → Nat} {t s : Nat} {Q : Option Value → g_S → Prop} {N : Nat} : ∀ (n : Nat) (x_1 : Int32) (x_2 : Int32) (x_3 : Int32) (x_4 : Int32) (x_5 : Int32) (x_6 : Int32) (μ : g_M) (z_4 : Int32) (z_μ : g_M), f_X2_firstBestAct_L9 N n x_1 x_2 x_3 x_4 x_5 x_6 μ = some (z_4, z_μ) → g_V (g_XX D cA b b2 dyn) Y_X2_firstBestAct 37 0 0 Q k 0 0 74 [none, none, none, none, some (.int z_4), none, none, none, none] [] (z_μ, (g_rfX t s)) → g_V (g_XX D cA b b2 dyn) Y_X2_firstBestAct 37 0 0 Q k 0 0 9 [some (.ref 1), some (.int x_1), some (.int x_2), some (.int x_3), some (.int x_4), some (.int x_5), some (.int x_6), none, none] [] (μ, (g_rfX t s)) := by
  intro n
  induction n with
  | zero =>
    intro x_1 x_2 x_3 x_4 x_5 x_6 μ z_4 z_μ h
    rw [f_X2_firstBestAct_L9] at h
    cases h
  | succ n ih =>
    intro x_1 x_2 x_3 x_4 x_5 x_6 μ z_4 z_μ h hc
    rw [f_X2_firstBestAct_L9] at h
    refine g_iload dX2_firstBestAct_9 rfl ?_
    refine g_aload_n dX2_firstBestAct_11 rfl ?_
    refine m_getI fl_X2_73 rfl rfl dX2_firstBestAct_12 ?_
    refine g_icmp_gt 74 (by decide) dX2_firstBestAct_15 (fun c1 => ?_) (fun c1 => ?_)
    · have h := g_ifp c1 h
      obtain ⟨rfl, rfl⟩ := g_inj2 h
      exact g_less _ (g_subN (g_subN (g_subN (g_subN (g_subS (g_subN (g_subN (g_subN (g_subN g_sub0))))))))) hc
    · have h := g_ifn c1 h
      refine g_aload_n dX2_firstBestAct_18 rfl ?_
      refine g_iload_n dX2_firstBestAct_19 rfl ?_
      refine g_iload_n dX2_firstBestAct_20 rfl ?_
      refine g_iload dX2_firstBestAct_21 rfl ?_
      refine m_cSN mt_X11_chainOf mn_X2_95 ms_X11_chainOf dX2_firstBestAct_23 (k_X11_chainOf rfl) rfl rfl (by decide) ⟨Nat.le_refl _, Nat.le_refl _⟩ (Nat.le_of_ble_eq_true rfl) ?_
      obtain ⟨⟨x2, μ4⟩, q3, h⟩ := g_bind h
      refine m_cV mt_X9_after ml_X2_22 mv_X9_after dX2_firstBestAct_26 (k_X9_after q3) rfl rfl rfl rfl (by decide) ⟨Nat.le_refl _, Nat.le_refl _⟩ (Nat.le_of_ble_eq_true rfl) ?_
      refine g_istore_7 rfl (Nat.le_of_ble_eq_true rfl) dX2_firstBestAct_29 ?_
      refine g_aload_n dX2_firstBestAct_31 rfl ?_
      refine g_iload dX2_firstBestAct_32 rfl ?_
      refine g_iload_n dX2_firstBestAct_34 rfl ?_
      obtain ⟨x5, q6, h⟩ := g_bind h
      refine m_cV mt_X9_worthOf ml_X2_26 mv_X9_worthOf dX2_firstBestAct_35 (k_X9_worthOf q6) rfl rfl rfl rfl (by decide) ⟨Nat.le_refl _, Nat.le_refl _⟩ (Nat.le_of_ble_eq_true rfl) ?_
      refine g_aload_n dX2_firstBestAct_38 rfl ?_
      refine g_iload dX2_firstBestAct_39 rfl ?_
      refine g_iload_n dX2_firstBestAct_41 rfl ?_
      refine g_ic1 dX2_firstBestAct_42 ?_
      refine g_iadd dX2_firstBestAct_43 ?_
      refine g_iload_n dX2_firstBestAct_44 rfl ?_
      refine g_ic1 dX2_firstBestAct_45 ?_
      refine g_isub dX2_firstBestAct_46 ?_
      obtain ⟨⟨x7, μ9⟩, q8, h⟩ := g_bind h
      refine m_cS mt_X2_mostWorth ml_X2_91 ms_X2_mostWorth dX2_firstBestAct_47 (k_X2_mostWorth _ _ _ _ _ _ q8) rfl rfl (by decide) ⟨Nat.le_refl _, Nat.le_refl _⟩ (Nat.le_of_ble_eq_true rfl) ?_
      refine g_iadd dX2_firstBestAct_50 ?_
      obtain ⟨x10, ex10, h⟩ := g_let h
      refine g_top ex10 ?_
      refine g_istore_8 rfl (Nat.le_of_ble_eq_true rfl) dX2_firstBestAct_51 ?_
      refine g_iload dX2_firstBestAct_53 rfl ?_
      refine g_iload dX2_firstBestAct_55 rfl ?_
      refine g_icmp_le 68 (by decide) dX2_firstBestAct_57 (fun c11 => ?_) (fun c11 => ?_)
      · have h := g_ifp c11 h
        refine g_iinc_6 (v := 1) rfl (by decide) (Nat.le_of_ble_eq_true rfl) dX2_firstBestAct_68 ?_
        refine g_goto 9 (by decide) dX2_firstBestAct_71 ?_
        exact g_less _ (g_subS (g_subS (g_subS (g_subS (g_subS (g_subS (g_subS (g_subN (g_subN g_sub0))))))))) (ih _ _ _ _ _ _ _ _ _ h hc)
      · have h := g_ifn c11 h
        refine g_iload dX2_firstBestAct_60 rfl ?_
        refine g_istore_5 rfl (Nat.le_of_ble_eq_true rfl) dX2_firstBestAct_62 ?_
        refine g_iload dX2_firstBestAct_64 rfl ?_
        refine g_istore_4 rfl (Nat.le_of_ble_eq_true rfl) dX2_firstBestAct_66 ?_
        refine g_iinc_6 (v := 1) rfl (by decide) (Nat.le_of_ble_eq_true rfl) dX2_firstBestAct_68 ?_
        refine g_goto 9 (by decide) dX2_firstBestAct_71 ?_
        exact g_less _ (g_subS (g_subS (g_subS (g_subS (g_subS (g_subS (g_subS (g_subN (g_subN g_sub0))))))))) (ih _ _ _ _ _ _ _ _ _ h hc)
set_option maxRecDepth 100000 in
set_option maxHeartbeats 4000000 in
theorem k_X2_firstBestAct {D : va_G} {cA : Nat → ClassId} {b b2 k : Nat} {dyn : Nat → Nat} {t s : Nat} {N : Nat} {a1 : Int32} {a2 : Int32} {a3 : Int32} {μ : g_M} {z : Int32 × g_M} (h : f_X2_firstBestAct N a1 a2 a3 μ = some z) : g_K (g_XX D cA b b2 dyn) yX2_firstBestAct Y_X2_firstBestAct 37 0 0 k [.ref 1, .int a1, .int a2, .int a3] (μ, (g_rfX t s)) (fun r1 σ1 => r1 = some (.int z.1) ∧ σ1 = (z.2, (g_rfX t s))) := by
  unfold f_X2_firstBestAct at h
  refine g_met 5 (by decide) rfl rfl (Nat.le_of_ble_eq_true rfl) ?_
  refine g_ic0 dX2_firstBestAct_0 ?_
  refine g_istore_4 rfl (Nat.le_of_ble_eq_true rfl) dX2_firstBestAct_1 ?_
  refine g_icm1 dX2_firstBestAct_3 ?_
  refine g_istore_5 rfl (Nat.le_of_ble_eq_true rfl) dX2_firstBestAct_4 ?_
  refine g_ic0 dX2_firstBestAct_6 ?_
  refine g_istore_6 rfl (Nat.le_of_ble_eq_true rfl) dX2_firstBestAct_7 ?_
  obtain ⟨⟨x1, μ2⟩, q3, h⟩ := g_bind h
  refine g_less _ (g_subS (g_subS (g_subS (g_subS (g_subS (g_subS (g_subS (g_subN (g_subN g_sub0))))))))) (k_X2_firstBestAct_L9 _ _ _ _ _ _ _ _ _ _ q3 ?_)
  refine g_iload dX2_firstBestAct_74 rfl ?_
  obtain rfl := Option.some.inj h
  exact g_iret rfl (Nat.le_refl _) rfl dX2_firstBestAct_76 ⟨rfl, rfl⟩
set_option maxRecDepth 100000 in
set_option maxHeartbeats 4000000 in
theorem k_X11_ith_L44 {D : va_G} {cA : Nat → ClassId} {b b2 k : Nat} {dyn : Nat → Nat} {t s : Nat} {Q : Option Value → g_S → Prop} {N : Nat} : ∀ (n : Nat) (x_1 : Int32) (x_2 : Int32) (x_3 : Int32) (x_4 : Int32) (μ : g_M) (z_3 : Int32) (z_μ : g_M), f_X11_ith_L44 N n x_1 x_2 x_3 x_4 μ = some (z_3, z_μ) → g_V (g_XX D cA b b2 dyn) Y_X11_ith 38 0 0 Q k 0 0 104 [some (.ref 0), some (.int x_1), some (.int x_2), some (.int z_3), none, none] [] (z_μ, (g_rfX t s)) → g_V (g_XX D cA b b2 dyn) Y_X11_ith 38 0 0 Q k 0 0 44 [some (.ref 0), some (.int x_1), some (.int x_2), some (.int x_3), some (.int x_4), none] [] (μ, (g_rfX t s)) := by
  intro n
  induction n with
  | zero =>
    intro x_1 x_2 x_3 x_4 μ z_3 z_μ h
    rw [f_X11_ith_L44] at h
    cases h
  | succ n ih =>
    intro x_1 x_2 x_3 x_4 μ z_3 z_μ h hc
    rw [f_X11_ith_L44] at h
    refine g_iload dX11_ith_44 rfl ?_
    refine g_iload_n dX11_ith_46 rfl ?_
    refine g_icmp_ge 104 (by decide) dX11_ith_47 (fun c4 => ?_) (fun c4 => ?_)
    · have h := g_ifp c4 h
      obtain ⟨rfl, rfl⟩ := g_inj2 h
      exact g_less _ (g_subS (g_subS (g_subS (g_subS (g_subN (g_subN g_sub0)))))) hc
    · have h := g_ifn c4 h
      refine g_aload_n dX11_ith_50 rfl ?_
      refine m_getR fl_X11_10 rfl rfl rfl dX11_ith_51 ?_
      refine g_iload_n dX11_ith_54 rfl ?_
      refine g_aload_n dX11_ith_55 rfl ?_
      refine m_getR fl_X11_10 rfl rfl rfl dX11_ith_56 ?_
      refine m_getI fl_X11_100 rfl rfl dX11_ith_59 ?_
      refine g_iload dX11_ith_62 rfl ?_
      refine g_iadd dX11_ith_64 ?_
      refine g_iload_n dX11_ith_65 rfl ?_
      refine g_iload dX11_ith_66 rfl ?_
      refine g_isub dX11_ith_68 ?_
      obtain ⟨⟨x5, μ7⟩, q6, h⟩ := g_bind h
      refine m_cS mt_X2_firstBestAct ml_X11_212 ms_X2_firstBestAct dX11_ith_69 (k_X2_firstBestAct q6) rfl rfl (by decide) ⟨Nat.le_refl _, Nat.le_refl _⟩ (Nat.le_of_ble_eq_true rfl) ?_
      refine g_istore_5 rfl (Nat.le_of_ble_eq_true rfl) dX11_ith_72 ?_
      refine g_aload_n dX11_ith_74 rfl ?_
      refine m_getR fl_X11_10 rfl rfl rfl dX11_ith_75 ?_
      refine g_iload_n dX11_ith_78 rfl ?_
      refine g_aload_n dX11_ith_79 rfl ?_
      refine m_getR fl_X11_10 rfl rfl rfl dX11_ith_80 ?_
      refine m_getI fl_X11_100 rfl rfl dX11_ith_83 ?_
      refine g_iload dX11_ith_86 rfl ?_
      refine g_iadd dX11_ith_88 ?_
      refine g_iload dX11_ith_89 rfl ?_
      refine m_cS mt_X11_chainOf ml_X11_216 ms_X11_chainOf dX11_ith_91 (k_X11_chainOf rfl) rfl rfl (by decide) ⟨Nat.le_refl _, Nat.le_refl _⟩ (Nat.le_of_ble_eq_true rfl) ?_
      obtain ⟨⟨x8, μ10⟩, q9, h⟩ := g_bind h
      refine m_cV mt_X9_after ml_X11_219 mv_X9_after dX11_ith_94 (k_X9_after q9) rfl rfl rfl rfl (by decide) ⟨Nat.le_refl _, Nat.le_refl _⟩ (Nat.le_of_ble_eq_true rfl) ?_
      refine g_istore_3 rfl (Nat.le_of_ble_eq_true rfl) dX11_ith_97 ?_
      refine g_iinc_4 (v := 1) rfl (by decide) (Nat.le_of_ble_eq_true rfl) dX11_ith_98 ?_
      refine g_goto 44 (by decide) dX11_ith_101 ?_
      exact g_less _ (g_subS (g_subS (g_subS (g_subS (g_subS (g_subN g_sub0)))))) (ih _ _ _ _ _ _ _ h hc)
set_option maxRecDepth 100000 in
set_option maxHeartbeats 4000000 in
theorem k_X11_ith {D : va_G} {cA : Nat → ClassId} {b b2 k : Nat} {dyn : Nat → Nat} {t s : Nat} {N : Nat} {a1 : Int32} {a2 : Int32} {μ : g_M} {z : Int32 × g_M} (h : f_X11_ith N a1 a2 μ = some z) : g_K (g_XX D cA b b2 dyn) yX11_ith Y_X11_ith 38 0 0 k [.ref 0, .int a1, .int a2] (μ, (g_rfX t s)) (fun r1 σ1 => r1 = some (.int z.1) ∧ σ1 = (z.2, (g_rfX t s))) := by
  unfold f_X11_ith at h
  refine g_met 3 (by decide) rfl rfl (Nat.le_of_ble_eq_true rfl) ?_
  refine g_iload_n dX11_ith_0 rfl ?_
  refine m_cS mt_X11_isPlan ml_X11_203 ms_X11_isPlan dX11_ith_1 (k_X11_isPlan rfl) rfl rfl (by decide) ⟨Nat.le_refl _, Nat.le_refl _⟩ (Nat.le_of_ble_eq_true rfl) ?_
  refine g_if_eq 16 (by decide) dX11_ith_4 (fun c1 => ?_) (fun c1 => ?_)
  · have h := g_ifp c1 h
    refine g_icm1 dX11_ith_16 ?_
    obtain rfl := Option.some.inj h
    exact g_iret rfl (Nat.le_refl _) rfl dX11_ith_17 ⟨rfl, rfl⟩
  · have h := g_ifn c1 h
    refine g_iload_n dX11_ith_7 rfl ?_
    refine g_ic0 dX11_ith_8 ?_
    refine g_ic3 dX11_ith_9 ?_
    refine m_cS mt_X11_isBetween ml_X11_120 ms_X11_isBetween dX11_ith_10 (k_X11_isBetween rfl) rfl rfl (by decide) ⟨Nat.le_refl _, Nat.le_refl _⟩ (Nat.le_of_ble_eq_true rfl) ?_
    refine g_if_ne 18 (by decide) dX11_ith_13 (fun c2 => ?_) (fun c2 => ?_)
    · have h := g_ifn c2 h
      refine g_iload_n dX11_ith_18 rfl ?_
      refine g_aload_n dX11_ith_19 rfl ?_
      refine m_getR fl_X11_10 rfl rfl rfl dX11_ith_20 ?_
      refine g_iload_n dX11_ith_23 rfl ?_
      refine m_cV mt_X9_nightsOf ml_X11_209 mv_X9_nightsOf dX11_ith_24 (k_X9_nightsOf rfl) rfl rfl rfl rfl (by decide) ⟨Nat.le_refl _, Nat.le_refl _⟩ (Nat.le_of_ble_eq_true rfl) ?_
      refine g_icmp_lt 33 (by decide) dX11_ith_27 (fun c3 => ?_) (fun c3 => ?_)
      · have h := g_ifp c3 h
        refine g_aload_n dX11_ith_33 rfl ?_
        refine m_getR fl_X11_10 rfl rfl rfl dX11_ith_34 ?_
        refine m_getI fl_X11_93 rfl rfl dX11_ith_37 ?_
        refine g_istore_3 rfl (Nat.le_of_ble_eq_true rfl) dX11_ith_40 ?_
        refine g_ic0 dX11_ith_41 ?_
        refine g_istore_4 rfl (Nat.le_of_ble_eq_true rfl) dX11_ith_42 ?_
        obtain ⟨⟨x4, μ5⟩, q6, h⟩ := g_bind h
        refine g_less _ (g_subS (g_subS (g_subS (g_subS (g_subS (g_subN g_sub0)))))) (k_X11_ith_L44 _ _ _ _ _ _ _ _ q6 ?_)
        refine g_aload_n dX11_ith_104 rfl ?_
        refine m_getR fl_X11_10 rfl rfl rfl dX11_ith_105 ?_
        refine g_iload_n dX11_ith_108 rfl ?_
        refine g_aload_n dX11_ith_109 rfl ?_
        refine m_getR fl_X11_10 rfl rfl rfl dX11_ith_110 ?_
        refine m_getI fl_X11_100 rfl rfl dX11_ith_113 ?_
        refine g_iload_n dX11_ith_116 rfl ?_
        refine g_iadd dX11_ith_117 ?_
        refine g_iload_n dX11_ith_118 rfl ?_
        refine g_iload_n dX11_ith_119 rfl ?_
        refine g_isub dX11_ith_120 ?_
        obtain ⟨⟨x7, μ9⟩, q8, h⟩ := g_bind h
        refine m_cS mt_X2_firstBestAct ml_X11_212 ms_X2_firstBestAct dX11_ith_121 (k_X2_firstBestAct q8) rfl rfl (by decide) ⟨Nat.le_refl _, Nat.le_refl _⟩ (Nat.le_of_ble_eq_true rfl) ?_
        obtain rfl := Option.some.inj h
        exact g_iret rfl (Nat.le_refl _) rfl dX11_ith_124 ⟨rfl, rfl⟩
      · have h := g_ifn c3 h
        refine g_bipush (v := (-3)) dX11_ith_30 (by decide) ?_
        obtain rfl := Option.some.inj h
        exact g_iret rfl (Nat.le_refl _) rfl dX11_ith_32 ⟨rfl, rfl⟩
    · have h := g_ifp c2 h
      refine g_icm1 dX11_ith_16 ?_
      obtain rfl := Option.some.inj h
      exact g_iret rfl (Nat.le_refl _) rfl dX11_ith_17 ⟨rfl, rfl⟩
set_option maxRecDepth 100000 in
set_option maxHeartbeats 4000000 in
theorem k_X2_plansWorth_L29 {D : va_G} {cA : Nat → ClassId} {b b2 k : Nat} {dyn : Nat → Nat} {t s : Nat} {Q : Option Value → g_S → Prop} {F : Int32 → Int32 → Int32 → Int32 → g_M → Option (Int32 × g_M)} {d0 : Nat} (hF : ∀ (a1 : Int32) (a2 : Int32) (a3 : Int32) (a4 : Int32) (μ : g_M) (z : Int32 × g_M), F a1 a2 a3 a4 μ = some z → g_K (g_XX D cA b b2 dyn) yX2_plansWorth Y_X2_plansWorth d0 0 0 k [.ref 1, .int a1, .int a2, .int a3, .int a4] (μ, (g_rfX t s)) (fun r1 σ1 => r1 = some (.int z.1) ∧ σ1 = (z.2, (g_rfX t s)))) {N : Nat} : ∀ (n : Nat) (x_1 : Int32) (x_2 : Int32) (x_3 : Int32) (x_4 : Int32) (x_5 : Int32) (x_6 : Int32) (μ : g_M) (z_5 : Int32) (z_μ : g_M), f_X2_plansWorth_L29 F N n x_1 x_2 x_3 x_4 x_5 x_6 μ = some (z_5, z_μ) → g_V (g_XX D cA b b2 dyn) Y_X2_plansWorth (d0 + 6) 0 0 Q k 0 0 84 [none, none, none, none, none, some (.int z_5), none, none] [] (z_μ, (g_rfX t s)) → g_V (g_XX D cA b b2 dyn) Y_X2_plansWorth (d0 + 6) 0 0 Q k 0 0 29 [some (.ref 1), some (.int x_1), some (.int x_2), some (.int x_3), some (.int x_4), some (.int x_5), some (.int x_6), none] [] (μ, (g_rfX t s)) := by
  intro n
  induction n with
  | zero =>
    intro x_1 x_2 x_3 x_4 x_5 x_6 μ z_5 z_μ h
    rw [f_X2_plansWorth_L29] at h
    cases h
  | succ n ih =>
    intro x_1 x_2 x_3 x_4 x_5 x_6 μ z_5 z_μ h hc
    rw [f_X2_plansWorth_L29] at h
    refine g_iload dX2_plansWorth_29 rfl ?_
    refine g_aload_n dX2_plansWorth_31 rfl ?_
    refine m_getI fl_X2_73 rfl rfl dX2_plansWorth_32 ?_
    refine g_icmp_gt 84 (by decide) dX2_plansWorth_35 (fun c4 => ?_) (fun c4 => ?_)
    · have h := g_ifp c4 h
      obtain ⟨rfl, rfl⟩ := g_inj2 h
      exact g_less _ (g_subN (g_subN (g_subN (g_subN (g_subN (g_subS (g_subN (g_subN g_sub0)))))))) hc
    · have h := g_ifn c4 h
      refine g_aload_n dX2_plansWorth_38 rfl ?_
      refine g_iload_n dX2_plansWorth_39 rfl ?_
      refine g_iload_n dX2_plansWorth_40 rfl ?_
      refine g_iload dX2_plansWorth_41 rfl ?_
      refine m_cSN mt_X11_chainOf mn_X2_95 ms_X11_chainOf dX2_plansWorth_43 (k_X11_chainOf rfl) rfl rfl (by omega) ⟨Nat.le_refl _, Nat.le_refl _⟩ (Nat.le_of_ble_eq_true rfl) ?_
      obtain ⟨⟨x5, μ7⟩, q6, h⟩ := g_bind h
      refine m_cV mt_X9_after ml_X2_22 mv_X9_after dX2_plansWorth_46 (k_X9_after q6) rfl rfl rfl rfl (by omega) ⟨Nat.le_refl _, Nat.le_refl _⟩ (Nat.le_of_ble_eq_true rfl) ?_
      refine g_istore_7 rfl (Nat.le_of_ble_eq_true rfl) dX2_plansWorth_49 ?_
      refine g_iload dX2_plansWorth_51 rfl ?_
      refine g_aload_n dX2_plansWorth_53 rfl ?_
      refine g_iload dX2_plansWorth_54 rfl ?_
      refine g_iload_n dX2_plansWorth_56 rfl ?_
      refine g_ic1 dX2_plansWorth_57 ?_
      refine g_iadd dX2_plansWorth_58 ?_
      refine g_iload_n dX2_plansWorth_59 rfl ?_
      refine g_ic1 dX2_plansWorth_60 ?_
      refine g_isub dX2_plansWorth_61 ?_
      refine g_iload dX2_plansWorth_62 rfl ?_
      refine g_aload_n dX2_plansWorth_64 rfl ?_
      refine g_iload dX2_plansWorth_65 rfl ?_
      refine g_iload_n dX2_plansWorth_67 rfl ?_
      obtain ⟨x8, q9, h⟩ := g_bind h
      refine m_cV mt_X9_worthOf ml_X2_26 mv_X9_worthOf dX2_plansWorth_68 (k_X9_worthOf q9) rfl rfl rfl rfl (by omega) ⟨Nat.le_refl _, Nat.le_refl _⟩ (Nat.le_of_ble_eq_true rfl) ?_
      refine g_isub dX2_plansWorth_71 ?_
      obtain ⟨⟨x10, μ12⟩, q11, h⟩ := g_bind h
      refine m_cS mt_X2_plansWorth ml_X2_98 ms_X2_plansWorth dX2_plansWorth_72 (hF _ _ _ _ _ _ q11) rfl rfl (by omega) ⟨Nat.le_refl _, Nat.le_refl _⟩ (Nat.le_of_ble_eq_true rfl) ?_
      refine g_iadd dX2_plansWorth_75 ?_
      obtain ⟨x13, ex13, h⟩ := g_let h
      refine g_top ex13 ?_
      refine g_istore_5 rfl (Nat.le_of_ble_eq_true rfl) dX2_plansWorth_76 ?_
      refine g_iinc_6 (v := 1) rfl (by decide) (Nat.le_of_ble_eq_true rfl) dX2_plansWorth_78 ?_
      refine g_goto 29 (by decide) dX2_plansWorth_81 ?_
      exact g_less _ (g_subS (g_subS (g_subS (g_subS (g_subS (g_subS (g_subS (g_subN g_sub0)))))))) (ih _ _ _ _ _ _ _ _ _ h hc)
set_option maxRecDepth 100000 in
set_option maxHeartbeats 4000000 in
theorem k_X2_plansWorth {D : va_G} {cA : Nat → ClassId} {b b2 k : Nat} {dyn : Nat → Nat} {t s : Nat} {N : Nat} : ∀ (n : Nat) (a1 : Int32) (a2 : Int32) (a3 : Int32) (a4 : Int32) (μ : g_M) (z : Int32 × g_M), f_X2_plansWorth N n a1 a2 a3 a4 μ = some z → g_K (g_XX D cA b b2 dyn) yX2_plansWorth Y_X2_plansWorth (6 * n) 0 0 k [.ref 1, .int a1, .int a2, .int a3, .int a4] (μ, (g_rfX t s)) (fun r1 σ1 => r1 = some (.int z.1) ∧ σ1 = (z.2, (g_rfX t s))) := by
  intro n
  induction n with
  | zero =>
    intro a1 a2 a3 a4 μ z h
    rw [f_X2_plansWorth] at h
    cases h
  | succ n hF =>
    intro a1 a2 a3 a4 μ z h
    rw [f_X2_plansWorth] at h
    refine g_met (d := 6 * n + 6) 3 (by decide) rfl rfl (Nat.le_of_ble_eq_true rfl) ?_
    refine g_iload_n dX2_plansWorth_0 rfl ?_
    refine g_if_le 12 (by decide) dX2_plansWorth_1 (fun c1 => ?_) (fun c1 => ?_)
    · have h := g_ifp c1 h
      refine g_iload dX2_plansWorth_12 rfl ?_
      refine g_if_ne 21 (by decide) dX2_plansWorth_14 (fun c2 => ?_) (fun c2 => ?_)
      · have h := g_ifn c2 h
        refine g_ic0 dX2_plansWorth_21 ?_
        obtain rfl := Option.some.inj h
        exact g_iret rfl (Nat.le_refl _) rfl dX2_plansWorth_22 ⟨rfl, rfl⟩
      · have h := g_ifp c2 h
        refine g_ic1 dX2_plansWorth_17 ?_
        refine g_goto 22 (by decide) dX2_plansWorth_18 ?_
        obtain rfl := Option.some.inj h
        exact g_iret rfl (Nat.le_refl _) rfl dX2_plansWorth_22 ⟨rfl, rfl⟩
    · have h := g_ifn c1 h
      refine g_iload_n dX2_plansWorth_4 rfl ?_
      refine g_aload_n dX2_plansWorth_5 rfl ?_
      refine m_getI fl_X2_33 rfl rfl dX2_plansWorth_6 ?_
      refine g_icmp_lt 23 (by decide) dX2_plansWorth_9 (fun c3 => ?_) (fun c3 => ?_)
      · have h := g_ifp c3 h
        refine g_ic0 dX2_plansWorth_23 ?_
        refine g_istore_5 rfl (Nat.le_of_ble_eq_true rfl) dX2_plansWorth_24 ?_
        refine g_ic0 dX2_plansWorth_26 ?_
        refine g_istore_6 rfl (Nat.le_of_ble_eq_true rfl) dX2_plansWorth_27 ?_
        obtain ⟨⟨x4, μ5⟩, q6, h⟩ := g_bind h
        refine g_less _ (g_subS (g_subS (g_subS (g_subS (g_subS (g_subS (g_subS (g_subN g_sub0)))))))) (k_X2_plansWorth_L29 hF _ _ _ _ _ _ _ _ _ _ q6 ?_)
        refine g_iload dX2_plansWorth_84 rfl ?_
        obtain rfl := Option.some.inj h
        exact g_iret rfl (Nat.le_refl _) rfl dX2_plansWorth_86 ⟨rfl, rfl⟩
      · have h := g_ifn c3 h
        refine g_iload dX2_plansWorth_12 rfl ?_
        refine g_if_ne 21 (by decide) dX2_plansWorth_14 (fun c7 => ?_) (fun c7 => ?_)
        · have h := g_ifn c7 h
          refine g_ic0 dX2_plansWorth_21 ?_
          obtain rfl := Option.some.inj h
          exact g_iret rfl (Nat.le_refl _) rfl dX2_plansWorth_22 ⟨rfl, rfl⟩
        · have h := g_ifp c7 h
          refine g_ic1 dX2_plansWorth_17 ?_
          refine g_goto 22 (by decide) dX2_plansWorth_18 ?_
          obtain rfl := Option.some.inj h
          exact g_iret rfl (Nat.le_refl _) rfl dX2_plansWorth_22 ⟨rfl, rfl⟩
set_option maxRecDepth 100000 in
set_option maxHeartbeats 4000000 in
theorem k_X2_bestWays {D : va_G} {cA : Nat → ClassId} {b b2 k : Nat} {dyn : Nat → Nat} {t s : Nat} {N : Nat} {a1 : Int32} {μ : g_M} {z : Int32 × g_M} (h : f_X2_bestWays N a1 μ = some z) : g_K (g_XX D cA b b2 dyn) yX2_bestWays Y_X2_bestWays 37 0 0 k [.ref 1, .int a1] (μ, (g_rfX t s)) (fun r1 σ1 => r1 = some (.int z.1) ∧ σ1 = (z.2, (g_rfX t s))) := by
  unfold f_X2_bestWays at h
  refine g_met 1 (by decide) rfl rfl (Nat.le_of_ble_eq_true rfl) ?_
  refine g_aload_n dX2_bestWays_0 rfl ?_
  refine g_aload_n dX2_bestWays_1 rfl ?_
  refine m_getI fl_X2_9 rfl rfl dX2_bestWays_2 ?_
  refine g_aload_n dX2_bestWays_5 rfl ?_
  refine m_getI fl_X2_19 rfl rfl dX2_bestWays_6 ?_
  refine g_iload_n dX2_bestWays_9 rfl ?_
  obtain ⟨⟨x1, μ3⟩, q2, h⟩ := g_bind h
  refine m_cS mt_X2_mostWorth ml_X2_91 ms_X2_mostWorth dX2_bestWays_10 (k_X2_mostWorth _ _ _ _ _ _ q2) rfl rfl (by decide) ⟨Nat.le_refl _, Nat.le_refl _⟩ (Nat.le_of_ble_eq_true rfl) ?_
  refine g_istore_2 rfl (Nat.le_of_ble_eq_true rfl) dX2_bestWays_13 ?_
  refine g_aload_n dX2_bestWays_14 rfl ?_
  refine g_aload_n dX2_bestWays_15 rfl ?_
  refine m_getI fl_X2_9 rfl rfl dX2_bestWays_16 ?_
  refine g_aload_n dX2_bestWays_19 rfl ?_
  refine m_getI fl_X2_19 rfl rfl dX2_bestWays_20 ?_
  refine g_iload_n dX2_bestWays_23 rfl ?_
  refine g_iload_n dX2_bestWays_24 rfl ?_
  obtain ⟨⟨x4, μ6⟩, q5, h⟩ := g_bind h
  refine m_cS mt_X2_plansWorth ml_X2_98 ms_X2_plansWorth dX2_bestWays_25 (k_X2_plansWorth _ _ _ _ _ _ _ q5) rfl rfl (by decide) ⟨Nat.le_refl _, Nat.le_refl _⟩ (Nat.le_of_ble_eq_true rfl) ?_
  obtain rfl := Option.some.inj h
  exact g_iret rfl (Nat.le_refl _) rfl dX2_bestWays_28 ⟨rfl, rfl⟩
set_option maxRecDepth 100000 in
set_option maxHeartbeats 4000000 in
theorem k_X11_ways {D : va_G} {cA : Nat → ClassId} {b b2 k : Nat} {dyn : Nat → Nat} {t s : Nat} {N : Nat} {a1 : Int32} {μ : g_M} {z : Int32 × g_M} (h : f_X11_ways N a1 μ = some z) : g_K (g_XX D cA b b2 dyn) yX11_ways Y_X11_ways 38 0 0 k [.ref 0, .int a1] (μ, (g_rfX t s)) (fun r1 σ1 => r1 = some (.int z.1) ∧ σ1 = (z.2, (g_rfX t s))) := by
  unfold f_X11_ways at h
  refine g_met 0 (by decide) rfl rfl (Nat.le_of_ble_eq_true rfl) ?_
  refine g_iload_n dX11_ways_0 rfl ?_
  refine m_cS mt_X11_isPlan ml_X11_203 ms_X11_isPlan dX11_ways_1 (k_X11_isPlan rfl) rfl rfl (by decide) ⟨Nat.le_refl _, Nat.le_refl _⟩ (Nat.le_of_ble_eq_true rfl) ?_
  refine g_if_eq 18 (by decide) dX11_ways_4 (fun c1 => ?_) (fun c1 => ?_)
  · have h := g_ifp c1 h
    refine g_icm1 dX11_ways_18 ?_
    obtain rfl := Option.some.inj h
    exact g_iret rfl (Nat.le_refl _) rfl dX11_ways_19 ⟨rfl, rfl⟩
  · have h := g_ifn c1 h
    refine g_aload_n dX11_ways_7 rfl ?_
    refine m_getR fl_X11_10 rfl rfl rfl dX11_ways_8 ?_
    refine g_iload_n dX11_ways_11 rfl ?_
    obtain ⟨⟨x2, μ4⟩, q3, h⟩ := g_bind h
    refine m_cS mt_X2_bestWays ml_X11_222 ms_X2_bestWays dX11_ways_12 (k_X2_bestWays q3) rfl rfl (by decide) ⟨Nat.le_refl _, Nat.le_refl _⟩ (Nat.le_of_ble_eq_true rfl) ?_
    refine g_goto 19 (by decide) dX11_ways_15 ?_
    obtain rfl := Option.some.inj h
    exact g_iret rfl (Nat.le_refl _) rfl dX11_ways_19 ⟨rfl, rfl⟩
set_option maxRecDepth 100000 in
set_option maxHeartbeats 4000000 in
theorem k_X11_isOvenSet {D : va_G} {cA : Nat → ClassId} {b b2 k : Nat} {dyn : Nat → Nat} {t s : Nat} {a1 : Int32} {μ : g_M} {z : Int32} (h : f_X11_isOvenSet a1 μ = z) : g_K (g_XX D cA b b2 dyn) yX11_isOvenSet Y_X11_isOvenSet 2 0 0 k [.ref 0, .int a1] (μ, (g_rfX t s)) (fun r1 σ1 => r1 = some (.int z) ∧ σ1 = (μ, (g_rfX t s))) := by
  unfold f_X11_isOvenSet at h
  refine g_met 0 (by decide) rfl rfl (Nat.le_of_ble_eq_true rfl) ?_
  refine g_iload_n dX11_isOvenSet_0 rfl ?_
  refine g_aload_n dX11_isOvenSet_1 rfl ?_
  refine m_getR fl_X11_10 rfl rfl rfl dX11_isOvenSet_2 ?_
  refine m_cV mt_X9_everybody ml_X11_353 mv_X9_everybody dX11_isOvenSet_5 (k_X9_everybody rfl) rfl rfl rfl rfl (by decide) ⟨Nat.le_refl _, Nat.le_refl _⟩ (Nat.le_of_ble_eq_true rfl) ?_
  refine g_icm1 dX11_isOvenSet_8 ?_
  refine g_ixor dX11_isOvenSet_9 ?_
  refine g_iand dX11_isOvenSet_10 ?_
  refine g_if_ne 18 (by decide) dX11_isOvenSet_11 (fun c1 => ?_) (fun c1 => ?_)
  · have h := g_ifn c1 h
    refine g_ic0 dX11_isOvenSet_18 ?_
    subst h
    exact g_zret rfl (Nat.le_refl _) rfl rfl dX11_isOvenSet_19 ⟨rfl, rfl⟩
  · have h := g_ifp c1 h
    refine g_ic1 dX11_isOvenSet_14 ?_
    refine g_goto 19 (by decide) dX11_isOvenSet_15 ?_
    subst h
    exact g_zret rfl (Nat.le_refl _) rfl rfl dX11_isOvenSet_19 ⟨rfl, rfl⟩
set_option maxRecDepth 100000 in
set_option maxHeartbeats 4000000 in
theorem zb_X11_isOvenSet (a1 : Int32) (μ : g_M) : narrow .boolean (.int (f_X11_isOvenSet a1 μ)) = .int (f_X11_isOvenSet a1 μ) := by
  unfold f_X11_isOvenSet
  repeat' split
  all_goals first | rfl | rfl
set_option maxRecDepth 100000 in
set_option maxHeartbeats 4000000 in
theorem k_X2_fewestActs_L41 {D : va_G} {cA : Nat → ClassId} {b b2 k : Nat} {dyn : Nat → Nat} {t s : Nat} {Q : Option Value → g_S → Prop} {F : Int32 → Int32 → Int32 → Int32 → g_M → Option (Int32 × g_M)} {d0 : Nat} (hF : ∀ (a1 : Int32) (a2 : Int32) (a3 : Int32) (a4 : Int32) (μ : g_M) (z : Int32 × g_M), F a1 a2 a3 a4 μ = some z → g_K (g_XX D cA b b2 dyn) yX2_fewestActs Y_X2_fewestActs d0 0 0 k [.ref 1, .int a1, .int a2, .int a3, .int a4] (μ, (g_rfX t s)) (fun r1 σ1 => r1 = some (.int z.1) ∧ σ1 = (z.2, (g_rfX t s)))) {N : Nat} : ∀ (n : Nat) (x_1 : Int32) (x_2 : Int32) (x_3 : Int32) (x_4 : Int32) (x_5 : Int32) (x_6 : Int32) (μ : g_M) (z_5 : Int32) (z_μ : g_M), f_X2_fewestActs_L41 F N n x_1 x_2 x_3 x_4 x_5 x_6 μ = some (z_5, z_μ) → g_V (g_XX D cA b b2 dyn) Y_X2_fewestActs (d0 + 5) 0 0 Q k 0 0 105 [none, none, none, none, none, some (.int z_5), none, none, none] [] (z_μ, (g_rfX t s)) → g_V (g_XX D cA b b2 dyn) Y_X2_fewestActs (d0 + 5) 0 0 Q k 0 0 41 [some (.ref 1), some (.int x_1), some (.int x_2), some (.int x_3), some (.int x_4), some (.int x_5), some (.int x_6), none, none] [] (μ, (g_rfX t s)) := by
  intro n
  induction n with
  | zero =>
    intro x_1 x_2 x_3 x_4 x_5 x_6 μ z_5 z_μ h
    rw [f_X2_fewestActs_L41] at h
    cases h
  | succ n ih =>
    intro x_1 x_2 x_3 x_4 x_5 x_6 μ z_5 z_μ h hc
    rw [f_X2_fewestActs_L41] at h
    refine g_iload dX2_fewestActs_41 rfl ?_
    refine g_aload_n dX2_fewestActs_43 rfl ?_
    refine m_getI fl_X2_73 rfl rfl dX2_fewestActs_44 ?_
    refine g_icmp_gt 105 (by decide) dX2_fewestActs_47 (fun c6 => ?_) (fun c6 => ?_)
    · have h := g_ifp c6 h
      obtain ⟨rfl, rfl⟩ := g_inj2 h
      exact g_less _ (g_subN (g_subN (g_subN (g_subN (g_subN (g_subS (g_subN (g_subN (g_subN g_sub0))))))))) hc
    · have h := g_ifn c6 h
      refine g_aload_n dX2_fewestActs_50 rfl ?_
      refine g_iload_n dX2_fewestActs_51 rfl ?_
      refine g_iload_n dX2_fewestActs_52 rfl ?_
      refine g_iload dX2_fewestActs_53 rfl ?_
      refine m_cSN mt_X11_chainOf mn_X2_95 ms_X11_chainOf dX2_fewestActs_55 (k_X11_chainOf rfl) rfl rfl (by omega) ⟨Nat.le_refl _, Nat.le_refl _⟩ (Nat.le_of_ble_eq_true rfl) ?_
      obtain ⟨⟨x7, μ9⟩, q8, h⟩ := g_bind h
      refine m_cV mt_X9_after ml_X2_22 mv_X9_after dX2_fewestActs_58 (k_X9_after q8) rfl rfl rfl rfl (by omega) ⟨Nat.le_refl _, Nat.le_refl _⟩ (Nat.le_of_ble_eq_true rfl) ?_
      refine g_istore_7 rfl (Nat.le_of_ble_eq_true rfl) dX2_fewestActs_61 ?_
      refine g_iload dX2_fewestActs_63 rfl ?_
      refine g_if_ne 72 (by decide) dX2_fewestActs_65 (fun c10 => ?_) (fun c10 => ?_)
      · have h := g_ifn c10 h
        refine g_ic1 dX2_fewestActs_72 ?_
        refine g_aload_n dX2_fewestActs_73 rfl ?_
        refine g_iload dX2_fewestActs_74 rfl ?_
        refine g_iload_n dX2_fewestActs_76 rfl ?_
        refine g_ic1 dX2_fewestActs_77 ?_
        refine g_iadd dX2_fewestActs_78 ?_
        refine g_iload_n dX2_fewestActs_79 rfl ?_
        refine g_ic1 dX2_fewestActs_80 ?_
        refine g_isub dX2_fewestActs_81 ?_
        refine g_iload dX2_fewestActs_82 rfl ?_
        obtain ⟨⟨x11, μ13⟩, q12, h⟩ := g_bind h
        refine m_cS mt_X2_fewestActs ml_X2_102 ms_X2_fewestActs dX2_fewestActs_84 (hF _ _ _ _ _ _ q12) rfl rfl (by omega) ⟨Nat.le_refl _, Nat.le_refl _⟩ (Nat.le_of_ble_eq_true rfl) ?_
        refine g_iadd dX2_fewestActs_87 ?_
        obtain ⟨x14, ex14, h⟩ := g_let h
        refine g_top ex14 ?_
        refine g_istore_8 rfl (Nat.le_of_ble_eq_true rfl) dX2_fewestActs_88 ?_
        refine g_iload dX2_fewestActs_90 rfl ?_
        refine g_iload dX2_fewestActs_92 rfl ?_
        refine m_min ml_X2_108 dX2_fewestActs_94 (by omega) ⟨Nat.le_refl _, Nat.le_refl _⟩ (Nat.le_of_ble_eq_true rfl) ?_
        obtain ⟨x15, ex15, h⟩ := g_let h
        refine g_top ex15 ?_
        refine g_istore_5 rfl (Nat.le_of_ble_eq_true rfl) dX2_fewestActs_97 ?_
        refine g_iinc_6 (v := 1) rfl (by decide) (Nat.le_of_ble_eq_true rfl) dX2_fewestActs_99 ?_
        refine g_goto 41 (by decide) dX2_fewestActs_102 ?_
        exact g_less _ (g_subS (g_subS (g_subS (g_subS (g_subS (g_subS (g_subS (g_subN (g_subN g_sub0))))))))) (ih _ _ _ _ _ _ _ _ _ h hc)
      · have h := g_ifp c10 h
        refine g_ic0 dX2_fewestActs_68 ?_
        refine g_goto 73 (by decide) dX2_fewestActs_69 ?_
        refine g_aload_n dX2_fewestActs_73 rfl ?_
        refine g_iload dX2_fewestActs_74 rfl ?_
        refine g_iload_n dX2_fewestActs_76 rfl ?_
        refine g_ic1 dX2_fewestActs_77 ?_
        refine g_iadd dX2_fewestActs_78 ?_
        refine g_iload_n dX2_fewestActs_79 rfl ?_
        refine g_ic1 dX2_fewestActs_80 ?_
        refine g_isub dX2_fewestActs_81 ?_
        refine g_iload dX2_fewestActs_82 rfl ?_
        obtain ⟨⟨x16, μ18⟩, q17, h⟩ := g_bind h
        refine m_cS mt_X2_fewestActs ml_X2_102 ms_X2_fewestActs dX2_fewestActs_84 (hF _ _ _ _ _ _ q17) rfl rfl (by omega) ⟨Nat.le_refl _, Nat.le_refl _⟩ (Nat.le_of_ble_eq_true rfl) ?_
        refine g_iadd dX2_fewestActs_87 ?_
        obtain ⟨x19, ex19, h⟩ := g_let h
        refine g_top ex19 ?_
        refine g_istore_8 rfl (Nat.le_of_ble_eq_true rfl) dX2_fewestActs_88 ?_
        refine g_iload dX2_fewestActs_90 rfl ?_
        refine g_iload dX2_fewestActs_92 rfl ?_
        refine m_min ml_X2_108 dX2_fewestActs_94 (by omega) ⟨Nat.le_refl _, Nat.le_refl _⟩ (Nat.le_of_ble_eq_true rfl) ?_
        obtain ⟨x20, ex20, h⟩ := g_let h
        refine g_top ex20 ?_
        refine g_istore_5 rfl (Nat.le_of_ble_eq_true rfl) dX2_fewestActs_97 ?_
        refine g_iinc_6 (v := 1) rfl (by decide) (Nat.le_of_ble_eq_true rfl) dX2_fewestActs_99 ?_
        refine g_goto 41 (by decide) dX2_fewestActs_102 ?_
        exact g_less _ (g_subS (g_subS (g_subS (g_subS (g_subS (g_subS (g_subS (g_subN (g_subN g_sub0))))))))) (ih _ _ _ _ _ _ _ _ _ h hc)
set_option maxRecDepth 100000 in
set_option maxHeartbeats 4000000 in
theorem k_X2_fewestActs {D : va_G} {cA : Nat → ClassId} {b b2 k : Nat} {dyn : Nat → Nat} {t s : Nat} {N : Nat} : ∀ (n : Nat) (a1 : Int32) (a2 : Int32) (a3 : Int32) (a4 : Int32) (μ : g_M) (z : Int32 × g_M), f_X2_fewestActs N n a1 a2 a3 a4 μ = some z → g_K (g_XX D cA b b2 dyn) yX2_fewestActs Y_X2_fewestActs (5 * n) 0 0 k [.ref 1, .int a1, .int a2, .int a3, .int a4] (μ, (g_rfX t s)) (fun r1 σ1 => r1 = some (.int z.1) ∧ σ1 = (z.2, (g_rfX t s))) := by
  intro n
  induction n with
  | zero =>
    intro a1 a2 a3 a4 μ z h
    rw [f_X2_fewestActs] at h
    cases h
  | succ n hF =>
    intro a1 a2 a3 a4 μ z h
    rw [f_X2_fewestActs] at h
    refine g_met (d := 5 * n + 5) 4 (by decide) rfl rfl (Nat.le_of_ble_eq_true rfl) ?_
    refine g_iload_n dX2_fewestActs_0 rfl ?_
    refine g_if_le 12 (by decide) dX2_fewestActs_1 (fun c1 => ?_) (fun c1 => ?_)
    · have h := g_ifp c1 h
      refine g_aload_n dX2_fewestActs_12 rfl ?_
      refine g_iload_n dX2_fewestActs_13 rfl ?_
      obtain ⟨x2, q3, h⟩ := g_bind h
      refine m_cV mt_X9_homeSet ml_X2_105 mv_X9_homeSet dX2_fewestActs_14 (k_X9_homeSet q3) rfl rfl rfl rfl (by omega) ⟨Nat.le_refl _, Nat.le_refl _⟩ (Nat.le_of_ble_eq_true rfl) ?_
      refine g_iload dX2_fewestActs_17 rfl ?_
      refine g_iand dX2_fewestActs_19 ?_
      refine g_iload dX2_fewestActs_20 rfl ?_
      refine g_icmp_ne 29 (by decide) dX2_fewestActs_22 (fun c4 => ?_) (fun c4 => ?_)
      · have h := g_ifn c4 h
        refine g_sipush (v := 1000) dX2_fewestActs_29 (by decide) ?_
        obtain rfl := Option.some.inj h
        exact g_iret rfl (Nat.le_refl _) rfl dX2_fewestActs_32 ⟨rfl, rfl⟩
      · have h := g_ifp c4 h
        refine g_ic0 dX2_fewestActs_25 ?_
        refine g_goto 32 (by decide) dX2_fewestActs_26 ?_
        obtain rfl := Option.some.inj h
        exact g_iret rfl (Nat.le_refl _) rfl dX2_fewestActs_32 ⟨rfl, rfl⟩
    · have h := g_ifn c1 h
      refine g_iload_n dX2_fewestActs_4 rfl ?_
      refine g_aload_n dX2_fewestActs_5 rfl ?_
      refine m_getI fl_X2_33 rfl rfl dX2_fewestActs_6 ?_
      refine g_icmp_lt 33 (by decide) dX2_fewestActs_9 (fun c5 => ?_) (fun c5 => ?_)
      · have h := g_ifp c5 h
        refine g_sipush (v := 1000) dX2_fewestActs_33 (by decide) ?_
        refine g_istore_5 rfl (Nat.le_of_ble_eq_true rfl) dX2_fewestActs_36 ?_
        refine g_ic0 dX2_fewestActs_38 ?_
        refine g_istore_6 rfl (Nat.le_of_ble_eq_true rfl) dX2_fewestActs_39 ?_
        obtain ⟨⟨x6, μ7⟩, q8, h⟩ := g_bind h
        refine g_less _ (g_subS (g_subS (g_subS (g_subS (g_subS (g_subS (g_subS (g_subN (g_subN g_sub0))))))))) (k_X2_fewestActs_L41 hF _ _ _ _ _ _ _ _ _ _ q8 ?_)
        refine g_iload dX2_fewestActs_105 rfl ?_
        obtain rfl := Option.some.inj h
        exact g_iret rfl (Nat.le_refl _) rfl dX2_fewestActs_107 ⟨rfl, rfl⟩
      · have h := g_ifn c5 h
        refine g_aload_n dX2_fewestActs_12 rfl ?_
        refine g_iload_n dX2_fewestActs_13 rfl ?_
        obtain ⟨x9, q10, h⟩ := g_bind h
        refine m_cV mt_X9_homeSet ml_X2_105 mv_X9_homeSet dX2_fewestActs_14 (k_X9_homeSet q10) rfl rfl rfl rfl (by omega) ⟨Nat.le_refl _, Nat.le_refl _⟩ (Nat.le_of_ble_eq_true rfl) ?_
        refine g_iload dX2_fewestActs_17 rfl ?_
        refine g_iand dX2_fewestActs_19 ?_
        refine g_iload dX2_fewestActs_20 rfl ?_
        refine g_icmp_ne 29 (by decide) dX2_fewestActs_22 (fun c11 => ?_) (fun c11 => ?_)
        · have h := g_ifn c11 h
          refine g_sipush (v := 1000) dX2_fewestActs_29 (by decide) ?_
          obtain rfl := Option.some.inj h
          exact g_iret rfl (Nat.le_refl _) rfl dX2_fewestActs_32 ⟨rfl, rfl⟩
        · have h := g_ifp c11 h
          refine g_ic0 dX2_fewestActs_25 ?_
          refine g_goto 32 (by decide) dX2_fewestActs_26 ?_
          obtain rfl := Option.some.inj h
          exact g_iret rfl (Nat.le_refl _) rfl dX2_fewestActs_32 ⟨rfl, rfl⟩
set_option maxRecDepth 100000 in
set_option maxHeartbeats 4000000 in
theorem k_X2_actsTillHome {D : va_G} {cA : Nat → ClassId} {b b2 k : Nat} {dyn : Nat → Nat} {t s : Nat} {N : Nat} {a1 : Int32} {a2 : Int32} {μ : g_M} {z : Int32 × g_M} (h : f_X2_actsTillHome N a1 a2 μ = some z) : g_K (g_XX D cA b b2 dyn) yX2_actsTillHome Y_X2_actsTillHome 31 0 0 k [.ref 1, .int a1, .int a2] (μ, (g_rfX t s)) (fun r1 σ1 => r1 = some (.int z.1) ∧ σ1 = (z.2, (g_rfX t s))) := by
  unfold f_X2_actsTillHome at h
  refine g_met 0 (by decide) rfl rfl (Nat.le_of_ble_eq_true rfl) ?_
  refine g_aload_n dX2_actsTillHome_0 rfl ?_
  refine g_aload_n dX2_actsTillHome_1 rfl ?_
  refine m_getI fl_X2_9 rfl rfl dX2_actsTillHome_2 ?_
  refine g_aload_n dX2_actsTillHome_5 rfl ?_
  refine m_getI fl_X2_19 rfl rfl dX2_actsTillHome_6 ?_
  refine g_iload_n dX2_actsTillHome_9 rfl ?_
  refine g_iload_n dX2_actsTillHome_10 rfl ?_
  obtain ⟨⟨x1, μ3⟩, q2, h⟩ := g_bind h
  refine m_cS mt_X2_fewestActs ml_X2_102 ms_X2_fewestActs dX2_actsTillHome_11 (k_X2_fewestActs _ _ _ _ _ _ _ q2) rfl rfl (by decide) ⟨Nat.le_refl _, Nat.le_refl _⟩ (Nat.le_of_ble_eq_true rfl) ?_
  obtain rfl := Option.some.inj h
  exact g_iret rfl (Nat.le_refl _) rfl dX2_actsTillHome_14 ⟨rfl, rfl⟩
set_option maxRecDepth 100000 in
set_option maxHeartbeats 4000000 in
theorem k_X11_kept {D : va_G} {cA : Nat → ClassId} {b b2 k : Nat} {dyn : Nat → Nat} {t s : Nat} {N : Nat} {a1 : Int32} {a2 : Int32} {μ : g_M} {z : Int32 × g_M} (h : f_X11_kept N a1 a2 μ = some z) : g_K (g_XX D cA b b2 dyn) yX11_kept Y_X11_kept 32 0 0 k [.ref 0, .int a1, .int a2] (μ, (g_rfX t s)) (fun r1 σ1 => r1 = some (.int z.1) ∧ σ1 = (z.2, (g_rfX t s))) := by
  unfold f_X11_kept at h
  refine g_met 1 (by decide) rfl rfl (Nat.le_of_ble_eq_true rfl) ?_
  refine g_iload_n dX11_kept_0 rfl ?_
  refine m_cS mt_X11_isPlan ml_X11_203 ms_X11_isPlan dX11_kept_1 (k_X11_isPlan rfl) rfl rfl (by decide) ⟨Nat.le_refl _, Nat.le_refl _⟩ (Nat.le_of_ble_eq_true rfl) ?_
  refine g_if_eq 15 (by decide) dX11_kept_4 (fun c1 => ?_) (fun c1 => ?_)
  · have h := g_ifp c1 h
    refine g_icm1 dX11_kept_15 ?_
    obtain rfl := Option.some.inj h
    exact g_iret rfl (Nat.le_refl _) rfl dX11_kept_16 ⟨rfl, rfl⟩
  · have h := g_ifn c1 h
    refine g_aload_n dX11_kept_7 rfl ?_
    refine g_iload_n dX11_kept_8 rfl ?_
    refine m_cV mt_X11_isOvenSet ml_X11_225 mv_X11_isOvenSet dX11_kept_9 (k_X11_isOvenSet rfl) rfl rfl rfl rfl (by decide) ⟨Nat.le_refl _, Nat.le_refl _⟩ (Nat.le_of_ble_eq_true rfl) ?_
    refine g_if_ne 17 (by decide) dX11_kept_12 (fun c2 => ?_) (fun c2 => ?_)
    · have h := g_ifn c2 h
      refine g_aload_n dX11_kept_17 rfl ?_
      refine m_getR fl_X11_10 rfl rfl rfl dX11_kept_18 ?_
      refine g_iload_n dX11_kept_21 rfl ?_
      refine g_iload_n dX11_kept_22 rfl ?_
      obtain ⟨⟨x3, μ5⟩, q4, h⟩ := g_bind h
      refine m_cS mt_X2_actsTillHome ml_X11_228 ms_X2_actsTillHome dX11_kept_23 (k_X2_actsTillHome q4) rfl rfl (by decide) ⟨Nat.le_refl _, Nat.le_refl _⟩ (Nat.le_of_ble_eq_true rfl) ?_
      refine g_istore_3 rfl (Nat.le_of_ble_eq_true rfl) dX11_kept_26 ?_
      refine g_iload_n dX11_kept_27 rfl ?_
      refine g_ic4 dX11_kept_28 ?_
      refine g_icmp_le 37 (by decide) dX11_kept_29 (fun c6 => ?_) (fun c6 => ?_)
      · have h := g_ifp c6 h
        refine g_iload_n dX11_kept_37 rfl ?_
        obtain rfl := Option.some.inj h
        exact g_iret rfl (Nat.le_refl _) rfl dX11_kept_38 ⟨rfl, rfl⟩
      · have h := g_ifn c6 h
        refine g_bipush (v := (-3)) dX11_kept_32 (by decide) ?_
        refine g_goto 38 (by decide) dX11_kept_34 ?_
        obtain rfl := Option.some.inj h
        exact g_iret rfl (Nat.le_refl _) rfl dX11_kept_38 ⟨rfl, rfl⟩
    · have h := g_ifp c2 h
      refine g_icm1 dX11_kept_15 ?_
      obtain rfl := Option.some.inj h
      exact g_iret rfl (Nat.le_refl _) rfl dX11_kept_16 ⟨rfl, rfl⟩
set_option maxRecDepth 100000 in
set_option maxHeartbeats 4000000 in
theorem k_X2_homeBehindSome_L24 {D : va_G} {cA : Nat → ClassId} {b b2 k : Nat} {dyn : Nat → Nat} {t s : Nat} {Q : Option Value → g_S → Prop} {F : Int32 → Int32 → Int32 → g_M → Option (Int32 × g_M)} {d0 : Nat} (hF : ∀ (a1 : Int32) (a2 : Int32) (a3 : Int32) (μ : g_M) (z : Int32 × g_M), F a1 a2 a3 μ = some z → g_K (g_XX D cA b b2 dyn) yX2_homeBehindSome Y_X2_homeBehindSome d0 0 0 k [.ref 1, .int a1, .int a2, .int a3] (μ, (g_rfX t s)) (fun r1 σ1 => r1 = some (.int z.1) ∧ σ1 = (z.2, (g_rfX t s)))) {N : Nat} : ∀ (n : Nat) (x_1 : Int32) (x_2 : Int32) (x_3 : Int32) (x_4 : Int32) (x_5 : Int32) (μ : g_M) (z_4 : Int32) (z_μ : g_M), f_X2_homeBehindSome_L24 F N n x_1 x_2 x_3 x_4 x_5 μ = some (z_4, z_μ) → g_V (g_XX D cA b b2 dyn) Y_X2_homeBehindSome (d0 + 5) 0 0 Q k 0 0 69 [none, none, none, none, some (.int z_4), none, none] [] (z_μ, (g_rfX t s)) → g_V (g_XX D cA b b2 dyn) Y_X2_homeBehindSome (d0 + 5) 0 0 Q k 0 0 24 [some (.ref 1), some (.int x_1), some (.int x_2), some (.int x_3), some (.int x_4), some (.int x_5), none] [] (μ, (g_rfX t s)) := by
  intro n
  induction n with
  | zero =>
    intro x_1 x_2 x_3 x_4 x_5 μ z_4 z_μ h
    rw [f_X2_homeBehindSome_L24] at h
    cases h
  | succ n ih =>
    intro x_1 x_2 x_3 x_4 x_5 μ z_4 z_μ h hc
    rw [f_X2_homeBehindSome_L24] at h
    refine g_iload dX2_homeBehindSome_24 rfl ?_
    refine g_aload_n dX2_homeBehindSome_26 rfl ?_
    refine m_getI fl_X2_73 rfl rfl dX2_homeBehindSome_27 ?_
    refine g_icmp_gt 69 (by decide) dX2_homeBehindSome_30 (fun c5 => ?_) (fun c5 => ?_)
    · have h := g_ifp c5 h
      obtain ⟨rfl, rfl⟩ := g_inj2 h
      exact g_less _ (g_subN (g_subN (g_subN (g_subN (g_subS (g_subN (g_subN g_sub0))))))) hc
    · have h := g_ifn c5 h
      refine g_aload_n dX2_homeBehindSome_33 rfl ?_
      refine g_iload_n dX2_homeBehindSome_34 rfl ?_
      refine g_iload_n dX2_homeBehindSome_35 rfl ?_
      refine g_iload dX2_homeBehindSome_36 rfl ?_
      refine m_cSN mt_X11_chainOf mn_X2_95 ms_X11_chainOf dX2_homeBehindSome_38 (k_X11_chainOf rfl) rfl rfl (by omega) ⟨Nat.le_refl _, Nat.le_refl _⟩ (Nat.le_of_ble_eq_true rfl) ?_
      obtain ⟨⟨x6, μ8⟩, q7, h⟩ := g_bind h
      refine m_cV mt_X9_after ml_X2_22 mv_X9_after dX2_homeBehindSome_41 (k_X9_after q7) rfl rfl rfl rfl (by omega) ⟨Nat.le_refl _, Nat.le_refl _⟩ (Nat.le_of_ble_eq_true rfl) ?_
      refine g_istore_6 rfl (Nat.le_of_ble_eq_true rfl) dX2_homeBehindSome_44 ?_
      refine g_iload dX2_homeBehindSome_46 rfl ?_
      refine g_aload_n dX2_homeBehindSome_48 rfl ?_
      refine g_iload dX2_homeBehindSome_49 rfl ?_
      refine g_iload_n dX2_homeBehindSome_51 rfl ?_
      refine g_ic1 dX2_homeBehindSome_52 ?_
      refine g_iadd dX2_homeBehindSome_53 ?_
      refine g_iload_n dX2_homeBehindSome_54 rfl ?_
      refine g_ic1 dX2_homeBehindSome_55 ?_
      refine g_isub dX2_homeBehindSome_56 ?_
      obtain ⟨⟨x9, μ11⟩, q10, h⟩ := g_bind h
      refine m_cS mt_X2_homeBehindSome ml_X2_111 ms_X2_homeBehindSome dX2_homeBehindSome_57 (hF _ _ _ _ _ q10) rfl rfl (by omega) ⟨Nat.le_refl _, Nat.le_refl _⟩ (Nat.le_of_ble_eq_true rfl) ?_
      refine g_ior dX2_homeBehindSome_60 ?_
      obtain ⟨x12, ex12, h⟩ := g_let h
      refine g_top ex12 ?_
      refine g_istore_4 rfl (Nat.le_of_ble_eq_true rfl) dX2_homeBehindSome_61 ?_
      refine g_iinc_5 (v := 1) rfl (by decide) (Nat.le_of_ble_eq_true rfl) dX2_homeBehindSome_63 ?_
      refine g_goto 24 (by decide) dX2_homeBehindSome_66 ?_
      exact g_less _ (g_subS (g_subS (g_subS (g_subS (g_subS (g_subS (g_subN g_sub0))))))) (ih _ _ _ _ _ _ _ _ h hc)
set_option maxRecDepth 100000 in
set_option maxHeartbeats 4000000 in
theorem k_X2_homeBehindSome {D : va_G} {cA : Nat → ClassId} {b b2 k : Nat} {dyn : Nat → Nat} {t s : Nat} {N : Nat} : ∀ (n : Nat) (a1 : Int32) (a2 : Int32) (a3 : Int32) (μ : g_M) (z : Int32 × g_M), f_X2_homeBehindSome N n a1 a2 a3 μ = some z → g_K (g_XX D cA b b2 dyn) yX2_homeBehindSome Y_X2_homeBehindSome (5 * n) 0 0 k [.ref 1, .int a1, .int a2, .int a3] (μ, (g_rfX t s)) (fun r1 σ1 => r1 = some (.int z.1) ∧ σ1 = (z.2, (g_rfX t s))) := by
  intro n
  induction n with
  | zero =>
    intro a1 a2 a3 μ z h
    rw [f_X2_homeBehindSome] at h
    cases h
  | succ n hF =>
    intro a1 a2 a3 μ z h
    rw [f_X2_homeBehindSome] at h
    refine g_met (d := 5 * n + 5) 3 (by decide) rfl rfl (Nat.le_of_ble_eq_true rfl) ?_
    refine g_iload_n dX2_homeBehindSome_0 rfl ?_
    refine g_if_le 12 (by decide) dX2_homeBehindSome_1 (fun c1 => ?_) (fun c1 => ?_)
    · have h := g_ifp c1 h
      refine g_aload_n dX2_homeBehindSome_12 rfl ?_
      refine g_iload_n dX2_homeBehindSome_13 rfl ?_
      obtain ⟨x2, q3, h⟩ := g_bind h
      refine m_cV mt_X9_homeSet ml_X2_105 mv_X9_homeSet dX2_homeBehindSome_14 (k_X9_homeSet q3) rfl rfl rfl rfl (by omega) ⟨Nat.le_refl _, Nat.le_refl _⟩ (Nat.le_of_ble_eq_true rfl) ?_
      obtain rfl := Option.some.inj h
      exact g_iret rfl (Nat.le_refl _) rfl dX2_homeBehindSome_17 ⟨rfl, rfl⟩
    · have h := g_ifn c1 h
      refine g_iload_n dX2_homeBehindSome_4 rfl ?_
      refine g_aload_n dX2_homeBehindSome_5 rfl ?_
      refine m_getI fl_X2_33 rfl rfl dX2_homeBehindSome_6 ?_
      refine g_icmp_lt 18 (by decide) dX2_homeBehindSome_9 (fun c4 => ?_) (fun c4 => ?_)
      · have h := g_ifp c4 h
        refine g_ic0 dX2_homeBehindSome_18 ?_
        refine g_istore_4 rfl (Nat.le_of_ble_eq_true rfl) dX2_homeBehindSome_19 ?_
        refine g_ic0 dX2_homeBehindSome_21 ?_
        refine g_istore_5 rfl (Nat.le_of_ble_eq_true rfl) dX2_homeBehindSome_22 ?_
        obtain ⟨⟨x5, μ6⟩, q7, h⟩ := g_bind h
        refine g_less _ (g_subS (g_subS (g_subS (g_subS (g_subS (g_subS (g_subN g_sub0))))))) (k_X2_homeBehindSome_L24 hF _ _ _ _ _ _ _ _ _ q7 ?_)
        refine g_iload dX2_homeBehindSome_69 rfl ?_
        obtain rfl := Option.some.inj h
        exact g_iret rfl (Nat.le_refl _) rfl dX2_homeBehindSome_71 ⟨rfl, rfl⟩
      · have h := g_ifn c4 h
        refine g_aload_n dX2_homeBehindSome_12 rfl ?_
        refine g_iload_n dX2_homeBehindSome_13 rfl ?_
        obtain ⟨x8, q9, h⟩ := g_bind h
        refine m_cV mt_X9_homeSet ml_X2_105 mv_X9_homeSet dX2_homeBehindSome_14 (k_X9_homeSet q9) rfl rfl rfl rfl (by omega) ⟨Nat.le_refl _, Nat.le_refl _⟩ (Nat.le_of_ble_eq_true rfl) ?_
        obtain rfl := Option.some.inj h
        exact g_iret rfl (Nat.le_refl _) rfl dX2_homeBehindSome_17 ⟨rfl, rfl⟩
set_option maxRecDepth 100000 in
set_option maxHeartbeats 4000000 in
theorem k_X2_everHome {D : va_G} {cA : Nat → ClassId} {b b2 k : Nat} {dyn : Nat → Nat} {t s : Nat} {N : Nat} {a1 : Int32} {μ : g_M} {z : Int32 × g_M} (h : f_X2_everHome N a1 μ = some z) : g_K (g_XX D cA b b2 dyn) yX2_everHome Y_X2_everHome 31 0 0 k [.ref 1, .int a1] (μ, (g_rfX t s)) (fun r1 σ1 => r1 = some (.int z.1) ∧ σ1 = (z.2, (g_rfX t s))) := by
  unfold f_X2_everHome at h
  refine g_met 0 (by decide) rfl rfl (Nat.le_of_ble_eq_true rfl) ?_
  refine g_aload_n dX2_everHome_0 rfl ?_
  refine g_aload_n dX2_everHome_1 rfl ?_
  refine m_getI fl_X2_9 rfl rfl dX2_everHome_2 ?_
  refine g_aload_n dX2_everHome_5 rfl ?_
  refine m_getI fl_X2_19 rfl rfl dX2_everHome_6 ?_
  refine g_iload_n dX2_everHome_9 rfl ?_
  obtain ⟨⟨x1, μ3⟩, q2, h⟩ := g_bind h
  refine m_cS mt_X2_homeBehindSome ml_X2_111 ms_X2_homeBehindSome dX2_everHome_10 (k_X2_homeBehindSome _ _ _ _ _ _ q2) rfl rfl (by decide) ⟨Nat.le_refl _, Nat.le_refl _⟩ (Nat.le_of_ble_eq_true rfl) ?_
  obtain rfl := Option.some.inj h
  exact g_iret rfl (Nat.le_refl _) rfl dX2_everHome_13 ⟨rfl, rfl⟩
set_option maxRecDepth 100000 in
set_option maxHeartbeats 4000000 in
theorem k_J6_numberOfTrailingZeros_0f7a4 {D : va_G} {cA : Nat → ClassId} {b b2 k : Nat} {dyn : Nat → Nat} {t s : Nat} {a1 : Int32} {μ : g_M} {z : Int32} (h : f_J6_numberOfTrailingZeros_0f7a4 a1 = some z) : g_K (g_XX D cA b b2 dyn) yJ6_numberOfTrailingZeros_0f7a4 Y_J6_numberOfTrailingZeros_0f7a4 1 0 0 k [.int a1] (μ, (g_rfX t s)) (fun r1 σ1 => r1 = some (.int z) ∧ σ1 = (μ, (g_rfX t s))) := by
  unfold f_J6_numberOfTrailingZeros_0f7a4 at h
  refine g_met 1 (by decide) rfl rfl (Nat.le_of_ble_eq_true rfl) ?_
  refine g_iload_n dJ6_numberOfTrailingZeros_0f7a4_0 rfl ?_
  refine g_icm1 dJ6_numberOfTrailingZeros_0f7a4_1 ?_
  refine g_ixor dJ6_numberOfTrailingZeros_0f7a4_2 ?_
  refine g_iload_n dJ6_numberOfTrailingZeros_0f7a4_3 rfl ?_
  refine g_ic1 dJ6_numberOfTrailingZeros_0f7a4_4 ?_
  refine g_isub dJ6_numberOfTrailingZeros_0f7a4_5 ?_
  refine g_iand dJ6_numberOfTrailingZeros_0f7a4_6 ?_
  obtain ⟨x1, ex1, h⟩ := g_let h
  refine g_top ex1 ?_
  refine g_istore_0 (Nat.le_of_ble_eq_true rfl) dJ6_numberOfTrailingZeros_0f7a4_7 ?_
  refine g_iload_n dJ6_numberOfTrailingZeros_0f7a4_8 rfl ?_
  refine g_if_gt 17 (by decide) dJ6_numberOfTrailingZeros_0f7a4_9 (fun c2 => ?_) (fun c2 => ?_)
  · have h := g_ifp c2 h
    refine g_ic1 dJ6_numberOfTrailingZeros_0f7a4_17 ?_
    refine g_istore_1 rfl (Nat.le_of_ble_eq_true rfl) dJ6_numberOfTrailingZeros_0f7a4_18 ?_
    refine g_iload_n dJ6_numberOfTrailingZeros_0f7a4_19 rfl ?_
    refine g_ldcw kc_J6_264 dJ6_numberOfTrailingZeros_0f7a4_20 ?_
    refine g_icmp_le 34 (by decide) dJ6_numberOfTrailingZeros_0f7a4_23 (fun c3 => ?_) (fun c3 => ?_)
    · have h := g_ifp c3 h
      refine g_iload_n dJ6_numberOfTrailingZeros_0f7a4_34 rfl ?_
      refine g_sipush (v := 256) dJ6_numberOfTrailingZeros_0f7a4_35 (by decide) ?_
      refine g_icmp_le 49 (by decide) dJ6_numberOfTrailingZeros_0f7a4_38 (fun c4 => ?_) (fun c4 => ?_)
      · have h := g_ifp c4 h
        refine g_iload_n dJ6_numberOfTrailingZeros_0f7a4_49 rfl ?_
        refine g_bipush (v := 16) dJ6_numberOfTrailingZeros_0f7a4_50 (by decide) ?_
        refine g_icmp_le 62 (by decide) dJ6_numberOfTrailingZeros_0f7a4_52 (fun c5 => ?_) (fun c5 => ?_)
        · have h := g_ifp c5 h
          refine g_iload_n dJ6_numberOfTrailingZeros_0f7a4_62 rfl ?_
          refine g_ic4 dJ6_numberOfTrailingZeros_0f7a4_63 ?_
          refine g_icmp_le 74 (by decide) dJ6_numberOfTrailingZeros_0f7a4_64 (fun c6 => ?_) (fun c6 => ?_)
          · have h := g_ifp c6 h
            refine g_iload_n dJ6_numberOfTrailingZeros_0f7a4_74 rfl ?_
            refine g_iload_n dJ6_numberOfTrailingZeros_0f7a4_75 rfl ?_
            refine g_ic1 dJ6_numberOfTrailingZeros_0f7a4_76 ?_
            refine g_iushr dJ6_numberOfTrailingZeros_0f7a4_77 ?_
            refine g_iadd dJ6_numberOfTrailingZeros_0f7a4_78 ?_
            obtain rfl := Option.some.inj h
            exact g_iret rfl (Nat.le_refl _) rfl dJ6_numberOfTrailingZeros_0f7a4_79 ⟨rfl, rfl⟩
          · have h := g_ifn c6 h
            refine g_iinc_1 (v := 2) rfl (by decide) (Nat.le_of_ble_eq_true rfl) dJ6_numberOfTrailingZeros_0f7a4_67 ?_
            refine g_iload_n dJ6_numberOfTrailingZeros_0f7a4_70 rfl ?_
            refine g_ic2 dJ6_numberOfTrailingZeros_0f7a4_71 ?_
            refine g_iushr dJ6_numberOfTrailingZeros_0f7a4_72 ?_
            obtain ⟨x7, ex7, h⟩ := g_let h
            refine g_top ex7 ?_
            refine g_istore_0 (Nat.le_of_ble_eq_true rfl) dJ6_numberOfTrailingZeros_0f7a4_73 ?_
            refine g_iload_n dJ6_numberOfTrailingZeros_0f7a4_74 rfl ?_
            refine g_iload_n dJ6_numberOfTrailingZeros_0f7a4_75 rfl ?_
            refine g_ic1 dJ6_numberOfTrailingZeros_0f7a4_76 ?_
            refine g_iushr dJ6_numberOfTrailingZeros_0f7a4_77 ?_
            refine g_iadd dJ6_numberOfTrailingZeros_0f7a4_78 ?_
            obtain rfl := Option.some.inj h
            exact g_iret rfl (Nat.le_refl _) rfl dJ6_numberOfTrailingZeros_0f7a4_79 ⟨rfl, rfl⟩
        · have h := g_ifn c5 h
          refine g_iinc_1 (v := 4) rfl (by decide) (Nat.le_of_ble_eq_true rfl) dJ6_numberOfTrailingZeros_0f7a4_55 ?_
          refine g_iload_n dJ6_numberOfTrailingZeros_0f7a4_58 rfl ?_
          refine g_ic4 dJ6_numberOfTrailingZeros_0f7a4_59 ?_
          refine g_iushr dJ6_numberOfTrailingZeros_0f7a4_60 ?_
          obtain ⟨x8, ex8, h⟩ := g_let h
          refine g_top ex8 ?_
          refine g_istore_0 (Nat.le_of_ble_eq_true rfl) dJ6_numberOfTrailingZeros_0f7a4_61 ?_
          refine g_iload_n dJ6_numberOfTrailingZeros_0f7a4_62 rfl ?_
          refine g_ic4 dJ6_numberOfTrailingZeros_0f7a4_63 ?_
          refine g_icmp_le 74 (by decide) dJ6_numberOfTrailingZeros_0f7a4_64 (fun c9 => ?_) (fun c9 => ?_)
          · have h := g_ifp c9 h
            refine g_iload_n dJ6_numberOfTrailingZeros_0f7a4_74 rfl ?_
            refine g_iload_n dJ6_numberOfTrailingZeros_0f7a4_75 rfl ?_
            refine g_ic1 dJ6_numberOfTrailingZeros_0f7a4_76 ?_
            refine g_iushr dJ6_numberOfTrailingZeros_0f7a4_77 ?_
            refine g_iadd dJ6_numberOfTrailingZeros_0f7a4_78 ?_
            obtain rfl := Option.some.inj h
            exact g_iret rfl (Nat.le_refl _) rfl dJ6_numberOfTrailingZeros_0f7a4_79 ⟨rfl, rfl⟩
          · have h := g_ifn c9 h
            refine g_iinc_1 (v := 2) rfl (by decide) (Nat.le_of_ble_eq_true rfl) dJ6_numberOfTrailingZeros_0f7a4_67 ?_
            refine g_iload_n dJ6_numberOfTrailingZeros_0f7a4_70 rfl ?_
            refine g_ic2 dJ6_numberOfTrailingZeros_0f7a4_71 ?_
            refine g_iushr dJ6_numberOfTrailingZeros_0f7a4_72 ?_
            obtain ⟨x10, ex10, h⟩ := g_let h
            refine g_top ex10 ?_
            refine g_istore_0 (Nat.le_of_ble_eq_true rfl) dJ6_numberOfTrailingZeros_0f7a4_73 ?_
            refine g_iload_n dJ6_numberOfTrailingZeros_0f7a4_74 rfl ?_
            refine g_iload_n dJ6_numberOfTrailingZeros_0f7a4_75 rfl ?_
            refine g_ic1 dJ6_numberOfTrailingZeros_0f7a4_76 ?_
            refine g_iushr dJ6_numberOfTrailingZeros_0f7a4_77 ?_
            refine g_iadd dJ6_numberOfTrailingZeros_0f7a4_78 ?_
            obtain rfl := Option.some.inj h
            exact g_iret rfl (Nat.le_refl _) rfl dJ6_numberOfTrailingZeros_0f7a4_79 ⟨rfl, rfl⟩
      · have h := g_ifn c4 h
        refine g_iinc_1 (v := 8) rfl (by decide) (Nat.le_of_ble_eq_true rfl) dJ6_numberOfTrailingZeros_0f7a4_41 ?_
        refine g_iload_n dJ6_numberOfTrailingZeros_0f7a4_44 rfl ?_
        refine g_bipush (v := 8) dJ6_numberOfTrailingZeros_0f7a4_45 (by decide) ?_
        refine g_iushr dJ6_numberOfTrailingZeros_0f7a4_47 ?_
        obtain ⟨x11, ex11, h⟩ := g_let h
        refine g_top ex11 ?_
        refine g_istore_0 (Nat.le_of_ble_eq_true rfl) dJ6_numberOfTrailingZeros_0f7a4_48 ?_
        refine g_iload_n dJ6_numberOfTrailingZeros_0f7a4_49 rfl ?_
        refine g_bipush (v := 16) dJ6_numberOfTrailingZeros_0f7a4_50 (by decide) ?_
        refine g_icmp_le 62 (by decide) dJ6_numberOfTrailingZeros_0f7a4_52 (fun c12 => ?_) (fun c12 => ?_)
        · have h := g_ifp c12 h
          refine g_iload_n dJ6_numberOfTrailingZeros_0f7a4_62 rfl ?_
          refine g_ic4 dJ6_numberOfTrailingZeros_0f7a4_63 ?_
          refine g_icmp_le 74 (by decide) dJ6_numberOfTrailingZeros_0f7a4_64 (fun c13 => ?_) (fun c13 => ?_)
          · have h := g_ifp c13 h
            refine g_iload_n dJ6_numberOfTrailingZeros_0f7a4_74 rfl ?_
            refine g_iload_n dJ6_numberOfTrailingZeros_0f7a4_75 rfl ?_
            refine g_ic1 dJ6_numberOfTrailingZeros_0f7a4_76 ?_
            refine g_iushr dJ6_numberOfTrailingZeros_0f7a4_77 ?_
            refine g_iadd dJ6_numberOfTrailingZeros_0f7a4_78 ?_
            obtain rfl := Option.some.inj h
            exact g_iret rfl (Nat.le_refl _) rfl dJ6_numberOfTrailingZeros_0f7a4_79 ⟨rfl, rfl⟩
          · have h := g_ifn c13 h
            refine g_iinc_1 (v := 2) rfl (by decide) (Nat.le_of_ble_eq_true rfl) dJ6_numberOfTrailingZeros_0f7a4_67 ?_
            refine g_iload_n dJ6_numberOfTrailingZeros_0f7a4_70 rfl ?_
            refine g_ic2 dJ6_numberOfTrailingZeros_0f7a4_71 ?_
            refine g_iushr dJ6_numberOfTrailingZeros_0f7a4_72 ?_
            obtain ⟨x14, ex14, h⟩ := g_let h
            refine g_top ex14 ?_
            refine g_istore_0 (Nat.le_of_ble_eq_true rfl) dJ6_numberOfTrailingZeros_0f7a4_73 ?_
            refine g_iload_n dJ6_numberOfTrailingZeros_0f7a4_74 rfl ?_
            refine g_iload_n dJ6_numberOfTrailingZeros_0f7a4_75 rfl ?_
            refine g_ic1 dJ6_numberOfTrailingZeros_0f7a4_76 ?_
            refine g_iushr dJ6_numberOfTrailingZeros_0f7a4_77 ?_
            refine g_iadd dJ6_numberOfTrailingZeros_0f7a4_78 ?_
            obtain rfl := Option.some.inj h
            exact g_iret rfl (Nat.le_refl _) rfl dJ6_numberOfTrailingZeros_0f7a4_79 ⟨rfl, rfl⟩
        · have h := g_ifn c12 h
          refine g_iinc_1 (v := 4) rfl (by decide) (Nat.le_of_ble_eq_true rfl) dJ6_numberOfTrailingZeros_0f7a4_55 ?_
          refine g_iload_n dJ6_numberOfTrailingZeros_0f7a4_58 rfl ?_
          refine g_ic4 dJ6_numberOfTrailingZeros_0f7a4_59 ?_
          refine g_iushr dJ6_numberOfTrailingZeros_0f7a4_60 ?_
          obtain ⟨x15, ex15, h⟩ := g_let h
          refine g_top ex15 ?_
          refine g_istore_0 (Nat.le_of_ble_eq_true rfl) dJ6_numberOfTrailingZeros_0f7a4_61 ?_
          refine g_iload_n dJ6_numberOfTrailingZeros_0f7a4_62 rfl ?_
          refine g_ic4 dJ6_numberOfTrailingZeros_0f7a4_63 ?_
          refine g_icmp_le 74 (by decide) dJ6_numberOfTrailingZeros_0f7a4_64 (fun c16 => ?_) (fun c16 => ?_)
          · have h := g_ifp c16 h
            refine g_iload_n dJ6_numberOfTrailingZeros_0f7a4_74 rfl ?_
            refine g_iload_n dJ6_numberOfTrailingZeros_0f7a4_75 rfl ?_
            refine g_ic1 dJ6_numberOfTrailingZeros_0f7a4_76 ?_
            refine g_iushr dJ6_numberOfTrailingZeros_0f7a4_77 ?_
            refine g_iadd dJ6_numberOfTrailingZeros_0f7a4_78 ?_
            obtain rfl := Option.some.inj h
            exact g_iret rfl (Nat.le_refl _) rfl dJ6_numberOfTrailingZeros_0f7a4_79 ⟨rfl, rfl⟩
          · have h := g_ifn c16 h
            refine g_iinc_1 (v := 2) rfl (by decide) (Nat.le_of_ble_eq_true rfl) dJ6_numberOfTrailingZeros_0f7a4_67 ?_
            refine g_iload_n dJ6_numberOfTrailingZeros_0f7a4_70 rfl ?_
            refine g_ic2 dJ6_numberOfTrailingZeros_0f7a4_71 ?_
            refine g_iushr dJ6_numberOfTrailingZeros_0f7a4_72 ?_
            obtain ⟨x17, ex17, h⟩ := g_let h
            refine g_top ex17 ?_
            refine g_istore_0 (Nat.le_of_ble_eq_true rfl) dJ6_numberOfTrailingZeros_0f7a4_73 ?_
            refine g_iload_n dJ6_numberOfTrailingZeros_0f7a4_74 rfl ?_
            refine g_iload_n dJ6_numberOfTrailingZeros_0f7a4_75 rfl ?_
            refine g_ic1 dJ6_numberOfTrailingZeros_0f7a4_76 ?_
            refine g_iushr dJ6_numberOfTrailingZeros_0f7a4_77 ?_
            refine g_iadd dJ6_numberOfTrailingZeros_0f7a4_78 ?_
            obtain rfl := Option.some.inj h
            exact g_iret rfl (Nat.le_refl _) rfl dJ6_numberOfTrailingZeros_0f7a4_79 ⟨rfl, rfl⟩
    · have h := g_ifn c3 h
      refine g_iinc_1 (v := 16) rfl (by decide) (Nat.le_of_ble_eq_true rfl) dJ6_numberOfTrailingZeros_0f7a4_26 ?_
      refine g_iload_n dJ6_numberOfTrailingZeros_0f7a4_29 rfl ?_
      refine g_bipush (v := 16) dJ6_numberOfTrailingZeros_0f7a4_30 (by decide) ?_
      refine g_iushr dJ6_numberOfTrailingZeros_0f7a4_32 ?_
      obtain ⟨x18, ex18, h⟩ := g_let h
      refine g_top ex18 ?_
      refine g_istore_0 (Nat.le_of_ble_eq_true rfl) dJ6_numberOfTrailingZeros_0f7a4_33 ?_
      refine g_iload_n dJ6_numberOfTrailingZeros_0f7a4_34 rfl ?_
      refine g_sipush (v := 256) dJ6_numberOfTrailingZeros_0f7a4_35 (by decide) ?_
      refine g_icmp_le 49 (by decide) dJ6_numberOfTrailingZeros_0f7a4_38 (fun c19 => ?_) (fun c19 => ?_)
      · have h := g_ifp c19 h
        refine g_iload_n dJ6_numberOfTrailingZeros_0f7a4_49 rfl ?_
        refine g_bipush (v := 16) dJ6_numberOfTrailingZeros_0f7a4_50 (by decide) ?_
        refine g_icmp_le 62 (by decide) dJ6_numberOfTrailingZeros_0f7a4_52 (fun c20 => ?_) (fun c20 => ?_)
        · have h := g_ifp c20 h
          refine g_iload_n dJ6_numberOfTrailingZeros_0f7a4_62 rfl ?_
          refine g_ic4 dJ6_numberOfTrailingZeros_0f7a4_63 ?_
          refine g_icmp_le 74 (by decide) dJ6_numberOfTrailingZeros_0f7a4_64 (fun c21 => ?_) (fun c21 => ?_)
          · have h := g_ifp c21 h
            refine g_iload_n dJ6_numberOfTrailingZeros_0f7a4_74 rfl ?_
            refine g_iload_n dJ6_numberOfTrailingZeros_0f7a4_75 rfl ?_
            refine g_ic1 dJ6_numberOfTrailingZeros_0f7a4_76 ?_
            refine g_iushr dJ6_numberOfTrailingZeros_0f7a4_77 ?_
            refine g_iadd dJ6_numberOfTrailingZeros_0f7a4_78 ?_
            obtain rfl := Option.some.inj h
            exact g_iret rfl (Nat.le_refl _) rfl dJ6_numberOfTrailingZeros_0f7a4_79 ⟨rfl, rfl⟩
          · have h := g_ifn c21 h
            refine g_iinc_1 (v := 2) rfl (by decide) (Nat.le_of_ble_eq_true rfl) dJ6_numberOfTrailingZeros_0f7a4_67 ?_
            refine g_iload_n dJ6_numberOfTrailingZeros_0f7a4_70 rfl ?_
            refine g_ic2 dJ6_numberOfTrailingZeros_0f7a4_71 ?_
            refine g_iushr dJ6_numberOfTrailingZeros_0f7a4_72 ?_
            obtain ⟨x22, ex22, h⟩ := g_let h
            refine g_top ex22 ?_
            refine g_istore_0 (Nat.le_of_ble_eq_true rfl) dJ6_numberOfTrailingZeros_0f7a4_73 ?_
            refine g_iload_n dJ6_numberOfTrailingZeros_0f7a4_74 rfl ?_
            refine g_iload_n dJ6_numberOfTrailingZeros_0f7a4_75 rfl ?_
            refine g_ic1 dJ6_numberOfTrailingZeros_0f7a4_76 ?_
            refine g_iushr dJ6_numberOfTrailingZeros_0f7a4_77 ?_
            refine g_iadd dJ6_numberOfTrailingZeros_0f7a4_78 ?_
            obtain rfl := Option.some.inj h
            exact g_iret rfl (Nat.le_refl _) rfl dJ6_numberOfTrailingZeros_0f7a4_79 ⟨rfl, rfl⟩
        · have h := g_ifn c20 h
          refine g_iinc_1 (v := 4) rfl (by decide) (Nat.le_of_ble_eq_true rfl) dJ6_numberOfTrailingZeros_0f7a4_55 ?_
          refine g_iload_n dJ6_numberOfTrailingZeros_0f7a4_58 rfl ?_
          refine g_ic4 dJ6_numberOfTrailingZeros_0f7a4_59 ?_
          refine g_iushr dJ6_numberOfTrailingZeros_0f7a4_60 ?_
          obtain ⟨x23, ex23, h⟩ := g_let h
          refine g_top ex23 ?_
          refine g_istore_0 (Nat.le_of_ble_eq_true rfl) dJ6_numberOfTrailingZeros_0f7a4_61 ?_
          refine g_iload_n dJ6_numberOfTrailingZeros_0f7a4_62 rfl ?_
          refine g_ic4 dJ6_numberOfTrailingZeros_0f7a4_63 ?_
          refine g_icmp_le 74 (by decide) dJ6_numberOfTrailingZeros_0f7a4_64 (fun c24 => ?_) (fun c24 => ?_)
          · have h := g_ifp c24 h
            refine g_iload_n dJ6_numberOfTrailingZeros_0f7a4_74 rfl ?_
            refine g_iload_n dJ6_numberOfTrailingZeros_0f7a4_75 rfl ?_
            refine g_ic1 dJ6_numberOfTrailingZeros_0f7a4_76 ?_
            refine g_iushr dJ6_numberOfTrailingZeros_0f7a4_77 ?_
            refine g_iadd dJ6_numberOfTrailingZeros_0f7a4_78 ?_
            obtain rfl := Option.some.inj h
            exact g_iret rfl (Nat.le_refl _) rfl dJ6_numberOfTrailingZeros_0f7a4_79 ⟨rfl, rfl⟩
          · have h := g_ifn c24 h
            refine g_iinc_1 (v := 2) rfl (by decide) (Nat.le_of_ble_eq_true rfl) dJ6_numberOfTrailingZeros_0f7a4_67 ?_
            refine g_iload_n dJ6_numberOfTrailingZeros_0f7a4_70 rfl ?_
            refine g_ic2 dJ6_numberOfTrailingZeros_0f7a4_71 ?_
            refine g_iushr dJ6_numberOfTrailingZeros_0f7a4_72 ?_
            obtain ⟨x25, ex25, h⟩ := g_let h
            refine g_top ex25 ?_
            refine g_istore_0 (Nat.le_of_ble_eq_true rfl) dJ6_numberOfTrailingZeros_0f7a4_73 ?_
            refine g_iload_n dJ6_numberOfTrailingZeros_0f7a4_74 rfl ?_
            refine g_iload_n dJ6_numberOfTrailingZeros_0f7a4_75 rfl ?_
            refine g_ic1 dJ6_numberOfTrailingZeros_0f7a4_76 ?_
            refine g_iushr dJ6_numberOfTrailingZeros_0f7a4_77 ?_
            refine g_iadd dJ6_numberOfTrailingZeros_0f7a4_78 ?_
            obtain rfl := Option.some.inj h
            exact g_iret rfl (Nat.le_refl _) rfl dJ6_numberOfTrailingZeros_0f7a4_79 ⟨rfl, rfl⟩
      · have h := g_ifn c19 h
        refine g_iinc_1 (v := 8) rfl (by decide) (Nat.le_of_ble_eq_true rfl) dJ6_numberOfTrailingZeros_0f7a4_41 ?_
        refine g_iload_n dJ6_numberOfTrailingZeros_0f7a4_44 rfl ?_
        refine g_bipush (v := 8) dJ6_numberOfTrailingZeros_0f7a4_45 (by decide) ?_
        refine g_iushr dJ6_numberOfTrailingZeros_0f7a4_47 ?_
        obtain ⟨x26, ex26, h⟩ := g_let h
        refine g_top ex26 ?_
        refine g_istore_0 (Nat.le_of_ble_eq_true rfl) dJ6_numberOfTrailingZeros_0f7a4_48 ?_
        refine g_iload_n dJ6_numberOfTrailingZeros_0f7a4_49 rfl ?_
        refine g_bipush (v := 16) dJ6_numberOfTrailingZeros_0f7a4_50 (by decide) ?_
        refine g_icmp_le 62 (by decide) dJ6_numberOfTrailingZeros_0f7a4_52 (fun c27 => ?_) (fun c27 => ?_)
        · have h := g_ifp c27 h
          refine g_iload_n dJ6_numberOfTrailingZeros_0f7a4_62 rfl ?_
          refine g_ic4 dJ6_numberOfTrailingZeros_0f7a4_63 ?_
          refine g_icmp_le 74 (by decide) dJ6_numberOfTrailingZeros_0f7a4_64 (fun c28 => ?_) (fun c28 => ?_)
          · have h := g_ifp c28 h
            refine g_iload_n dJ6_numberOfTrailingZeros_0f7a4_74 rfl ?_
            refine g_iload_n dJ6_numberOfTrailingZeros_0f7a4_75 rfl ?_
            refine g_ic1 dJ6_numberOfTrailingZeros_0f7a4_76 ?_
            refine g_iushr dJ6_numberOfTrailingZeros_0f7a4_77 ?_
            refine g_iadd dJ6_numberOfTrailingZeros_0f7a4_78 ?_
            obtain rfl := Option.some.inj h
            exact g_iret rfl (Nat.le_refl _) rfl dJ6_numberOfTrailingZeros_0f7a4_79 ⟨rfl, rfl⟩
          · have h := g_ifn c28 h
            refine g_iinc_1 (v := 2) rfl (by decide) (Nat.le_of_ble_eq_true rfl) dJ6_numberOfTrailingZeros_0f7a4_67 ?_
            refine g_iload_n dJ6_numberOfTrailingZeros_0f7a4_70 rfl ?_
            refine g_ic2 dJ6_numberOfTrailingZeros_0f7a4_71 ?_
            refine g_iushr dJ6_numberOfTrailingZeros_0f7a4_72 ?_
            obtain ⟨x29, ex29, h⟩ := g_let h
            refine g_top ex29 ?_
            refine g_istore_0 (Nat.le_of_ble_eq_true rfl) dJ6_numberOfTrailingZeros_0f7a4_73 ?_
            refine g_iload_n dJ6_numberOfTrailingZeros_0f7a4_74 rfl ?_
            refine g_iload_n dJ6_numberOfTrailingZeros_0f7a4_75 rfl ?_
            refine g_ic1 dJ6_numberOfTrailingZeros_0f7a4_76 ?_
            refine g_iushr dJ6_numberOfTrailingZeros_0f7a4_77 ?_
            refine g_iadd dJ6_numberOfTrailingZeros_0f7a4_78 ?_
            obtain rfl := Option.some.inj h
            exact g_iret rfl (Nat.le_refl _) rfl dJ6_numberOfTrailingZeros_0f7a4_79 ⟨rfl, rfl⟩
        · have h := g_ifn c27 h
          refine g_iinc_1 (v := 4) rfl (by decide) (Nat.le_of_ble_eq_true rfl) dJ6_numberOfTrailingZeros_0f7a4_55 ?_
          refine g_iload_n dJ6_numberOfTrailingZeros_0f7a4_58 rfl ?_
          refine g_ic4 dJ6_numberOfTrailingZeros_0f7a4_59 ?_
          refine g_iushr dJ6_numberOfTrailingZeros_0f7a4_60 ?_
          obtain ⟨x30, ex30, h⟩ := g_let h
          refine g_top ex30 ?_
          refine g_istore_0 (Nat.le_of_ble_eq_true rfl) dJ6_numberOfTrailingZeros_0f7a4_61 ?_
          refine g_iload_n dJ6_numberOfTrailingZeros_0f7a4_62 rfl ?_
          refine g_ic4 dJ6_numberOfTrailingZeros_0f7a4_63 ?_
          refine g_icmp_le 74 (by decide) dJ6_numberOfTrailingZeros_0f7a4_64 (fun c31 => ?_) (fun c31 => ?_)
          · have h := g_ifp c31 h
            refine g_iload_n dJ6_numberOfTrailingZeros_0f7a4_74 rfl ?_
            refine g_iload_n dJ6_numberOfTrailingZeros_0f7a4_75 rfl ?_
            refine g_ic1 dJ6_numberOfTrailingZeros_0f7a4_76 ?_
            refine g_iushr dJ6_numberOfTrailingZeros_0f7a4_77 ?_
            refine g_iadd dJ6_numberOfTrailingZeros_0f7a4_78 ?_
            obtain rfl := Option.some.inj h
            exact g_iret rfl (Nat.le_refl _) rfl dJ6_numberOfTrailingZeros_0f7a4_79 ⟨rfl, rfl⟩
          · have h := g_ifn c31 h
            refine g_iinc_1 (v := 2) rfl (by decide) (Nat.le_of_ble_eq_true rfl) dJ6_numberOfTrailingZeros_0f7a4_67 ?_
            refine g_iload_n dJ6_numberOfTrailingZeros_0f7a4_70 rfl ?_
            refine g_ic2 dJ6_numberOfTrailingZeros_0f7a4_71 ?_
            refine g_iushr dJ6_numberOfTrailingZeros_0f7a4_72 ?_
            obtain ⟨x32, ex32, h⟩ := g_let h
            refine g_top ex32 ?_
            refine g_istore_0 (Nat.le_of_ble_eq_true rfl) dJ6_numberOfTrailingZeros_0f7a4_73 ?_
            refine g_iload_n dJ6_numberOfTrailingZeros_0f7a4_74 rfl ?_
            refine g_iload_n dJ6_numberOfTrailingZeros_0f7a4_75 rfl ?_
            refine g_ic1 dJ6_numberOfTrailingZeros_0f7a4_76 ?_
            refine g_iushr dJ6_numberOfTrailingZeros_0f7a4_77 ?_
            refine g_iadd dJ6_numberOfTrailingZeros_0f7a4_78 ?_
            obtain rfl := Option.some.inj h
            exact g_iret rfl (Nat.le_refl _) rfl dJ6_numberOfTrailingZeros_0f7a4_79 ⟨rfl, rfl⟩
  · have h := g_ifn c2 h
    refine g_iload_n dJ6_numberOfTrailingZeros_0f7a4_12 rfl ?_
    refine g_bipush (v := 32) dJ6_numberOfTrailingZeros_0f7a4_13 (by decide) ?_
    refine g_iand dJ6_numberOfTrailingZeros_0f7a4_15 ?_
    obtain rfl := Option.some.inj h
    exact g_iret rfl (Nat.le_refl _) rfl dJ6_numberOfTrailingZeros_0f7a4_16 ⟨rfl, rfl⟩
set_option maxRecDepth 100000 in
set_option maxHeartbeats 4000000 in
theorem k_X11_bars {D : va_G} {cA : Nat → ClassId} {b b2 k : Nat} {dyn : Nat → Nat} {t s : Nat} {N : Nat} {a1 : Int32} {a2 : Int32} {μ : g_M} {z : Int32 × g_M} (h : f_X11_bars N a1 a2 μ = some z) : g_K (g_XX D cA b b2 dyn) yX11_bars Y_X11_bars 32 0 0 k [.ref 0, .int a1, .int a2] (μ, (g_rfX t s)) (fun r1 σ1 => r1 = some (.int z.1) ∧ σ1 = (z.2, (g_rfX t s))) := by
  unfold f_X11_bars at h
  refine g_met 1 (by decide) rfl rfl (Nat.le_of_ble_eq_true rfl) ?_
  refine g_iload_n dX11_bars_0 rfl ?_
  refine m_cS mt_X11_isPlan ml_X11_203 ms_X11_isPlan dX11_bars_1 (k_X11_isPlan rfl) rfl rfl (by decide) ⟨Nat.le_refl _, Nat.le_refl _⟩ (Nat.le_of_ble_eq_true rfl) ?_
  refine g_if_eq 15 (by decide) dX11_bars_4 (fun c1 => ?_) (fun c1 => ?_)
  · have h := g_ifp c1 h
    refine g_icm1 dX11_bars_15 ?_
    obtain rfl := Option.some.inj h
    exact g_iret rfl (Nat.le_refl _) rfl dX11_bars_16 ⟨rfl, rfl⟩
  · have h := g_ifn c1 h
    refine g_aload_n dX11_bars_7 rfl ?_
    refine g_iload_n dX11_bars_8 rfl ?_
    refine m_cV mt_X11_isOvenSet ml_X11_225 mv_X11_isOvenSet dX11_bars_9 (k_X11_isOvenSet rfl) rfl rfl rfl rfl (by decide) ⟨Nat.le_refl _, Nat.le_refl _⟩ (Nat.le_of_ble_eq_true rfl) ?_
    refine g_if_ne 17 (by decide) dX11_bars_12 (fun c2 => ?_) (fun c2 => ?_)
    · have h := g_ifn c2 h
      refine g_iload_n dX11_bars_17 rfl ?_
      refine g_aload_n dX11_bars_18 rfl ?_
      refine m_getR fl_X11_10 rfl rfl rfl dX11_bars_19 ?_
      refine g_iload_n dX11_bars_22 rfl ?_
      obtain ⟨⟨x3, μ5⟩, q4, h⟩ := g_bind h
      refine m_cS mt_X2_everHome ml_X11_232 ms_X2_everHome dX11_bars_23 (k_X2_everHome q4) rfl rfl (by decide) ⟨Nat.le_refl _, Nat.le_refl _⟩ (Nat.le_of_ble_eq_true rfl) ?_
      refine g_icm1 dX11_bars_26 ?_
      refine g_ixor dX11_bars_27 ?_
      refine g_iand dX11_bars_28 ?_
      obtain ⟨x6, ex6, h⟩ := g_let h
      refine g_top ex6 ?_
      refine g_istore_3 rfl (Nat.le_of_ble_eq_true rfl) dX11_bars_29 ?_
      refine g_iload_n dX11_bars_30 rfl ?_
      refine g_if_ne 39 (by decide) dX11_bars_31 (fun c7 => ?_) (fun c7 => ?_)
      · have h := g_ifn c7 h
        refine g_iload_n dX11_bars_39 rfl ?_
        obtain ⟨x8, q9, h⟩ := g_bind h
        refine m_cS mt_J6_numberOfTrailingZeros_0f7a4 ml_X11_235 ms_J6_numberOfTrailingZeros_0f7a4 dX11_bars_40 (k_J6_numberOfTrailingZeros_0f7a4 q9) rfl rfl (by decide) ⟨Nat.le_refl _, Nat.le_refl _⟩ (Nat.le_of_ble_eq_true rfl) ?_
        obtain rfl := Option.some.inj h
        exact g_iret rfl (Nat.le_refl _) rfl dX11_bars_43 ⟨rfl, rfl⟩
      · have h := g_ifp c7 h
        refine g_bipush (v := (-3)) dX11_bars_34 (by decide) ?_
        refine g_goto 43 (by decide) dX11_bars_36 ?_
        obtain rfl := Option.some.inj h
        exact g_iret rfl (Nat.le_refl _) rfl dX11_bars_43 ⟨rfl, rfl⟩
    · have h := g_ifp c2 h
      refine g_icm1 dX11_bars_15 ?_
      obtain rfl := Option.some.inj h
      exact g_iret rfl (Nat.le_refl _) rfl dX11_bars_16 ⟨rfl, rfl⟩
set_option maxRecDepth 100000 in
set_option maxHeartbeats 4000000 in
theorem k_X11_isGame {D : va_G} {cA : Nat → ClassId} {b b2 k : Nat} {dyn : Nat → Nat} {t s : Nat} {a1 : Int32} {μ : g_M} {z : Int32} (h : f_X11_isGame a1 = z) : g_K (g_XX D cA b b2 dyn) yX11_isGame Y_X11_isGame 2 0 0 k [.int a1] (μ, (g_rfX t s)) (fun r1 σ1 => r1 = some (.int z) ∧ σ1 = (μ, (g_rfX t s))) := by
  unfold f_X11_isGame at h
  refine g_met 0 (by decide) rfl rfl (Nat.le_of_ble_eq_true rfl) ?_
  refine g_iload_n dX11_isGame_0 rfl ?_
  refine g_ic1 dX11_isGame_1 ?_
  refine g_ic4 dX11_isGame_2 ?_
  refine m_cS mt_X11_isBetween ml_X11_120 ms_X11_isBetween dX11_isGame_3 (k_X11_isBetween rfl) rfl rfl (by decide) ⟨Nat.le_refl _, Nat.le_refl _⟩ (Nat.le_of_ble_eq_true rfl) ?_
  subst h
  exact g_zret rfl (Nat.le_refl _) rfl (zb_X11_isBetween a1 1 4) dX11_isGame_6 ⟨rfl, rfl⟩
set_option maxRecDepth 100000 in
set_option maxHeartbeats 4000000 in
theorem zb_X11_isGame (a1 : Int32) : narrow .boolean (.int (f_X11_isGame a1)) = .int (f_X11_isGame a1) := by
  unfold f_X11_isGame
  repeat' split
  all_goals first | rfl | apply zb_X11_isBetween
set_option maxRecDepth 100000 in
set_option maxHeartbeats 4000000 in
theorem k_X2_gameValue_L20 {D : va_G} {cA : Nat → ClassId} {b b2 k : Nat} {dyn : Nat → Nat} {t s : Nat} {Q : Option Value → g_S → Prop} {F : Int32 → Int32 → Int32 → Int32 → g_M → Option (Int32 × g_M)} {d0 : Nat} (hF : ∀ (a1 : Int32) (a2 : Int32) (a3 : Int32) (a4 : Int32) (μ : g_M) (z : Int32 × g_M), F a1 a2 a3 a4 μ = some z → g_K (g_XX D cA b b2 dyn) yX2_gameValue Y_X2_gameValue d0 0 0 k [.ref 1, .int a1, .int a2, .int a3, .int a4] (μ, (g_rfX t s)) (fun r1 σ1 => r1 = some (.int z.1) ∧ σ1 = (z.2, (g_rfX t s)))) {N : Nat} : ∀ (n : Nat) (x_1 : Int32) (x_2 : Int32) (x_3 : Int32) (x_4 : Int32) (x_5 : Int32) (x_6 : Int32) (μ : g_M) (z_5 : Int32) (z_μ : g_M), f_X2_gameValue_L20 F N n x_1 x_2 x_3 x_4 x_5 x_6 μ = some (z_5, z_μ) → g_V (g_XX D cA b b2 dyn) Y_X2_gameValue (d0 + 6) 0 0 Q k 0 0 128 [none, none, none, none, none, some (.int z_5), none, none, none, none] [] (z_μ, (g_rfX t s)) → g_V (g_XX D cA b b2 dyn) Y_X2_gameValue (d0 + 6) 0 0 Q k 0 0 20 [some (.ref 1), some (.int x_1), some (.int x_2), some (.int x_3), some (.int x_4), some (.int x_5), some (.int x_6), none, none, none] [] (μ, (g_rfX t s)) := by
  intro n
  induction n with
  | zero =>
    intro x_1 x_2 x_3 x_4 x_5 x_6 μ z_5 z_μ h
    rw [f_X2_gameValue_L20] at h
    cases h
  | succ n ih =>
    intro x_1 x_2 x_3 x_4 x_5 x_6 μ z_5 z_μ h hc
    rw [f_X2_gameValue_L20] at h
    refine g_iload dX2_gameValue_20 rfl ?_
    refine g_aload_n dX2_gameValue_22 rfl ?_
    refine m_getI fl_X2_73 rfl rfl dX2_gameValue_23 ?_
    refine g_icmp_gt 128 (by decide) dX2_gameValue_26 (fun c3 => ?_) (fun c3 => ?_)
    · have h := g_ifp c3 h
      obtain ⟨rfl, rfl⟩ := g_inj2 h
      exact g_less _ (g_subN (g_subN (g_subN (g_subN (g_subN (g_subS (g_subN (g_subN (g_subN (g_subN g_sub0)))))))))) hc
    · have h := g_ifn c3 h
      refine g_aload_n dX2_gameValue_29 rfl ?_
      refine g_iload_n dX2_gameValue_30 rfl ?_
      refine g_iload_n dX2_gameValue_31 rfl ?_
      refine g_iload dX2_gameValue_32 rfl ?_
      refine m_cSN mt_X11_chainOf mn_X2_95 ms_X11_chainOf dX2_gameValue_34 (k_X11_chainOf rfl) rfl rfl (by omega) ⟨Nat.le_refl _, Nat.le_refl _⟩ (Nat.le_of_ble_eq_true rfl) ?_
      obtain ⟨⟨x4, μ6⟩, q5, h⟩ := g_bind h
      refine m_cV mt_X9_after ml_X2_22 mv_X9_after dX2_gameValue_37 (k_X9_after q5) rfl rfl rfl rfl (by omega) ⟨Nat.le_refl _, Nat.le_refl _⟩ (Nat.le_of_ble_eq_true rfl) ?_
      refine g_istore_7 rfl (Nat.le_of_ble_eq_true rfl) dX2_gameValue_40 ?_
      refine g_aload_n dX2_gameValue_42 rfl ?_
      refine g_iload dX2_gameValue_43 rfl ?_
      refine g_iload_n dX2_gameValue_45 rfl ?_
      obtain ⟨x7, q8, h⟩ := g_bind h
      refine m_cV mt_X9_worthOf ml_X2_26 mv_X9_worthOf dX2_gameValue_46 (k_X9_worthOf q8) rfl rfl rfl rfl (by omega) ⟨Nat.le_refl _, Nat.le_refl _⟩ (Nat.le_of_ble_eq_true rfl) ?_
      refine g_aload_n dX2_gameValue_49 rfl ?_
      refine g_iload dX2_gameValue_50 rfl ?_
      refine g_iload_n dX2_gameValue_52 rfl ?_
      refine g_ic1 dX2_gameValue_53 ?_
      refine g_iadd dX2_gameValue_54 ?_
      refine g_iload_n dX2_gameValue_55 rfl ?_
      refine g_ic1 dX2_gameValue_56 ?_
      refine g_isub dX2_gameValue_57 ?_
      refine g_iload dX2_gameValue_58 rfl ?_
      refine g_if_ne 67 (by decide) dX2_gameValue_60 (fun c9 => ?_) (fun c9 => ?_)
      · have h := g_ifn c9 h
        refine g_ic0 dX2_gameValue_67 ?_
        obtain ⟨⟨x10, μ12⟩, q11, h⟩ := g_bind h
        refine m_cS mt_X2_gameValue ml_X2_114 ms_X2_gameValue dX2_gameValue_68 (hF _ _ _ _ _ _ q11) rfl rfl (by omega) ⟨Nat.le_refl _, Nat.le_refl _⟩ (Nat.le_of_ble_eq_true rfl) ?_
        refine g_iadd dX2_gameValue_71 ?_
        obtain ⟨x13, ex13, h⟩ := g_let h
        refine g_top ex13 ?_
        refine g_istore_8 rfl (Nat.le_of_ble_eq_true rfl) dX2_gameValue_72 ?_
        refine g_iload dX2_gameValue_74 rfl ?_
        refine g_if_eq 94 (by decide) dX2_gameValue_76 (fun cd => absurd cd c9) (fun c9 => ?_)
        refine g_iload dX2_gameValue_79 rfl ?_
        refine g_iload dX2_gameValue_81 rfl ?_
        refine g_icmp_le 90 (by decide) dX2_gameValue_83 (fun c14 => ?_) (fun c14 => ?_)
        · have h := g_ifp c14 h
          refine g_ic0 dX2_gameValue_90 ?_
          refine g_goto 106 (by decide) dX2_gameValue_91 ?_
          refine g_istore_9 rfl (Nat.le_of_ble_eq_true rfl) dX2_gameValue_106 ?_
          refine g_iload dX2_gameValue_108 rfl ?_
          refine g_if_eq 118 (by decide) dX2_gameValue_110 (fun c15 => ?_) (fun c15 => ?_)
          · have h := g_ifp c15 h
            refine g_iload dX2_gameValue_118 rfl ?_
            refine g_istore_5 rfl (Nat.le_of_ble_eq_true rfl) dX2_gameValue_120 ?_
            refine g_iinc_6 (v := 1) rfl (by decide) (Nat.le_of_ble_eq_true rfl) dX2_gameValue_122 ?_
            refine g_goto 20 (by decide) dX2_gameValue_125 ?_
            exact g_less _ (g_subS (g_subS (g_subS (g_subS (g_subS (g_subS (g_subS (g_subN (g_subN (g_subN g_sub0)))))))))) (ih _ _ _ _ _ _ _ _ _ h hc)
          · have h := g_ifn c15 h
            refine g_iload dX2_gameValue_113 rfl ?_
            refine g_if_eq 122 (by decide) dX2_gameValue_115 (fun c9 => ?_) (fun cd => absurd (by decide) cd)
            refine g_iinc_6 (v := 1) rfl (by decide) (Nat.le_of_ble_eq_true rfl) dX2_gameValue_122 ?_
            refine g_goto 20 (by decide) dX2_gameValue_125 ?_
            exact g_less _ (g_subS (g_subS (g_subS (g_subS (g_subS (g_subS (g_subS (g_subN (g_subN (g_subN g_sub0)))))))))) (ih _ _ _ _ _ _ _ _ _ h hc)
        · have h := g_ifn c14 h
          refine g_ic1 dX2_gameValue_86 ?_
          refine g_goto 106 (by decide) dX2_gameValue_87 ?_
          refine g_istore_9 rfl (Nat.le_of_ble_eq_true rfl) dX2_gameValue_106 ?_
          refine g_iload dX2_gameValue_108 rfl ?_
          refine g_if_eq 118 (by decide) dX2_gameValue_110 (fun c16 => ?_) (fun c16 => ?_)
          · have h := g_ifp c16 h
            refine g_iload dX2_gameValue_118 rfl ?_
            refine g_istore_5 rfl (Nat.le_of_ble_eq_true rfl) dX2_gameValue_120 ?_
            refine g_iinc_6 (v := 1) rfl (by decide) (Nat.le_of_ble_eq_true rfl) dX2_gameValue_122 ?_
            refine g_goto 20 (by decide) dX2_gameValue_125 ?_
            exact g_less _ (g_subS (g_subS (g_subS (g_subS (g_subS (g_subS (g_subS (g_subN (g_subN (g_subN g_sub0)))))))))) (ih _ _ _ _ _ _ _ _ _ h hc)
          · have h := g_ifn c16 h
            refine g_iload dX2_gameValue_113 rfl ?_
            refine g_if_eq 122 (by decide) dX2_gameValue_115 (fun cd => absurd cd (by decide)) (fun c9 => ?_)
            refine g_iload dX2_gameValue_118 rfl ?_
            refine g_istore_5 rfl (Nat.le_of_ble_eq_true rfl) dX2_gameValue_120 ?_
            refine g_iinc_6 (v := 1) rfl (by decide) (Nat.le_of_ble_eq_true rfl) dX2_gameValue_122 ?_
            refine g_goto 20 (by decide) dX2_gameValue_125 ?_
            exact g_less _ (g_subS (g_subS (g_subS (g_subS (g_subS (g_subS (g_subS (g_subN (g_subN (g_subN g_sub0)))))))))) (ih _ _ _ _ _ _ _ _ _ h hc)
      · have h := g_ifp c9 h
        refine g_ic1 dX2_gameValue_63 ?_
        refine g_goto 68 (by decide) dX2_gameValue_64 ?_
        obtain ⟨⟨x17, μ19⟩, q18, h⟩ := g_bind h
        refine m_cS mt_X2_gameValue ml_X2_114 ms_X2_gameValue dX2_gameValue_68 (hF _ _ _ _ _ _ q18) rfl rfl (by omega) ⟨Nat.le_refl _, Nat.le_refl _⟩ (Nat.le_of_ble_eq_true rfl) ?_
        refine g_iadd dX2_gameValue_71 ?_
        obtain ⟨x20, ex20, h⟩ := g_let h
        refine g_top ex20 ?_
        refine g_istore_8 rfl (Nat.le_of_ble_eq_true rfl) dX2_gameValue_72 ?_
        refine g_iload dX2_gameValue_74 rfl ?_
        refine g_if_eq 94 (by decide) dX2_gameValue_76 (fun c9 => ?_) (fun cd => absurd c9 cd)
        refine g_iload dX2_gameValue_94 rfl ?_
        refine g_iload dX2_gameValue_96 rfl ?_
        refine g_icmp_ge 105 (by decide) dX2_gameValue_98 (fun c21 => ?_) (fun c21 => ?_)
        · have h := g_ifp c21 h
          refine g_ic0 dX2_gameValue_105 ?_
          refine g_istore_9 rfl (Nat.le_of_ble_eq_true rfl) dX2_gameValue_106 ?_
          refine g_iload dX2_gameValue_108 rfl ?_
          refine g_if_eq 118 (by decide) dX2_gameValue_110 (fun c22 => ?_) (fun c22 => ?_)
          · have h := g_ifp c22 h
            refine g_iload dX2_gameValue_118 rfl ?_
            refine g_istore_5 rfl (Nat.le_of_ble_eq_true rfl) dX2_gameValue_120 ?_
            refine g_iinc_6 (v := 1) rfl (by decide) (Nat.le_of_ble_eq_true rfl) dX2_gameValue_122 ?_
            refine g_goto 20 (by decide) dX2_gameValue_125 ?_
            exact g_less _ (g_subS (g_subS (g_subS (g_subS (g_subS (g_subS (g_subS (g_subN (g_subN (g_subN g_sub0)))))))))) (ih _ _ _ _ _ _ _ _ _ h hc)
          · have h := g_ifn c22 h
            refine g_iload dX2_gameValue_113 rfl ?_
            refine g_if_eq 122 (by decide) dX2_gameValue_115 (fun c9 => ?_) (fun cd => absurd (by decide) cd)
            refine g_iinc_6 (v := 1) rfl (by decide) (Nat.le_of_ble_eq_true rfl) dX2_gameValue_122 ?_
            refine g_goto 20 (by decide) dX2_gameValue_125 ?_
            exact g_less _ (g_subS (g_subS (g_subS (g_subS (g_subS (g_subS (g_subS (g_subN (g_subN (g_subN g_sub0)))))))))) (ih _ _ _ _ _ _ _ _ _ h hc)
        · have h := g_ifn c21 h
          refine g_ic1 dX2_gameValue_101 ?_
          refine g_goto 106 (by decide) dX2_gameValue_102 ?_
          refine g_istore_9 rfl (Nat.le_of_ble_eq_true rfl) dX2_gameValue_106 ?_
          refine g_iload dX2_gameValue_108 rfl ?_
          refine g_if_eq 118 (by decide) dX2_gameValue_110 (fun c23 => ?_) (fun c23 => ?_)
          · have h := g_ifp c23 h
            refine g_iload dX2_gameValue_118 rfl ?_
            refine g_istore_5 rfl (Nat.le_of_ble_eq_true rfl) dX2_gameValue_120 ?_
            refine g_iinc_6 (v := 1) rfl (by decide) (Nat.le_of_ble_eq_true rfl) dX2_gameValue_122 ?_
            refine g_goto 20 (by decide) dX2_gameValue_125 ?_
            exact g_less _ (g_subS (g_subS (g_subS (g_subS (g_subS (g_subS (g_subS (g_subN (g_subN (g_subN g_sub0)))))))))) (ih _ _ _ _ _ _ _ _ _ h hc)
          · have h := g_ifn c23 h
            refine g_iload dX2_gameValue_113 rfl ?_
            refine g_if_eq 122 (by decide) dX2_gameValue_115 (fun cd => absurd cd (by decide)) (fun c9 => ?_)
            refine g_iload dX2_gameValue_118 rfl ?_
            refine g_istore_5 rfl (Nat.le_of_ble_eq_true rfl) dX2_gameValue_120 ?_
            refine g_iinc_6 (v := 1) rfl (by decide) (Nat.le_of_ble_eq_true rfl) dX2_gameValue_122 ?_
            refine g_goto 20 (by decide) dX2_gameValue_125 ?_
            exact g_less _ (g_subS (g_subS (g_subS (g_subS (g_subS (g_subS (g_subS (g_subN (g_subN (g_subN g_sub0)))))))))) (ih _ _ _ _ _ _ _ _ _ h hc)
set_option maxRecDepth 100000 in
set_option maxHeartbeats 4000000 in
theorem k_X2_gameValue {D : va_G} {cA : Nat → ClassId} {b b2 k : Nat} {dyn : Nat → Nat} {t s : Nat} {N : Nat} : ∀ (n : Nat) (a1 : Int32) (a2 : Int32) (a3 : Int32) (a4 : Int32) (μ : g_M) (z : Int32 × g_M), f_X2_gameValue N n a1 a2 a3 a4 μ = some z → g_K (g_XX D cA b b2 dyn) yX2_gameValue Y_X2_gameValue (6 * n) 0 0 k [.ref 1, .int a1, .int a2, .int a3, .int a4] (μ, (g_rfX t s)) (fun r1 σ1 => r1 = some (.int z.1) ∧ σ1 = (z.2, (g_rfX t s))) := by
  intro n
  induction n with
  | zero =>
    intro a1 a2 a3 a4 μ z h
    rw [f_X2_gameValue] at h
    cases h
  | succ n hF =>
    intro a1 a2 a3 a4 μ z h
    rw [f_X2_gameValue] at h
    refine g_met (d := 6 * n + 6) 5 (by decide) rfl rfl (Nat.le_of_ble_eq_true rfl) ?_
    refine g_iload_n dX2_gameValue_0 rfl ?_
    refine g_if_le 12 (by decide) dX2_gameValue_1 (fun c1 => ?_) (fun c1 => ?_)
    · have h := g_ifp c1 h
      refine g_ic0 dX2_gameValue_12 ?_
      obtain rfl := Option.some.inj h
      exact g_iret rfl (Nat.le_refl _) rfl dX2_gameValue_13 ⟨rfl, rfl⟩
    · have h := g_ifn c1 h
      refine g_iload_n dX2_gameValue_4 rfl ?_
      refine g_aload_n dX2_gameValue_5 rfl ?_
      refine m_getI fl_X2_33 rfl rfl dX2_gameValue_6 ?_
      refine g_icmp_lt 14 (by decide) dX2_gameValue_9 (fun c2 => ?_) (fun c2 => ?_)
      · have h := g_ifp c2 h
        refine g_ic0 dX2_gameValue_14 ?_
        refine g_istore_5 rfl (Nat.le_of_ble_eq_true rfl) dX2_gameValue_15 ?_
        refine g_ic0 dX2_gameValue_17 ?_
        refine g_istore_6 rfl (Nat.le_of_ble_eq_true rfl) dX2_gameValue_18 ?_
        obtain ⟨⟨x3, μ4⟩, q5, h⟩ := g_bind h
        refine g_less _ (g_subS (g_subS (g_subS (g_subS (g_subS (g_subS (g_subS (g_subN (g_subN (g_subN g_sub0)))))))))) (k_X2_gameValue_L20 hF _ _ _ _ _ _ _ _ _ _ q5 ?_)
        refine g_iload dX2_gameValue_128 rfl ?_
        obtain rfl := Option.some.inj h
        exact g_iret rfl (Nat.le_refl _) rfl dX2_gameValue_130 ⟨rfl, rfl⟩
      · have h := g_ifn c2 h
        refine g_ic0 dX2_gameValue_12 ?_
        obtain rfl := Option.some.inj h
        exact g_iret rfl (Nat.le_refl _) rfl dX2_gameValue_13 ⟨rfl, rfl⟩
set_option maxRecDepth 100000 in
set_option maxHeartbeats 4000000 in
theorem k_X2_valueOfGame {D : va_G} {cA : Nat → ClassId} {b b2 k : Nat} {dyn : Nat → Nat} {t s : Nat} {N : Nat} {a1 : Int32} {μ : g_M} {z : Int32 × g_M} (h : f_X2_valueOfGame N a1 μ = some z) : g_K (g_XX D cA b b2 dyn) yX2_valueOfGame Y_X2_valueOfGame 37 0 0 k [.ref 1, .int a1] (μ, (g_rfX t s)) (fun r1 σ1 => r1 = some (.int z.1) ∧ σ1 = (z.2, (g_rfX t s))) := by
  unfold f_X2_valueOfGame at h
  refine g_met 0 (by decide) rfl rfl (Nat.le_of_ble_eq_true rfl) ?_
  refine g_aload_n dX2_valueOfGame_0 rfl ?_
  refine g_aload_n dX2_valueOfGame_1 rfl ?_
  refine m_getI fl_X2_9 rfl rfl dX2_valueOfGame_2 ?_
  refine g_aload_n dX2_valueOfGame_5 rfl ?_
  refine m_getI fl_X2_19 rfl rfl dX2_valueOfGame_6 ?_
  refine g_iload_n dX2_valueOfGame_9 rfl ?_
  refine g_ic1 dX2_valueOfGame_10 ?_
  obtain ⟨⟨x1, μ3⟩, q2, h⟩ := g_bind h
  refine m_cS mt_X2_gameValue ml_X2_114 ms_X2_gameValue dX2_valueOfGame_11 (k_X2_gameValue _ _ _ _ _ _ _ q2) rfl rfl (by decide) ⟨Nat.le_refl _, Nat.le_refl _⟩ (Nat.le_of_ble_eq_true rfl) ?_
  obtain rfl := Option.some.inj h
  exact g_iret rfl (Nat.le_refl _) rfl dX2_valueOfGame_14 ⟨rfl, rfl⟩
set_option maxRecDepth 100000 in
set_option maxHeartbeats 4000000 in
theorem k_X11_game {D : va_G} {cA : Nat → ClassId} {b b2 k : Nat} {dyn : Nat → Nat} {t s : Nat} {N : Nat} {a1 : Int32} {μ : g_M} {z : Int32 × g_M} (h : f_X11_game N a1 μ = some z) : g_K (g_XX D cA b b2 dyn) yX11_game Y_X11_game 38 0 0 k [.ref 0, .int a1] (μ, (g_rfX t s)) (fun r1 σ1 => r1 = some (.int z.1) ∧ σ1 = (z.2, (g_rfX t s))) := by
  unfold f_X11_game at h
  refine g_met 0 (by decide) rfl rfl (Nat.le_of_ble_eq_true rfl) ?_
  refine g_iload_n dX11_game_0 rfl ?_
  refine m_cS mt_X11_isGame ml_X11_238 ms_X11_isGame dX11_game_1 (k_X11_isGame rfl) rfl rfl (by decide) ⟨Nat.le_refl _, Nat.le_refl _⟩ (Nat.le_of_ble_eq_true rfl) ?_
  refine g_if_eq 18 (by decide) dX11_game_4 (fun c1 => ?_) (fun c1 => ?_)
  · have h := g_ifp c1 h
    refine g_icm1 dX11_game_18 ?_
    obtain rfl := Option.some.inj h
    exact g_iret rfl (Nat.le_refl _) rfl dX11_game_19 ⟨rfl, rfl⟩
  · have h := g_ifn c1 h
    refine g_aload_n dX11_game_7 rfl ?_
    refine m_getR fl_X11_10 rfl rfl rfl dX11_game_8 ?_
    refine g_iload_n dX11_game_11 rfl ?_
    obtain ⟨⟨x2, μ4⟩, q3, h⟩ := g_bind h
    refine m_cS mt_X2_valueOfGame ml_X11_241 ms_X2_valueOfGame dX11_game_12 (k_X2_valueOfGame q3) rfl rfl (by decide) ⟨Nat.le_refl _, Nat.le_refl _⟩ (Nat.le_of_ble_eq_true rfl) ?_
    refine g_goto 19 (by decide) dX11_game_15 ?_
    obtain rfl := Option.some.inj h
    exact g_iret rfl (Nat.le_refl _) rfl dX11_game_19 ⟨rfl, rfl⟩
set_option maxRecDepth 100000 in
set_option maxHeartbeats 4000000 in
theorem k_X2_firstMove_L7 {D : va_G} {cA : Nat → ClassId} {b b2 k : Nat} {dyn : Nat → Nat} {t s : Nat} {Q : Option Value → g_S → Prop} {N : Nat} : ∀ (n : Nat) (x_1 : Int32) (x_2 : Int32) (x_3 : Int32) (x_4 : Int32) (μ : g_M) (z_2 : Int32) (z_μ : g_M), f_X2_firstMove_L7 N n x_1 x_2 x_3 x_4 μ = some (z_2, z_μ) → g_V (g_XX D cA b b2 dyn) Y_X2_firstMove 37 0 0 Q k 0 0 82 [none, none, some (.int z_2), none, none, none, none] [] (z_μ, (g_rfX t s)) → g_V (g_XX D cA b b2 dyn) Y_X2_firstMove 37 0 0 Q k 0 0 7 [some (.ref 1), some (.int x_1), some (.int x_2), some (.int x_3), some (.int x_4), none, none] [] (μ, (g_rfX t s)) := by
  intro n
  induction n with
  | zero =>
    intro x_1 x_2 x_3 x_4 μ z_2 z_μ h
    rw [f_X2_firstMove_L7] at h
    cases h
  | succ n ih =>
    intro x_1 x_2 x_3 x_4 μ z_2 z_μ h hc
    rw [f_X2_firstMove_L7] at h
    refine g_iload dX2_firstMove_7 rfl ?_
    refine g_aload_n dX2_firstMove_9 rfl ?_
    refine m_getI fl_X2_73 rfl rfl dX2_firstMove_10 ?_
    refine g_icmp_gt 82 (by decide) dX2_firstMove_13 (fun c1 => ?_) (fun c1 => ?_)
    · have h := g_ifp c1 h
      obtain ⟨rfl, rfl⟩ := g_inj2 h
      exact g_less _ (g_subN (g_subN (g_subS (g_subN (g_subN (g_subN (g_subN g_sub0))))))) hc
    · have h := g_ifn c1 h
      refine g_aload_n dX2_firstMove_16 rfl ?_
      refine g_aload_n dX2_firstMove_17 rfl ?_
      refine m_getI fl_X2_9 rfl rfl dX2_firstMove_18 ?_
      refine g_aload_n dX2_firstMove_21 rfl ?_
      refine m_getI fl_X2_19 rfl rfl dX2_firstMove_22 ?_
      refine g_iload dX2_firstMove_25 rfl ?_
      refine m_cSN mt_X11_chainOf mn_X2_95 ms_X11_chainOf dX2_firstMove_27 (k_X11_chainOf rfl) rfl rfl (by decide) ⟨Nat.le_refl _, Nat.le_refl _⟩ (Nat.le_of_ble_eq_true rfl) ?_
      obtain ⟨⟨x2, μ4⟩, q3, h⟩ := g_bind h
      refine m_cV mt_X9_after ml_X2_22 mv_X9_after dX2_firstMove_30 (k_X9_after q3) rfl rfl rfl rfl (by decide) ⟨Nat.le_refl _, Nat.le_refl _⟩ (Nat.le_of_ble_eq_true rfl) ?_
      refine g_istore_5 rfl (Nat.le_of_ble_eq_true rfl) dX2_firstMove_33 ?_
      refine g_aload_n dX2_firstMove_35 rfl ?_
      refine g_iload dX2_firstMove_36 rfl ?_
      refine g_aload_n dX2_firstMove_38 rfl ?_
      refine m_getI fl_X2_19 rfl rfl dX2_firstMove_39 ?_
      obtain ⟨x5, q6, h⟩ := g_bind h
      refine m_cV mt_X9_worthOf ml_X2_26 mv_X9_worthOf dX2_firstMove_42 (k_X9_worthOf q6) rfl rfl rfl rfl (by decide) ⟨Nat.le_refl _, Nat.le_refl _⟩ (Nat.le_of_ble_eq_true rfl) ?_
      refine g_aload_n dX2_firstMove_45 rfl ?_
      refine g_iload dX2_firstMove_46 rfl ?_
      refine g_aload_n dX2_firstMove_48 rfl ?_
      refine m_getI fl_X2_19 rfl rfl dX2_firstMove_49 ?_
      refine g_ic1 dX2_firstMove_52 ?_
      refine g_iadd dX2_firstMove_53 ?_
      refine g_iload_n dX2_firstMove_54 rfl ?_
      refine g_ic1 dX2_firstMove_55 ?_
      refine g_isub dX2_firstMove_56 ?_
      refine g_ic0 dX2_firstMove_57 ?_
      obtain ⟨⟨x7, μ9⟩, q8, h⟩ := g_bind h
      refine m_cS mt_X2_gameValue ml_X2_114 ms_X2_gameValue dX2_firstMove_58 (k_X2_gameValue _ _ _ _ _ _ _ q8) rfl rfl (by decide) ⟨Nat.le_refl _, Nat.le_refl _⟩ (Nat.le_of_ble_eq_true rfl) ?_
      refine g_iadd dX2_firstMove_61 ?_
      obtain ⟨x10, ex10, h⟩ := g_let h
      refine g_top ex10 ?_
      refine g_istore_6 rfl (Nat.le_of_ble_eq_true rfl) dX2_firstMove_62 ?_
      refine g_iload dX2_firstMove_64 rfl ?_
      refine g_iload_n dX2_firstMove_66 rfl ?_
      refine g_icmp_le 76 (by decide) dX2_firstMove_67 (fun c11 => ?_) (fun c11 => ?_)
      · have h := g_ifp c11 h
        refine g_iinc_4 (v := 1) rfl (by decide) (Nat.le_of_ble_eq_true rfl) dX2_firstMove_76 ?_
        refine g_goto 7 (by decide) dX2_firstMove_79 ?_
        exact g_less _ (g_subS (g_subS (g_subS (g_subS (g_subS (g_subN (g_subN g_sub0))))))) (ih _ _ _ _ _ _ _ h hc)
      · have h := g_ifn c11 h
        refine g_iload dX2_firstMove_70 rfl ?_
        refine g_istore_3 rfl (Nat.le_of_ble_eq_true rfl) dX2_firstMove_72 ?_
        refine g_iload dX2_firstMove_73 rfl ?_
        refine g_istore_2 rfl (Nat.le_of_ble_eq_true rfl) dX2_firstMove_75 ?_
        refine g_iinc_4 (v := 1) rfl (by decide) (Nat.le_of_ble_eq_true rfl) dX2_firstMove_76 ?_
        refine g_goto 7 (by decide) dX2_firstMove_79 ?_
        exact g_less _ (g_subS (g_subS (g_subS (g_subS (g_subS (g_subN (g_subN g_sub0))))))) (ih _ _ _ _ _ _ _ h hc)
set_option maxRecDepth 100000 in
set_option maxHeartbeats 4000000 in
theorem k_X2_firstMove {D : va_G} {cA : Nat → ClassId} {b b2 k : Nat} {dyn : Nat → Nat} {t s : Nat} {N : Nat} {a1 : Int32} {μ : g_M} {z : Int32 × g_M} (h : f_X2_firstMove N a1 μ = some z) : g_K (g_XX D cA b b2 dyn) yX2_firstMove Y_X2_firstMove 37 0 0 k [.ref 1, .int a1] (μ, (g_rfX t s)) (fun r1 σ1 => r1 = some (.int z.1) ∧ σ1 = (z.2, (g_rfX t s))) := by
  unfold f_X2_firstMove at h
  refine g_met 5 (by decide) rfl rfl (Nat.le_of_ble_eq_true rfl) ?_
  refine g_ic0 dX2_firstMove_0 ?_
  refine g_istore_2 rfl (Nat.le_of_ble_eq_true rfl) dX2_firstMove_1 ?_
  refine g_icm1 dX2_firstMove_2 ?_
  refine g_istore_3 rfl (Nat.le_of_ble_eq_true rfl) dX2_firstMove_3 ?_
  refine g_ic0 dX2_firstMove_4 ?_
  refine g_istore_4 rfl (Nat.le_of_ble_eq_true rfl) dX2_firstMove_5 ?_
  obtain ⟨⟨x1, μ2⟩, q3, h⟩ := g_bind h
  refine g_less _ (g_subS (g_subS (g_subS (g_subS (g_subS (g_subN (g_subN g_sub0))))))) (k_X2_firstMove_L7 _ _ _ _ _ _ _ _ q3 ?_)
  refine g_iload_n dX2_firstMove_82 rfl ?_
  obtain rfl := Option.some.inj h
  exact g_iret rfl (Nat.le_refl _) rfl dX2_firstMove_83 ⟨rfl, rfl⟩
set_option maxRecDepth 100000 in
set_option maxHeartbeats 4000000 in
theorem k_X11_play {D : va_G} {cA : Nat → ClassId} {b b2 k : Nat} {dyn : Nat → Nat} {t s : Nat} {N : Nat} {a1 : Int32} {μ : g_M} {z : Int32 × g_M} (h : f_X11_play N a1 μ = some z) : g_K (g_XX D cA b b2 dyn) yX11_play Y_X11_play 38 0 0 k [.ref 0, .int a1] (μ, (g_rfX t s)) (fun r1 σ1 => r1 = some (.int z.1) ∧ σ1 = (z.2, (g_rfX t s))) := by
  unfold f_X11_play at h
  refine g_met 0 (by decide) rfl rfl (Nat.le_of_ble_eq_true rfl) ?_
  refine g_iload_n dX11_play_0 rfl ?_
  refine m_cS mt_X11_isGame ml_X11_238 ms_X11_isGame dX11_play_1 (k_X11_isGame rfl) rfl rfl (by decide) ⟨Nat.le_refl _, Nat.le_refl _⟩ (Nat.le_of_ble_eq_true rfl) ?_
  refine g_if_ne 9 (by decide) dX11_play_4 (fun c1 => ?_) (fun c1 => ?_)
  · have h := g_ifn c1 h
    refine g_aload_n dX11_play_9 rfl ?_
    refine m_getR fl_X11_10 rfl rfl rfl dX11_play_10 ?_
    refine m_cV mt_X9_isOver ml_X11_136 mv_X9_isOver dX11_play_13 (k_X9_isOver rfl) rfl rfl rfl rfl (by decide) ⟨Nat.le_refl _, Nat.le_refl _⟩ (Nat.le_of_ble_eq_true rfl) ?_
    refine g_if_eq 24 (by decide) dX11_play_16 (fun c2 => ?_) (fun c2 => ?_)
    · have h := g_ifp c2 h
      refine g_aload_n dX11_play_24 rfl ?_
      refine m_getR fl_X11_10 rfl rfl rfl dX11_play_25 ?_
      refine g_iload_n dX11_play_28 rfl ?_
      obtain ⟨⟨x3, μ5⟩, q4, h⟩ := g_bind h
      refine m_cS mt_X2_firstMove ml_X11_244 ms_X2_firstMove dX11_play_29 (k_X2_firstMove q4) rfl rfl (by decide) ⟨Nat.le_refl _, Nat.le_refl _⟩ (Nat.le_of_ble_eq_true rfl) ?_
      obtain rfl := Option.some.inj h
      exact g_iret rfl (Nat.le_refl _) rfl dX11_play_32 ⟨rfl, rfl⟩
    · have h := g_ifn c2 h
      refine g_bipush (v := (-3)) dX11_play_19 (by decide) ?_
      refine g_goto 32 (by decide) dX11_play_21 ?_
      obtain rfl := Option.some.inj h
      exact g_iret rfl (Nat.le_refl _) rfl dX11_play_32 ⟨rfl, rfl⟩
  · have h := g_ifp c1 h
    refine g_icm1 dX11_play_7 ?_
    obtain rfl := Option.some.inj h
    exact g_iret rfl (Nat.le_refl _) rfl dX11_play_8 ⟨rfl, rfl⟩
set_option maxRecDepth 100000 in
set_option maxHeartbeats 4000000 in
theorem k_X11_isFelt {D : va_G} {cA : Nat → ClassId} {b b2 k : Nat} {dyn : Nat → Nat} {t s : Nat} {a1 : Int32} {μ : g_M} {z : Int32} (h : f_X11_isFelt a1 = z) : g_K (g_XX D cA b b2 dyn) yX11_isFelt Y_X11_isFelt 2 0 0 k [.int a1] (μ, (g_rfX t s)) (fun r1 σ1 => r1 = some (.int z) ∧ σ1 = (μ, (g_rfX t s))) := by
  unfold f_X11_isFelt at h
  refine g_met 0 (by decide) rfl rfl (Nat.le_of_ble_eq_true rfl) ?_
  refine g_iload_n dX11_isFelt_0 rfl ?_
  refine g_bipush (v := (-20)) dX11_isFelt_1 (by decide) ?_
  refine g_bipush (v := 20) dX11_isFelt_3 (by decide) ?_
  refine m_cS mt_X11_isBetween ml_X11_120 ms_X11_isBetween dX11_isFelt_5 (k_X11_isBetween rfl) rfl rfl (by decide) ⟨Nat.le_refl _, Nat.le_refl _⟩ (Nat.le_of_ble_eq_true rfl) ?_
  subst h
  exact g_zret rfl (Nat.le_refl _) rfl (zb_X11_isBetween a1 (-20) 20) dX11_isFelt_8 ⟨rfl, rfl⟩
set_option maxRecDepth 100000 in
set_option maxHeartbeats 4000000 in
theorem zb_X11_isFelt (a1 : Int32) : narrow .boolean (.int (f_X11_isFelt a1)) = .int (f_X11_isFelt a1) := by
  unfold f_X11_isFelt
  repeat' split
  all_goals first | rfl | apply zb_X11_isBetween
set_option maxRecDepth 100000 in
set_option maxHeartbeats 4000000 in
theorem k_X9_addReport {D : va_G} {cA : Nat → ClassId} {b b2 k : Nat} {dyn : Nat → Nat} {t s : Nat} {a1 : Int32} {a2 : Int32} {a3 : Int32} {a4 : Int32} {μ : g_M} {z : Int32 × g_M} (h : f_X9_addReport a1 a2 a3 a4 μ = some z) : g_K (g_XX D cA b b2 dyn) yX9_addReport Y_X9_addReport 1 0 0 k [.ref 1, .int a1, .int a2, .int a3, .int a4] (μ, (g_rfX t s)) (fun r1 σ1 => r1 = some (.int z.1) ∧ σ1 = (z.2, (g_rfX t s))) := by
  unfold f_X9_addReport at h
  refine g_met 1 (by decide) rfl rfl (Nat.le_of_ble_eq_true rfl) ?_
  refine g_aload_n dX9_addReport_0 rfl ?_
  refine m_getI fl_X9_95 rfl rfl dX9_addReport_1 ?_
  refine g_ic4 dX9_addReport_4 ?_
  refine g_imul dX9_addReport_5 ?_
  obtain ⟨x1, ex1, h⟩ := g_let h
  refine g_top ex1 ?_
  refine g_istore_5 rfl (Nat.le_of_ble_eq_true rfl) dX9_addReport_6 ?_
  refine g_aload_n dX9_addReport_8 rfl ?_
  refine m_getR fl_X9_60 rfl rfl rfl dX9_addReport_9 ?_
  refine g_iload dX9_addReport_12 rfl ?_
  refine g_iload_n dX9_addReport_14 rfl ?_
  obtain ⟨μ2, qμ2, h⟩ := g_bind h
  refine m_iast rfl qμ2 dX9_addReport_15 ?_
  refine g_aload_n dX9_addReport_16 rfl ?_
  refine m_getR fl_X9_60 rfl rfl rfl dX9_addReport_17 ?_
  refine g_iload dX9_addReport_20 rfl ?_
  refine g_ic1 dX9_addReport_22 ?_
  refine g_iadd dX9_addReport_23 ?_
  refine g_iload_n dX9_addReport_24 rfl ?_
  obtain ⟨μ3, qμ3, h⟩ := g_bind h
  refine m_iast rfl qμ3 dX9_addReport_25 ?_
  refine g_aload_n dX9_addReport_26 rfl ?_
  refine m_getR fl_X9_60 rfl rfl rfl dX9_addReport_27 ?_
  refine g_iload dX9_addReport_30 rfl ?_
  refine g_ic2 dX9_addReport_32 ?_
  refine g_iadd dX9_addReport_33 ?_
  refine g_iload_n dX9_addReport_34 rfl ?_
  obtain ⟨μ4, qμ4, h⟩ := g_bind h
  refine m_iast rfl qμ4 dX9_addReport_35 ?_
  refine g_aload_n dX9_addReport_36 rfl ?_
  refine m_getR fl_X9_60 rfl rfl rfl dX9_addReport_37 ?_
  refine g_iload dX9_addReport_40 rfl ?_
  refine g_ic3 dX9_addReport_42 ?_
  refine g_iadd dX9_addReport_43 ?_
  refine g_iload dX9_addReport_44 rfl ?_
  obtain ⟨μ5, qμ5, h⟩ := g_bind h
  refine m_iast rfl qμ5 dX9_addReport_46 ?_
  refine g_aload_n dX9_addReport_47 rfl ?_
  refine g_dup dX9_addReport_48 rfl ?_
  refine m_getI fl_X9_95 rfl rfl dX9_addReport_49 ?_
  refine g_ic1 dX9_addReport_52 ?_
  refine g_iadd dX9_addReport_53 ?_
  obtain ⟨μ6, eμ6, h⟩ := g_let h
  refine m_putI fl_X9_95 fw_9_17 rfl rfl rfl rfl dX9_addReport_54 eμ6 ?_
  refine g_aload_n dX9_addReport_57 rfl ?_
  refine m_getI fl_X9_95 rfl rfl dX9_addReport_58 ?_
  refine g_ic1 dX9_addReport_61 ?_
  refine g_isub dX9_addReport_62 ?_
  obtain rfl := Option.some.inj h
  exact g_iret rfl (Nat.le_refl _) rfl dX9_addReport_63 ⟨rfl, rfl⟩
set_option maxRecDepth 100000 in
set_option maxHeartbeats 4000000 in
theorem k_X11_report {D : va_G} {cA : Nat → ClassId} {b b2 k : Nat} {dyn : Nat → Nat} {t s : Nat} {a1 : Int32} {a2 : Int32} {a3 : Int32} {a4 : Int32} {μ : g_M} {z : Int32 × g_M} (h : f_X11_report a1 a2 a3 a4 μ = some z) : g_K (g_XX D cA b b2 dyn) yX11_report Y_X11_report 3 0 0 k [.ref 0, .int a1, .int a2, .int a3, .int a4] (μ, (g_rfX t s)) (fun r1 σ1 => r1 = some (.int z.1) ∧ σ1 = (z.2, (g_rfX t s))) := by
  unfold f_X11_report at h
  refine g_met 0 (by decide) rfl rfl (Nat.le_of_ble_eq_true rfl) ?_
  refine g_iload_n dX11_report_0 rfl ?_
  refine m_cS mt_X11_isKind ml_X11_57 ms_X11_isKind dX11_report_1 (k_X11_isKind rfl) rfl rfl (by decide) ⟨Nat.le_refl _, Nat.le_refl _⟩ (Nat.le_of_ble_eq_true rfl) ?_
  refine g_if_eq 35 (by decide) dX11_report_4 (fun c1 => ?_) (fun c1 => ?_)
  · have h := g_ifp c1 h
    refine g_icm1 dX11_report_35 ?_
    obtain rfl := Option.some.inj h
    exact g_iret rfl (Nat.le_refl _) rfl dX11_report_36 ⟨rfl, rfl⟩
  · have h := g_ifn c1 h
    refine g_iload_n dX11_report_7 rfl ?_
    refine m_cS mt_X11_isPlace ml_X11_64 ms_X11_isPlace dX11_report_8 (k_X11_isPlace rfl) rfl rfl (by decide) ⟨Nat.le_refl _, Nat.le_refl _⟩ (Nat.le_of_ble_eq_true rfl) ?_
    refine g_if_eq 35 (by decide) dX11_report_11 (fun c2 => ?_) (fun c2 => ?_)
    · have h := g_ifp c2 h
      refine g_icm1 dX11_report_35 ?_
      obtain rfl := Option.some.inj h
      exact g_iret rfl (Nat.le_refl _) rfl dX11_report_36 ⟨rfl, rfl⟩
    · have h := g_ifn c2 h
      refine g_iload_n dX11_report_14 rfl ?_
      refine m_cS mt_X11_isFelt ml_X11_247 ms_X11_isFelt dX11_report_15 (k_X11_isFelt rfl) rfl rfl (by decide) ⟨Nat.le_refl _, Nat.le_refl _⟩ (Nat.le_of_ble_eq_true rfl) ?_
      refine g_if_eq 35 (by decide) dX11_report_18 (fun c3 => ?_) (fun c3 => ?_)
      · have h := g_ifp c3 h
        refine g_icm1 dX11_report_35 ?_
        obtain rfl := Option.some.inj h
        exact g_iret rfl (Nat.le_refl _) rfl dX11_report_36 ⟨rfl, rfl⟩
      · have h := g_ifn c3 h
        refine g_iload dX11_report_21 rfl ?_
        refine m_cS mt_X11_isFelt ml_X11_247 ms_X11_isFelt dX11_report_23 (k_X11_isFelt rfl) rfl rfl (by decide) ⟨Nat.le_refl _, Nat.le_refl _⟩ (Nat.le_of_ble_eq_true rfl) ?_
        refine g_if_eq 35 (by decide) dX11_report_26 (fun c4 => ?_) (fun c4 => ?_)
        · have h := g_ifp c4 h
          refine g_icm1 dX11_report_35 ?_
          obtain rfl := Option.some.inj h
          exact g_iret rfl (Nat.le_refl _) rfl dX11_report_36 ⟨rfl, rfl⟩
        · have h := g_ifn c4 h
          refine g_iload dX11_report_29 rfl ?_
          refine g_iload_n dX11_report_31 rfl ?_
          refine g_icmp_ge 37 (by decide) dX11_report_32 (fun c5 => ?_) (fun c5 => ?_)
          · have h := g_ifp c5 h
            refine g_aload_n dX11_report_37 rfl ?_
            refine m_getR fl_X11_10 rfl rfl rfl dX11_report_38 ?_
            refine m_getI fl_X11_250 rfl rfl dX11_report_41 ?_
            refine g_bipush (v := 6) dX11_report_44 (by decide) ?_
            refine g_icmp_lt 52 (by decide) dX11_report_46 (fun c6 => ?_) (fun c6 => ?_)
            · have h := g_ifp c6 h
              refine g_aload_n dX11_report_52 rfl ?_
              refine m_getR fl_X11_10 rfl rfl rfl dX11_report_53 ?_
              refine g_iload_n dX11_report_56 rfl ?_
              refine g_iload_n dX11_report_57 rfl ?_
              refine g_iload_n dX11_report_58 rfl ?_
              refine g_iload dX11_report_59 rfl ?_
              obtain ⟨⟨x7, μ9⟩, q8, h⟩ := g_bind h
              refine m_cV mt_X9_addReport ml_X11_253 mv_X9_addReport dX11_report_61 (k_X9_addReport q8) rfl rfl rfl rfl (by decide) ⟨Nat.le_refl _, Nat.le_refl _⟩ (Nat.le_of_ble_eq_true rfl) ?_
              obtain rfl := Option.some.inj h
              exact g_iret rfl (Nat.le_refl _) rfl dX11_report_64 ⟨rfl, rfl⟩
            · have h := g_ifn c6 h
              refine g_bipush (v := (-2)) dX11_report_49 (by decide) ?_
              obtain rfl := Option.some.inj h
              exact g_iret rfl (Nat.le_refl _) rfl dX11_report_51 ⟨rfl, rfl⟩
          · have h := g_ifn c5 h
            refine g_icm1 dX11_report_35 ?_
            obtain rfl := Option.some.inj h
            exact g_iret rfl (Nat.le_refl _) rfl dX11_report_36 ⟨rfl, rfl⟩
set_option maxRecDepth 100000 in
set_option maxHeartbeats 4000000 in
theorem k_X11_forget {D : va_G} {cA : Nat → ClassId} {b b2 k : Nat} {dyn : Nat → Nat} {t s : Nat} {μ : g_M} {z : Int32 × g_M} (h : f_X11_forget μ = some z) : g_K (g_XX D cA b b2 dyn) yX11_forget Y_X11_forget 1 0 0 k [.ref 0] (μ, (g_rfX t s)) (fun r1 σ1 => r1 = some (.int z.1) ∧ σ1 = (z.2, (g_rfX t s))) := by
  unfold f_X11_forget at h
  refine g_met 1 (by decide) rfl rfl (Nat.le_of_ble_eq_true rfl) ?_
  refine g_aload_n dX11_forget_0 rfl ?_
  refine m_getR fl_X11_10 rfl rfl rfl dX11_forget_1 ?_
  refine m_getI fl_X11_250 rfl rfl dX11_forget_4 ?_
  refine g_istore_1 rfl (Nat.le_of_ble_eq_true rfl) dX11_forget_7 ?_
  refine g_aload_n dX11_forget_8 rfl ?_
  refine m_getR fl_X11_10 rfl rfl rfl dX11_forget_9 ?_
  refine g_ic0 dX11_forget_12 ?_
  obtain ⟨μ1, eμ1, h⟩ := g_let h
  refine m_putI fl_X11_250 fw_9_17 rfl rfl rfl rfl dX11_forget_13 eμ1 ?_
  refine g_iload_n dX11_forget_16 rfl ?_
  obtain rfl := Option.some.inj h
  exact g_iret rfl (Nat.le_refl _) rfl dX11_forget_17 ⟨rfl, rfl⟩
set_option maxRecDepth 100000 in
set_option maxHeartbeats 4000000 in
theorem k_X9_isSo {D : va_G} {cA : Nat → ClassId} {b b2 k : Nat} {dyn : Nat → Nat} {t s : Nat} {a1 : Int32} {a2 : Int32} {a3 : Int32} {μ : g_M} {z : Int32} (h : f_X9_isSo a1 a2 a3 μ = some z) : g_K (g_XX D cA b b2 dyn) yX9_isSo Y_X9_isSo 3 0 0 k [.ref 1, .int a1, .int a2, .int a3] (μ, (g_rfX t s)) (fun r1 σ1 => r1 = some (.int z) ∧ σ1 = (μ, (g_rfX t s))) := by
  unfold f_X9_isSo at h
  refine g_met 3 (by decide) rfl rfl (Nat.le_of_ble_eq_true rfl) ?_
  refine g_iload_n dX9_isSo_0 rfl ?_
  refine g_ic4 dX9_isSo_1 ?_
  refine g_imul dX9_isSo_2 ?_
  obtain ⟨x1, ex1, h⟩ := g_let h
  refine g_top ex1 ?_
  refine g_istore_4 rfl (Nat.le_of_ble_eq_true rfl) dX9_isSo_3 ?_
  refine g_aload_n dX9_isSo_5 rfl ?_
  refine m_getR fl_X9_60 rfl rfl rfl dX9_isSo_6 ?_
  refine g_iload dX9_isSo_9 rfl ?_
  refine g_ic1 dX9_isSo_11 ?_
  refine g_iadd dX9_isSo_12 ?_
  obtain ⟨x2, qx2, h⟩ := g_bind h
  refine m_iald rfl qx2 dX9_isSo_13 ?_
  refine g_iload_n dX9_isSo_14 rfl ?_
  refine g_isub dX9_isSo_15 ?_
  refine m_abs ml_X9_112 dX9_isSo_16 (by decide) ⟨Nat.le_refl _, Nat.le_refl _⟩ (Nat.le_of_ble_eq_true rfl) ?_
  obtain ⟨x3, ex3, h⟩ := g_let h
  refine g_top ex3 ?_
  refine g_istore_5 rfl (Nat.le_of_ble_eq_true rfl) dX9_isSo_19 ?_
  refine g_aload_n dX9_isSo_21 rfl ?_
  refine m_getR fl_X9_27 rfl rfl rfl dX9_isSo_22 ?_
  refine g_aload_n dX9_isSo_25 rfl ?_
  refine m_getR fl_X9_60 rfl rfl rfl dX9_isSo_26 ?_
  refine g_iload dX9_isSo_29 rfl ?_
  obtain ⟨x4, qx4, h⟩ := g_bind h
  refine m_iald rfl qx4 dX9_isSo_31 ?_
  by_cases c5 : x4 = 1
  · have h := g_ifp c5 h
    refine m_aald1 1 c5 rfl (by decide) rfl dX9_isSo_32 ?_
    refine g_iload_n dX9_isSo_33 rfl ?_
    refine g_iload dX9_isSo_34 rfl ?_
    refine g_ic5 dX9_isSo_36 ?_
    refine g_ic0 dX9_isSo_37 ?_
    refine m_cO mt_X10_yearns mo_X9_118_X10 dX9_isSo_38 (k_X10_yearns_4 rfl) rfl rfl rfl rfl (by decide) ⟨Nat.le_refl _, Nat.le_refl _⟩ (Nat.le_of_ble_eq_true rfl) ?_
    obtain ⟨x6, ex6, h⟩ := g_let h
    refine g_top ex6 ?_
    refine g_istore_6 rfl (Nat.le_of_ble_eq_true rfl) dX9_isSo_41 ?_
    refine g_iload dX9_isSo_43 rfl ?_
    refine g_aload_n dX9_isSo_45 rfl ?_
    refine m_getR fl_X9_60 rfl rfl rfl dX9_isSo_46 ?_
    refine g_iload dX9_isSo_49 rfl ?_
    refine g_ic2 dX9_isSo_51 ?_
    refine g_iadd dX9_isSo_52 ?_
    obtain ⟨x7, qx7, h⟩ := g_bind h
    refine m_iald rfl qx7 dX9_isSo_53 ?_
    refine g_icmp_lt 75 (by decide) dX9_isSo_54 (fun c8 => ?_) (fun c8 => ?_)
    · have h := g_ifp c8 h
      refine g_ic0 dX9_isSo_75 ?_
      obtain rfl := Option.some.inj h
      exact g_zret rfl (Nat.le_refl _) rfl rfl dX9_isSo_76 ⟨rfl, rfl⟩
    · have h := g_ifn c8 h
      refine g_iload dX9_isSo_57 rfl ?_
      refine g_aload_n dX9_isSo_59 rfl ?_
      refine m_getR fl_X9_60 rfl rfl rfl dX9_isSo_60 ?_
      refine g_iload dX9_isSo_63 rfl ?_
      refine g_ic3 dX9_isSo_65 ?_
      refine g_iadd dX9_isSo_66 ?_
      obtain ⟨x9, qx9, h⟩ := g_bind h
      refine m_iald rfl qx9 dX9_isSo_67 ?_
      refine g_icmp_gt 75 (by decide) dX9_isSo_68 (fun c10 => ?_) (fun c10 => ?_)
      · have h := g_ifp c10 h
        refine g_ic0 dX9_isSo_75 ?_
        obtain rfl := Option.some.inj h
        exact g_zret rfl (Nat.le_refl _) rfl rfl dX9_isSo_76 ⟨rfl, rfl⟩
      · have h := g_ifn c10 h
        refine g_ic1 dX9_isSo_71 ?_
        refine g_goto 76 (by decide) dX9_isSo_72 ?_
        obtain rfl := Option.some.inj h
        exact g_zret rfl (Nat.le_refl _) rfl rfl dX9_isSo_76 ⟨rfl, rfl⟩
  have h := g_ifn c5 h
  by_cases c11 : x4 = 2
  · have h := g_ifp c11 h
    refine m_aald1 2 c11 rfl (by decide) rfl dX9_isSo_32 ?_
    refine g_iload_n dX9_isSo_33 rfl ?_
    refine g_iload dX9_isSo_34 rfl ?_
    refine g_ic5 dX9_isSo_36 ?_
    refine g_ic0 dX9_isSo_37 ?_
    refine m_cO mt_X6_yearns mo_X9_118_X6 dX9_isSo_38 (k_X6_yearns_5 rfl) rfl rfl rfl rfl (by decide) ⟨Nat.le_refl _, Nat.le_refl _⟩ (Nat.le_of_ble_eq_true rfl) ?_
    obtain ⟨x12, ex12, h⟩ := g_let h
    refine g_top ex12 ?_
    refine g_istore_6 rfl (Nat.le_of_ble_eq_true rfl) dX9_isSo_41 ?_
    refine g_iload dX9_isSo_43 rfl ?_
    refine g_aload_n dX9_isSo_45 rfl ?_
    refine m_getR fl_X9_60 rfl rfl rfl dX9_isSo_46 ?_
    refine g_iload dX9_isSo_49 rfl ?_
    refine g_ic2 dX9_isSo_51 ?_
    refine g_iadd dX9_isSo_52 ?_
    obtain ⟨x13, qx13, h⟩ := g_bind h
    refine m_iald rfl qx13 dX9_isSo_53 ?_
    refine g_icmp_lt 75 (by decide) dX9_isSo_54 (fun c14 => ?_) (fun c14 => ?_)
    · have h := g_ifp c14 h
      refine g_ic0 dX9_isSo_75 ?_
      obtain rfl := Option.some.inj h
      exact g_zret rfl (Nat.le_refl _) rfl rfl dX9_isSo_76 ⟨rfl, rfl⟩
    · have h := g_ifn c14 h
      refine g_iload dX9_isSo_57 rfl ?_
      refine g_aload_n dX9_isSo_59 rfl ?_
      refine m_getR fl_X9_60 rfl rfl rfl dX9_isSo_60 ?_
      refine g_iload dX9_isSo_63 rfl ?_
      refine g_ic3 dX9_isSo_65 ?_
      refine g_iadd dX9_isSo_66 ?_
      obtain ⟨x15, qx15, h⟩ := g_bind h
      refine m_iald rfl qx15 dX9_isSo_67 ?_
      refine g_icmp_gt 75 (by decide) dX9_isSo_68 (fun c16 => ?_) (fun c16 => ?_)
      · have h := g_ifp c16 h
        refine g_ic0 dX9_isSo_75 ?_
        obtain rfl := Option.some.inj h
        exact g_zret rfl (Nat.le_refl _) rfl rfl dX9_isSo_76 ⟨rfl, rfl⟩
      · have h := g_ifn c16 h
        refine g_ic1 dX9_isSo_71 ?_
        refine g_goto 76 (by decide) dX9_isSo_72 ?_
        obtain rfl := Option.some.inj h
        exact g_zret rfl (Nat.le_refl _) rfl rfl dX9_isSo_76 ⟨rfl, rfl⟩
  have h := g_ifn c11 h
  by_cases c17 : x4 = 3
  · have h := g_ifp c17 h
    refine m_aald1 3 c17 rfl (by decide) rfl dX9_isSo_32 ?_
    refine g_iload_n dX9_isSo_33 rfl ?_
    refine g_iload dX9_isSo_34 rfl ?_
    refine g_ic5 dX9_isSo_36 ?_
    refine g_ic0 dX9_isSo_37 ?_
    refine m_cO mt_X1_yearns mo_X9_118_X1 dX9_isSo_38 (k_X1_yearns_6 rfl) rfl rfl rfl rfl (by decide) ⟨Nat.le_refl _, Nat.le_refl _⟩ (Nat.le_of_ble_eq_true rfl) ?_
    obtain ⟨x18, ex18, h⟩ := g_let h
    refine g_top ex18 ?_
    refine g_istore_6 rfl (Nat.le_of_ble_eq_true rfl) dX9_isSo_41 ?_
    refine g_iload dX9_isSo_43 rfl ?_
    refine g_aload_n dX9_isSo_45 rfl ?_
    refine m_getR fl_X9_60 rfl rfl rfl dX9_isSo_46 ?_
    refine g_iload dX9_isSo_49 rfl ?_
    refine g_ic2 dX9_isSo_51 ?_
    refine g_iadd dX9_isSo_52 ?_
    obtain ⟨x19, qx19, h⟩ := g_bind h
    refine m_iald rfl qx19 dX9_isSo_53 ?_
    refine g_icmp_lt 75 (by decide) dX9_isSo_54 (fun c20 => ?_) (fun c20 => ?_)
    · have h := g_ifp c20 h
      refine g_ic0 dX9_isSo_75 ?_
      obtain rfl := Option.some.inj h
      exact g_zret rfl (Nat.le_refl _) rfl rfl dX9_isSo_76 ⟨rfl, rfl⟩
    · have h := g_ifn c20 h
      refine g_iload dX9_isSo_57 rfl ?_
      refine g_aload_n dX9_isSo_59 rfl ?_
      refine m_getR fl_X9_60 rfl rfl rfl dX9_isSo_60 ?_
      refine g_iload dX9_isSo_63 rfl ?_
      refine g_ic3 dX9_isSo_65 ?_
      refine g_iadd dX9_isSo_66 ?_
      obtain ⟨x21, qx21, h⟩ := g_bind h
      refine m_iald rfl qx21 dX9_isSo_67 ?_
      refine g_icmp_gt 75 (by decide) dX9_isSo_68 (fun c22 => ?_) (fun c22 => ?_)
      · have h := g_ifp c22 h
        refine g_ic0 dX9_isSo_75 ?_
        obtain rfl := Option.some.inj h
        exact g_zret rfl (Nat.le_refl _) rfl rfl dX9_isSo_76 ⟨rfl, rfl⟩
      · have h := g_ifn c22 h
        refine g_ic1 dX9_isSo_71 ?_
        refine g_goto 76 (by decide) dX9_isSo_72 ?_
        obtain rfl := Option.some.inj h
        exact g_zret rfl (Nat.le_refl _) rfl rfl dX9_isSo_76 ⟨rfl, rfl⟩
  have h := g_ifn c17 h
  by_cases c23 : x4 = 4
  · have h := g_ifp c23 h
    refine m_aald1 4 c23 rfl (by decide) rfl dX9_isSo_32 ?_
    refine g_iload_n dX9_isSo_33 rfl ?_
    refine g_iload dX9_isSo_34 rfl ?_
    refine g_ic5 dX9_isSo_36 ?_
    refine g_ic0 dX9_isSo_37 ?_
    refine m_cO mt_X4_yearns mo_X9_118_X4 dX9_isSo_38 (k_X4_yearns_7 rfl) rfl rfl rfl rfl (by decide) ⟨Nat.le_refl _, Nat.le_refl _⟩ (Nat.le_of_ble_eq_true rfl) ?_
    obtain ⟨x24, ex24, h⟩ := g_let h
    refine g_top ex24 ?_
    refine g_istore_6 rfl (Nat.le_of_ble_eq_true rfl) dX9_isSo_41 ?_
    refine g_iload dX9_isSo_43 rfl ?_
    refine g_aload_n dX9_isSo_45 rfl ?_
    refine m_getR fl_X9_60 rfl rfl rfl dX9_isSo_46 ?_
    refine g_iload dX9_isSo_49 rfl ?_
    refine g_ic2 dX9_isSo_51 ?_
    refine g_iadd dX9_isSo_52 ?_
    obtain ⟨x25, qx25, h⟩ := g_bind h
    refine m_iald rfl qx25 dX9_isSo_53 ?_
    refine g_icmp_lt 75 (by decide) dX9_isSo_54 (fun c26 => ?_) (fun c26 => ?_)
    · have h := g_ifp c26 h
      refine g_ic0 dX9_isSo_75 ?_
      obtain rfl := Option.some.inj h
      exact g_zret rfl (Nat.le_refl _) rfl rfl dX9_isSo_76 ⟨rfl, rfl⟩
    · have h := g_ifn c26 h
      refine g_iload dX9_isSo_57 rfl ?_
      refine g_aload_n dX9_isSo_59 rfl ?_
      refine m_getR fl_X9_60 rfl rfl rfl dX9_isSo_60 ?_
      refine g_iload dX9_isSo_63 rfl ?_
      refine g_ic3 dX9_isSo_65 ?_
      refine g_iadd dX9_isSo_66 ?_
      obtain ⟨x27, qx27, h⟩ := g_bind h
      refine m_iald rfl qx27 dX9_isSo_67 ?_
      refine g_icmp_gt 75 (by decide) dX9_isSo_68 (fun c28 => ?_) (fun c28 => ?_)
      · have h := g_ifp c28 h
        refine g_ic0 dX9_isSo_75 ?_
        obtain rfl := Option.some.inj h
        exact g_zret rfl (Nat.le_refl _) rfl rfl dX9_isSo_76 ⟨rfl, rfl⟩
      · have h := g_ifn c28 h
        refine g_ic1 dX9_isSo_71 ?_
        refine g_goto 76 (by decide) dX9_isSo_72 ?_
        obtain rfl := Option.some.inj h
        exact g_zret rfl (Nat.le_refl _) rfl rfl dX9_isSo_76 ⟨rfl, rfl⟩
  have h := g_ifn c23 h
  by_cases c29 : x4 = 5
  · have h := g_ifp c29 h
    refine m_aald1 5 c29 rfl (by decide) rfl dX9_isSo_32 ?_
    refine g_iload_n dX9_isSo_33 rfl ?_
    refine g_iload dX9_isSo_34 rfl ?_
    refine g_ic5 dX9_isSo_36 ?_
    refine g_ic0 dX9_isSo_37 ?_
    refine m_cO mt_X5_yearns mo_X9_118_X5 dX9_isSo_38 (k_X5_yearns_8 rfl) rfl rfl rfl rfl (by decide) ⟨Nat.le_refl _, Nat.le_refl _⟩ (Nat.le_of_ble_eq_true rfl) ?_
    obtain ⟨x30, ex30, h⟩ := g_let h
    refine g_top ex30 ?_
    refine g_istore_6 rfl (Nat.le_of_ble_eq_true rfl) dX9_isSo_41 ?_
    refine g_iload dX9_isSo_43 rfl ?_
    refine g_aload_n dX9_isSo_45 rfl ?_
    refine m_getR fl_X9_60 rfl rfl rfl dX9_isSo_46 ?_
    refine g_iload dX9_isSo_49 rfl ?_
    refine g_ic2 dX9_isSo_51 ?_
    refine g_iadd dX9_isSo_52 ?_
    obtain ⟨x31, qx31, h⟩ := g_bind h
    refine m_iald rfl qx31 dX9_isSo_53 ?_
    refine g_icmp_lt 75 (by decide) dX9_isSo_54 (fun c32 => ?_) (fun c32 => ?_)
    · have h := g_ifp c32 h
      refine g_ic0 dX9_isSo_75 ?_
      obtain rfl := Option.some.inj h
      exact g_zret rfl (Nat.le_refl _) rfl rfl dX9_isSo_76 ⟨rfl, rfl⟩
    · have h := g_ifn c32 h
      refine g_iload dX9_isSo_57 rfl ?_
      refine g_aload_n dX9_isSo_59 rfl ?_
      refine m_getR fl_X9_60 rfl rfl rfl dX9_isSo_60 ?_
      refine g_iload dX9_isSo_63 rfl ?_
      refine g_ic3 dX9_isSo_65 ?_
      refine g_iadd dX9_isSo_66 ?_
      obtain ⟨x33, qx33, h⟩ := g_bind h
      refine m_iald rfl qx33 dX9_isSo_67 ?_
      refine g_icmp_gt 75 (by decide) dX9_isSo_68 (fun c34 => ?_) (fun c34 => ?_)
      · have h := g_ifp c34 h
        refine g_ic0 dX9_isSo_75 ?_
        obtain rfl := Option.some.inj h
        exact g_zret rfl (Nat.le_refl _) rfl rfl dX9_isSo_76 ⟨rfl, rfl⟩
      · have h := g_ifn c34 h
        refine g_ic1 dX9_isSo_71 ?_
        refine g_goto 76 (by decide) dX9_isSo_72 ?_
        obtain rfl := Option.some.inj h
        exact g_zret rfl (Nat.le_refl _) rfl rfl dX9_isSo_76 ⟨rfl, rfl⟩
  have h := g_ifn c29 h
  cases h
