set_option maxRecDepth 100000 in
set_option maxHeartbeats 4000000 in
theorem k_X11_isBetween {D : va_G} {cA : Nat → ClassId} {b b2 k : Nat} {dyn : Nat → Nat} {t s : Nat} {a1 : Int32} {a2 : Int32} {a3 : Int32} {μ : g_M} {z : Int32} (h : f_X11_isBetween a1 a2 a3 = z) : g_K (g_XX D cA b b2 dyn) yX11_isBetween Y_X11_isBetween 1 0 0 k [.int a1, .int a2, .int a3] (μ, (g_rfX t s)) (fun r1 σ1 => r1 = some (.int z) ∧ σ1 = (μ, (g_rfX t s))) := by
  unfold f_X11_isBetween at h
  refine g_met 0 (by decide) rfl rfl (Nat.le_of_ble_eq_true rfl) ?_
  refine g_iload_n dX11_isBetween_0 rfl ?_
  refine g_iload_n dX11_isBetween_1 rfl ?_
  refine g_icmp_lt 14 (by decide) dX11_isBetween_2 (fun c1 => ?_) (fun c1 => ?_)
  · have h := g_ifp c1 h
    refine g_ic0 dX11_isBetween_14 ?_
    subst h
    exact g_zret rfl (Nat.le_refl _) rfl rfl dX11_isBetween_15 ⟨rfl, rfl⟩
  · have h := g_ifn c1 h
    refine g_iload_n dX11_isBetween_5 rfl ?_
    refine g_iload_n dX11_isBetween_6 rfl ?_
    refine g_icmp_gt 14 (by decide) dX11_isBetween_7 (fun c2 => ?_) (fun c2 => ?_)
    · have h := g_ifp c2 h
      refine g_ic0 dX11_isBetween_14 ?_
      subst h
      exact g_zret rfl (Nat.le_refl _) rfl rfl dX11_isBetween_15 ⟨rfl, rfl⟩
    · have h := g_ifn c2 h
      refine g_ic1 dX11_isBetween_10 ?_
      refine g_goto 15 (by decide) dX11_isBetween_11 ?_
      subst h
      exact g_zret rfl (Nat.le_refl _) rfl rfl dX11_isBetween_15 ⟨rfl, rfl⟩
set_option maxRecDepth 100000 in
set_option maxHeartbeats 4000000 in
theorem zb_X11_isBetween (a1 : Int32) (a2 : Int32) (a3 : Int32) : narrow .boolean (.int (f_X11_isBetween a1 a2 a3)) = .int (f_X11_isBetween a1 a2 a3) := by
  unfold f_X11_isBetween
  repeat' split
  all_goals first | rfl | rfl
set_option maxRecDepth 100000 in
set_option maxHeartbeats 4000000 in
theorem k_X11_isKind {D : va_G} {cA : Nat → ClassId} {b b2 k : Nat} {dyn : Nat → Nat} {t s : Nat} {a1 : Int32} {μ : g_M} {z : Int32} (h : f_X11_isKind a1 = z) : g_K (g_XX D cA b b2 dyn) yX11_isKind Y_X11_isKind 2 0 0 k [.int a1] (μ, (g_rfX t s)) (fun r1 σ1 => r1 = some (.int z) ∧ σ1 = (μ, (g_rfX t s))) := by
  unfold f_X11_isKind at h
  refine g_met 0 (by decide) rfl rfl (Nat.le_of_ble_eq_true rfl) ?_
  refine g_iload_n dX11_isKind_0 rfl ?_
  refine g_ic1 dX11_isKind_1 ?_
  refine g_ic5 dX11_isKind_2 ?_
  refine m_cS mt_X11_isBetween ml_X11_120 ms_X11_isBetween dX11_isKind_3 (k_X11_isBetween rfl) rfl rfl (by decide) ⟨Nat.le_refl _, Nat.le_refl _⟩ (Nat.le_of_ble_eq_true rfl) ?_
  subst h
  exact g_zret rfl (Nat.le_refl _) rfl (zb_X11_isBetween a1 1 5) dX11_isKind_6 ⟨rfl, rfl⟩
set_option maxRecDepth 100000 in
set_option maxHeartbeats 4000000 in
theorem zb_X11_isKind (a1 : Int32) : narrow .boolean (.int (f_X11_isKind a1)) = .int (f_X11_isKind a1) := by
  unfold f_X11_isKind
  repeat' split
  all_goals first | rfl | apply zb_X11_isBetween
set_option maxRecDepth 100000 in
set_option maxHeartbeats 4000000 in
theorem k_X11_isWarm {D : va_G} {cA : Nat → ClassId} {b b2 k : Nat} {dyn : Nat → Nat} {t s : Nat} {a1 : Int32} {μ : g_M} {z : Int32} (h : f_X11_isWarm a1 = z) : g_K (g_XX D cA b b2 dyn) yX11_isWarm Y_X11_isWarm 2 0 0 k [.int a1] (μ, (g_rfX t s)) (fun r1 σ1 => r1 = some (.int z) ∧ σ1 = (μ, (g_rfX t s))) := by
  unfold f_X11_isWarm at h
  refine g_met 0 (by decide) rfl rfl (Nat.le_of_ble_eq_true rfl) ?_
  refine g_iload_n dX11_isWarm_0 rfl ?_
  refine g_ic0 dX11_isWarm_1 ?_
  refine g_bipush (v := 9) dX11_isWarm_2 (by decide) ?_
  refine m_cS mt_X11_isBetween ml_X11_120 ms_X11_isBetween dX11_isWarm_4 (k_X11_isBetween rfl) rfl rfl (by decide) ⟨Nat.le_refl _, Nat.le_refl _⟩ (Nat.le_of_ble_eq_true rfl) ?_
  subst h
  exact g_zret rfl (Nat.le_refl _) rfl (zb_X11_isBetween a1 0 9) dX11_isWarm_7 ⟨rfl, rfl⟩
set_option maxRecDepth 100000 in
set_option maxHeartbeats 4000000 in
theorem zb_X11_isWarm (a1 : Int32) : narrow .boolean (.int (f_X11_isWarm a1)) = .int (f_X11_isWarm a1) := by
  unfold f_X11_isWarm
  repeat' split
  all_goals first | rfl | apply zb_X11_isBetween
set_option maxRecDepth 100000 in
set_option maxHeartbeats 4000000 in
theorem k_X11_isPlace {D : va_G} {cA : Nat → ClassId} {b b2 k : Nat} {dyn : Nat → Nat} {t s : Nat} {a1 : Int32} {μ : g_M} {z : Int32} (h : f_X11_isPlace a1 = z) : g_K (g_XX D cA b b2 dyn) yX11_isPlace Y_X11_isPlace 2 0 0 k [.int a1] (μ, (g_rfX t s)) (fun r1 σ1 => r1 = some (.int z) ∧ σ1 = (μ, (g_rfX t s))) := by
  unfold f_X11_isPlace at h
  refine g_met 0 (by decide) rfl rfl (Nat.le_of_ble_eq_true rfl) ?_
  refine g_iload_n dX11_isPlace_0 rfl ?_
  refine g_ic0 dX11_isPlace_1 ?_
  refine g_bipush (v := 15) dX11_isPlace_2 (by decide) ?_
  refine m_cS mt_X11_isBetween ml_X11_120 ms_X11_isBetween dX11_isPlace_4 (k_X11_isBetween rfl) rfl rfl (by decide) ⟨Nat.le_refl _, Nat.le_refl _⟩ (Nat.le_of_ble_eq_true rfl) ?_
  subst h
  exact g_zret rfl (Nat.le_refl _) rfl (zb_X11_isBetween a1 0 15) dX11_isPlace_7 ⟨rfl, rfl⟩
set_option maxRecDepth 100000 in
set_option maxHeartbeats 4000000 in
theorem zb_X11_isPlace (a1 : Int32) : narrow .boolean (.int (f_X11_isPlace a1)) = .int (f_X11_isPlace a1) := by
  unfold f_X11_isPlace
  repeat' split
  all_goals first | rfl | apply zb_X11_isBetween
set_option maxRecDepth 100000 in
set_option maxHeartbeats 4000000 in
theorem k_X11_isFire {D : va_G} {cA : Nat → ClassId} {b b2 k : Nat} {dyn : Nat → Nat} {t s : Nat} {a1 : Int32} {μ : g_M} {z : Int32} (h : f_X11_isFire a1 = z) : g_K (g_XX D cA b b2 dyn) yX11_isFire Y_X11_isFire 2 0 0 k [.int a1] (μ, (g_rfX t s)) (fun r1 σ1 => r1 = some (.int z) ∧ σ1 = (μ, (g_rfX t s))) := by
  unfold f_X11_isFire at h
  refine g_met 0 (by decide) rfl rfl (Nat.le_of_ble_eq_true rfl) ?_
  refine g_iload_n dX11_isFire_0 rfl ?_
  refine g_ic1 dX11_isFire_1 ?_
  refine g_bipush (v := 9) dX11_isFire_2 (by decide) ?_
  refine m_cS mt_X11_isBetween ml_X11_120 ms_X11_isBetween dX11_isFire_4 (k_X11_isBetween rfl) rfl rfl (by decide) ⟨Nat.le_refl _, Nat.le_refl _⟩ (Nat.le_of_ble_eq_true rfl) ?_
  subst h
  exact g_zret rfl (Nat.le_refl _) rfl (zb_X11_isBetween a1 1 9) dX11_isFire_7 ⟨rfl, rfl⟩
set_option maxRecDepth 100000 in
set_option maxHeartbeats 4000000 in
theorem zb_X11_isFire (a1 : Int32) : narrow .boolean (.int (f_X11_isFire a1)) = .int (f_X11_isFire a1) := by
  unfold f_X11_isFire
  repeat' split
  all_goals first | rfl | apply zb_X11_isBetween
set_option maxRecDepth 100000 in
set_option maxHeartbeats 4000000 in
theorem k_X3_yearns_4 {D : va_G} {cA : Nat → ClassId} {b b2 k : Nat} {dyn : Nat → Nat} {t s : Nat} {a1 : Int32} {a2 : Int32} {a3 : Int32} {a4 : Int32} {μ : g_M} {z : Int32} (h : f_X3_yearns_4 a1 a2 a3 a4 = z) : g_K (g_XX D cA b b2 dyn) yX3_yearns Y_X3_yearns 1 0 0 k [.ref 4, .int a1, .int a2, .int a3, .int a4] (μ, (g_rfX t s)) (fun r1 σ1 => r1 = some (.int z) ∧ σ1 = (μ, (g_rfX t s))) := by
  unfold f_X3_yearns_4 at h
  refine g_met 0 (by decide) rfl rfl (Nat.le_of_ble_eq_true rfl) ?_
  refine g_iload_n dX3_yearns_0 rfl ?_
  refine g_iload_n dX3_yearns_1 rfl ?_
  refine g_isub dX3_yearns_2 ?_
  subst h
  exact g_iret rfl (Nat.le_refl _) rfl dX3_yearns_3 ⟨rfl, rfl⟩
set_option maxRecDepth 100000 in
set_option maxHeartbeats 4000000 in
theorem k_X10_yearns_4 {D : va_G} {cA : Nat → ClassId} {b b2 k : Nat} {dyn : Nat → Nat} {t s : Nat} {a1 : Int32} {a2 : Int32} {a3 : Int32} {a4 : Int32} {μ : g_M} {z : Int32} (h : f_X10_yearns_4 a1 a2 a3 a4 = z) : g_K (g_XX D cA b b2 dyn) yX10_yearns Y_X10_yearns 2 0 0 k [.ref 4, .int a1, .int a2, .int a3, .int a4] (μ, (g_rfX t s)) (fun r1 σ1 => r1 = some (.int z) ∧ σ1 = (μ, (g_rfX t s))) := by
  unfold f_X10_yearns_4 at h
  refine g_met 0 (by decide) rfl rfl (Nat.le_of_ble_eq_true rfl) ?_
  refine g_aload_n dX10_yearns_0 rfl ?_
  refine g_iload_n dX10_yearns_1 rfl ?_
  refine g_iload_n dX10_yearns_2 rfl ?_
  refine g_iload_n dX10_yearns_3 rfl ?_
  refine g_iload dX10_yearns_4 rfl ?_
  refine m_cU mt_X3_yearns mu_X10_7 dX10_yearns_6 (k_X3_yearns_4 rfl) rfl rfl rfl rfl (by decide) ⟨Nat.le_refl _, Nat.le_refl _⟩ (Nat.le_of_ble_eq_true rfl) ?_
  refine g_ic3 dX10_yearns_9 ?_
  refine g_isub dX10_yearns_10 ?_
  subst h
  exact g_iret rfl (Nat.le_refl _) rfl dX10_yearns_11 ⟨rfl, rfl⟩
set_option maxRecDepth 100000 in
set_option maxHeartbeats 4000000 in
theorem k_X3_yearns_5 {D : va_G} {cA : Nat → ClassId} {b b2 k : Nat} {dyn : Nat → Nat} {t s : Nat} {a1 : Int32} {a2 : Int32} {a3 : Int32} {a4 : Int32} {μ : g_M} {z : Int32} (h : f_X3_yearns_5 a1 a2 a3 a4 = z) : g_K (g_XX D cA b b2 dyn) yX3_yearns Y_X3_yearns 1 0 0 k [.ref 5, .int a1, .int a2, .int a3, .int a4] (μ, (g_rfX t s)) (fun r1 σ1 => r1 = some (.int z) ∧ σ1 = (μ, (g_rfX t s))) := by
  unfold f_X3_yearns_5 at h
  refine g_met 0 (by decide) rfl rfl (Nat.le_of_ble_eq_true rfl) ?_
  refine g_iload_n dX3_yearns_0 rfl ?_
  refine g_iload_n dX3_yearns_1 rfl ?_
  refine g_isub dX3_yearns_2 ?_
  subst h
  exact g_iret rfl (Nat.le_refl _) rfl dX3_yearns_3 ⟨rfl, rfl⟩
set_option maxRecDepth 100000 in
set_option maxHeartbeats 4000000 in
theorem k_X6_yearns_5 {D : va_G} {cA : Nat → ClassId} {b b2 k : Nat} {dyn : Nat → Nat} {t s : Nat} {a1 : Int32} {a2 : Int32} {a3 : Int32} {a4 : Int32} {μ : g_M} {z : Int32} (h : f_X6_yearns_5 a1 a2 a3 a4 = z) : g_K (g_XX D cA b b2 dyn) yX6_yearns Y_X6_yearns 2 0 0 k [.ref 5, .int a1, .int a2, .int a3, .int a4] (μ, (g_rfX t s)) (fun r1 σ1 => r1 = some (.int z) ∧ σ1 = (μ, (g_rfX t s))) := by
  unfold f_X6_yearns_5 at h
  refine g_met 0 (by decide) rfl rfl (Nat.le_of_ble_eq_true rfl) ?_
  refine g_iload_n dX6_yearns_0 rfl ?_
  refine g_iload_n dX6_yearns_1 rfl ?_
  refine g_icmp_lt 17 (by decide) dX6_yearns_2 (fun c1 => ?_) (fun c1 => ?_)
  · have h := g_ifp c1 h
    refine g_icm1 dX6_yearns_17 ?_
    subst h
    exact g_iret rfl (Nat.le_refl _) rfl dX6_yearns_18 ⟨rfl, rfl⟩
  · have h := g_ifn c1 h
    refine g_aload_n dX6_yearns_5 rfl ?_
    refine g_iload_n dX6_yearns_6 rfl ?_
    refine g_iload_n dX6_yearns_7 rfl ?_
    refine g_iload_n dX6_yearns_8 rfl ?_
    refine g_iload dX6_yearns_9 rfl ?_
    refine m_cU mt_X3_yearns mu_X6_7 dX6_yearns_11 (k_X3_yearns_5 rfl) rfl rfl rfl rfl (by decide) ⟨Nat.le_refl _, Nat.le_refl _⟩ (Nat.le_of_ble_eq_true rfl) ?_
    refine g_goto 18 (by decide) dX6_yearns_14 ?_
    subst h
    exact g_iret rfl (Nat.le_refl _) rfl dX6_yearns_18 ⟨rfl, rfl⟩
set_option maxRecDepth 100000 in
set_option maxHeartbeats 4000000 in
theorem k_X1_yearns_6 {D : va_G} {cA : Nat → ClassId} {b b2 k : Nat} {dyn : Nat → Nat} {t s : Nat} {a1 : Int32} {a2 : Int32} {a3 : Int32} {a4 : Int32} {μ : g_M} {z : Int32} (h : f_X1_yearns_6 a1 a2 a3 a4 = z) : g_K (g_XX D cA b b2 dyn) yX1_yearns Y_X1_yearns 1 0 0 k [.ref 6, .int a1, .int a2, .int a3, .int a4] (μ, (g_rfX t s)) (fun r1 σ1 => r1 = some (.int z) ∧ σ1 = (μ, (g_rfX t s))) := by
  unfold f_X1_yearns_6 at h
  refine g_met 0 (by decide) rfl rfl (Nat.le_of_ble_eq_true rfl) ?_
  refine g_icm1 dX1_yearns_0 ?_
  subst h
  exact g_iret rfl (Nat.le_refl _) rfl dX1_yearns_1 ⟨rfl, rfl⟩
set_option maxRecDepth 100000 in
set_option maxHeartbeats 4000000 in
theorem k_X4_yearns_7 {D : va_G} {cA : Nat → ClassId} {b b2 k : Nat} {dyn : Nat → Nat} {t s : Nat} {a1 : Int32} {a2 : Int32} {a3 : Int32} {a4 : Int32} {μ : g_M} {z : Int32} (h : f_X4_yearns_7 a1 a2 a3 a4 = z) : g_K (g_XX D cA b b2 dyn) yX4_yearns Y_X4_yearns 1 0 0 k [.ref 7, .int a1, .int a2, .int a3, .int a4] (μ, (g_rfX t s)) (fun r1 σ1 => r1 = some (.int z) ∧ σ1 = (μ, (g_rfX t s))) := by
  unfold f_X4_yearns_7 at h
  refine g_met 0 (by decide) rfl rfl (Nat.le_of_ble_eq_true rfl) ?_
  refine g_iload_n dX4_yearns_0 rfl ?_
  subst h
  exact g_iret rfl (Nat.le_refl _) rfl dX4_yearns_1 ⟨rfl, rfl⟩
set_option maxRecDepth 100000 in
set_option maxHeartbeats 4000000 in
theorem k_X4_yearns_8 {D : va_G} {cA : Nat → ClassId} {b b2 k : Nat} {dyn : Nat → Nat} {t s : Nat} {a1 : Int32} {a2 : Int32} {a3 : Int32} {a4 : Int32} {μ : g_M} {z : Int32} (h : f_X4_yearns_8 a1 a2 a3 a4 = z) : g_K (g_XX D cA b b2 dyn) yX4_yearns Y_X4_yearns 1 0 0 k [.ref 8, .int a1, .int a2, .int a3, .int a4] (μ, (g_rfX t s)) (fun r1 σ1 => r1 = some (.int z) ∧ σ1 = (μ, (g_rfX t s))) := by
  unfold f_X4_yearns_8 at h
  refine g_met 0 (by decide) rfl rfl (Nat.le_of_ble_eq_true rfl) ?_
  refine g_iload_n dX4_yearns_0 rfl ?_
  subst h
  exact g_iret rfl (Nat.le_refl _) rfl dX4_yearns_1 ⟨rfl, rfl⟩
set_option maxRecDepth 100000 in
set_option maxHeartbeats 4000000 in
theorem k_X5_yearns_8 {D : va_G} {cA : Nat → ClassId} {b b2 k : Nat} {dyn : Nat → Nat} {t s : Nat} {a1 : Int32} {a2 : Int32} {a3 : Int32} {a4 : Int32} {μ : g_M} {z : Int32} (h : f_X5_yearns_8 a1 a2 a3 a4 = z) : g_K (g_XX D cA b b2 dyn) yX5_yearns Y_X5_yearns 2 0 0 k [.ref 8, .int a1, .int a2, .int a3, .int a4] (μ, (g_rfX t s)) (fun r1 σ1 => r1 = some (.int z) ∧ σ1 = (μ, (g_rfX t s))) := by
  unfold f_X5_yearns_8 at h
  refine g_met 0 (by decide) rfl rfl (Nat.le_of_ble_eq_true rfl) ?_
  refine g_aload_n dX5_yearns_0 rfl ?_
  refine g_iload_n dX5_yearns_1 rfl ?_
  refine g_iload_n dX5_yearns_2 rfl ?_
  refine g_iload_n dX5_yearns_3 rfl ?_
  refine g_iload dX5_yearns_4 rfl ?_
  refine m_cU mt_X4_yearns mu_X5_7 dX5_yearns_6 (k_X4_yearns_8 rfl) rfl rfl rfl rfl (by decide) ⟨Nat.le_refl _, Nat.le_refl _⟩ (Nat.le_of_ble_eq_true rfl) ?_
  refine g_iload dX5_yearns_9 rfl ?_
  refine g_if_eq 18 (by decide) dX5_yearns_11 (fun c1 => ?_) (fun c1 => ?_)
  · have h := g_ifp c1 h
    refine g_ic0 dX5_yearns_18 ?_
    refine g_iadd dX5_yearns_19 ?_
    subst h
    exact g_iret rfl (Nat.le_refl _) rfl dX5_yearns_20 ⟨rfl, rfl⟩
  · have h := g_ifn c1 h
    refine g_ic2 dX5_yearns_14 ?_
    refine g_goto 19 (by decide) dX5_yearns_15 ?_
    refine g_iadd dX5_yearns_19 ?_
    subst h
    exact g_iret rfl (Nat.le_refl _) rfl dX5_yearns_20 ⟨rfl, rfl⟩
set_option maxRecDepth 100000 in
set_option maxHeartbeats 4000000 in
theorem k_X9_settleWish {D : va_G} {cA : Nat → ClassId} {b b2 k : Nat} {dyn : Nat → Nat} {t s : Nat} {a1 : Int32} {a2 : Int32} {μ : g_M} {z : g_M} (h : f_X9_settleWish a1 a2 μ = some z) : g_K (g_XX D cA b b2 dyn) yX9_settleWish Y_X9_settleWish 3 0 0 k [.ref 1, .int a1, .int a2] (μ, (g_rfX t s)) (fun r1 σ1 => r1 = none ∧ σ1 = (z, (g_rfX t s))) := by
  unfold f_X9_settleWish at h
  refine g_met 1 (by decide) rfl rfl (Nat.le_of_ble_eq_true rfl) ?_
  refine g_aload_n dX9_settleWish_0 rfl ?_
  refine m_getR fl_X9_40 rfl rfl rfl dX9_settleWish_1 ?_
  refine g_iload_n dX9_settleWish_4 rfl ?_
  obtain ⟨x1, qx1, h⟩ := g_bind h
  refine m_iald rfl qx1 dX9_settleWish_5 ?_
  refine g_aload_n dX9_settleWish_6 rfl ?_
  refine m_getR fl_X9_40 rfl rfl rfl dX9_settleWish_7 ?_
  refine g_iload_n dX9_settleWish_10 rfl ?_
  obtain ⟨x2, qx2, h⟩ := g_bind h
  refine m_iald rfl qx2 dX9_settleWish_11 ?_
  refine g_isub dX9_settleWish_12 ?_
  refine m_abs ml_X9_112 dX9_settleWish_13 (by decide) ⟨Nat.le_refl _, Nat.le_refl _⟩ (Nat.le_of_ble_eq_true rfl) ?_
  obtain ⟨x3, ex3, h⟩ := g_let h
  refine g_top ex3 ?_
  refine g_istore_3 rfl (Nat.le_of_ble_eq_true rfl) dX9_settleWish_16 ?_
  refine g_aload_n dX9_settleWish_17 rfl ?_
  refine m_getR fl_X9_46 rfl rfl rfl dX9_settleWish_18 ?_
  refine g_iload_n dX9_settleWish_21 rfl ?_
  refine g_bipush (v := 6) dX9_settleWish_22 (by decide) ?_
  refine g_imul dX9_settleWish_24 ?_
  refine g_iload_n dX9_settleWish_25 rfl ?_
  refine g_iadd dX9_settleWish_26 ?_
  refine g_aload_n dX9_settleWish_27 rfl ?_
  refine m_getR fl_X9_27 rfl rfl rfl dX9_settleWish_28 ?_
  refine g_aload_n dX9_settleWish_31 rfl ?_
  refine m_getR fl_X9_33 rfl rfl rfl dX9_settleWish_32 ?_
  refine g_iload_n dX9_settleWish_35 rfl ?_
  obtain ⟨x4, qx4, h⟩ := g_bind h
  refine m_iald rfl qx4 dX9_settleWish_36 ?_
  by_cases c5 : x4 = 1
  · have h := g_ifp c5 h
    refine m_aald1 1 c5 rfl (by decide) rfl dX9_settleWish_37 ?_
    refine g_aload_n dX9_settleWish_38 rfl ?_
    refine m_getR fl_X9_37 rfl rfl rfl dX9_settleWish_39 ?_
    refine g_iload_n dX9_settleWish_42 rfl ?_
    obtain ⟨x6, qx6, h⟩ := g_bind h
    refine m_iald rfl qx6 dX9_settleWish_43 ?_
    refine g_iload_n dX9_settleWish_44 rfl ?_
    refine g_aload_n dX9_settleWish_45 rfl ?_
    refine m_getR fl_X9_37 rfl rfl rfl dX9_settleWish_46 ?_
    refine g_iload_n dX9_settleWish_49 rfl ?_
    obtain ⟨x7, qx7, h⟩ := g_bind h
    refine m_iald rfl qx7 dX9_settleWish_50 ?_
    refine g_iload_n dX9_settleWish_51 rfl ?_
    refine g_iload_n dX9_settleWish_52 rfl ?_
    refine g_icmp_le 60 (by decide) dX9_settleWish_53 (fun c8 => ?_) (fun c8 => ?_)
    · have h := g_ifp c8 h
      refine g_ic0 dX9_settleWish_60 ?_
      refine m_cO mt_X10_yearns mo_X9_118_X10 dX9_settleWish_61 (k_X10_yearns_4 rfl) rfl rfl rfl rfl (by decide) ⟨Nat.le_refl _, Nat.le_refl _⟩ (Nat.le_of_ble_eq_true rfl) ?_
      obtain ⟨μ9, qμ9, h⟩ := g_bind h
      refine m_iast rfl qμ9 dX9_settleWish_64 ?_
      obtain rfl := Option.some.inj h
      exact g_vret rfl (Nat.le_refl _) rfl dX9_settleWish_65 ⟨rfl, rfl⟩
    · have h := g_ifn c8 h
      refine g_ic1 dX9_settleWish_56 ?_
      refine g_goto 61 (by decide) dX9_settleWish_57 ?_
      refine m_cO mt_X10_yearns mo_X9_118_X10 dX9_settleWish_61 (k_X10_yearns_4 rfl) rfl rfl rfl rfl (by decide) ⟨Nat.le_refl _, Nat.le_refl _⟩ (Nat.le_of_ble_eq_true rfl) ?_
      obtain ⟨μ10, qμ10, h⟩ := g_bind h
      refine m_iast rfl qμ10 dX9_settleWish_64 ?_
      obtain rfl := Option.some.inj h
      exact g_vret rfl (Nat.le_refl _) rfl dX9_settleWish_65 ⟨rfl, rfl⟩
  have h := g_ifn c5 h
  by_cases c11 : x4 = 2
  · have h := g_ifp c11 h
    refine m_aald1 2 c11 rfl (by decide) rfl dX9_settleWish_37 ?_
    refine g_aload_n dX9_settleWish_38 rfl ?_
    refine m_getR fl_X9_37 rfl rfl rfl dX9_settleWish_39 ?_
    refine g_iload_n dX9_settleWish_42 rfl ?_
    obtain ⟨x12, qx12, h⟩ := g_bind h
    refine m_iald rfl qx12 dX9_settleWish_43 ?_
    refine g_iload_n dX9_settleWish_44 rfl ?_
    refine g_aload_n dX9_settleWish_45 rfl ?_
    refine m_getR fl_X9_37 rfl rfl rfl dX9_settleWish_46 ?_
    refine g_iload_n dX9_settleWish_49 rfl ?_
    obtain ⟨x13, qx13, h⟩ := g_bind h
    refine m_iald rfl qx13 dX9_settleWish_50 ?_
    refine g_iload_n dX9_settleWish_51 rfl ?_
    refine g_iload_n dX9_settleWish_52 rfl ?_
    refine g_icmp_le 60 (by decide) dX9_settleWish_53 (fun c14 => ?_) (fun c14 => ?_)
    · have h := g_ifp c14 h
      refine g_ic0 dX9_settleWish_60 ?_
      refine m_cO mt_X6_yearns mo_X9_118_X6 dX9_settleWish_61 (k_X6_yearns_5 rfl) rfl rfl rfl rfl (by decide) ⟨Nat.le_refl _, Nat.le_refl _⟩ (Nat.le_of_ble_eq_true rfl) ?_
      obtain ⟨μ15, qμ15, h⟩ := g_bind h
      refine m_iast rfl qμ15 dX9_settleWish_64 ?_
      obtain rfl := Option.some.inj h
      exact g_vret rfl (Nat.le_refl _) rfl dX9_settleWish_65 ⟨rfl, rfl⟩
    · have h := g_ifn c14 h
      refine g_ic1 dX9_settleWish_56 ?_
      refine g_goto 61 (by decide) dX9_settleWish_57 ?_
      refine m_cO mt_X6_yearns mo_X9_118_X6 dX9_settleWish_61 (k_X6_yearns_5 rfl) rfl rfl rfl rfl (by decide) ⟨Nat.le_refl _, Nat.le_refl _⟩ (Nat.le_of_ble_eq_true rfl) ?_
      obtain ⟨μ16, qμ16, h⟩ := g_bind h
      refine m_iast rfl qμ16 dX9_settleWish_64 ?_
      obtain rfl := Option.some.inj h
      exact g_vret rfl (Nat.le_refl _) rfl dX9_settleWish_65 ⟨rfl, rfl⟩
  have h := g_ifn c11 h
  by_cases c17 : x4 = 3
  · have h := g_ifp c17 h
    refine m_aald1 3 c17 rfl (by decide) rfl dX9_settleWish_37 ?_
    refine g_aload_n dX9_settleWish_38 rfl ?_
    refine m_getR fl_X9_37 rfl rfl rfl dX9_settleWish_39 ?_
    refine g_iload_n dX9_settleWish_42 rfl ?_
    obtain ⟨x18, qx18, h⟩ := g_bind h
    refine m_iald rfl qx18 dX9_settleWish_43 ?_
    refine g_iload_n dX9_settleWish_44 rfl ?_
    refine g_aload_n dX9_settleWish_45 rfl ?_
    refine m_getR fl_X9_37 rfl rfl rfl dX9_settleWish_46 ?_
    refine g_iload_n dX9_settleWish_49 rfl ?_
    obtain ⟨x19, qx19, h⟩ := g_bind h
    refine m_iald rfl qx19 dX9_settleWish_50 ?_
    refine g_iload_n dX9_settleWish_51 rfl ?_
    refine g_iload_n dX9_settleWish_52 rfl ?_
    refine g_icmp_le 60 (by decide) dX9_settleWish_53 (fun c20 => ?_) (fun c20 => ?_)
    · have h := g_ifp c20 h
      refine g_ic0 dX9_settleWish_60 ?_
      refine m_cO mt_X1_yearns mo_X9_118_X1 dX9_settleWish_61 (k_X1_yearns_6 rfl) rfl rfl rfl rfl (by decide) ⟨Nat.le_refl _, Nat.le_refl _⟩ (Nat.le_of_ble_eq_true rfl) ?_
      obtain ⟨μ21, qμ21, h⟩ := g_bind h
      refine m_iast rfl qμ21 dX9_settleWish_64 ?_
      obtain rfl := Option.some.inj h
      exact g_vret rfl (Nat.le_refl _) rfl dX9_settleWish_65 ⟨rfl, rfl⟩
    · have h := g_ifn c20 h
      refine g_ic1 dX9_settleWish_56 ?_
      refine g_goto 61 (by decide) dX9_settleWish_57 ?_
      refine m_cO mt_X1_yearns mo_X9_118_X1 dX9_settleWish_61 (k_X1_yearns_6 rfl) rfl rfl rfl rfl (by decide) ⟨Nat.le_refl _, Nat.le_refl _⟩ (Nat.le_of_ble_eq_true rfl) ?_
      obtain ⟨μ22, qμ22, h⟩ := g_bind h
      refine m_iast rfl qμ22 dX9_settleWish_64 ?_
      obtain rfl := Option.some.inj h
      exact g_vret rfl (Nat.le_refl _) rfl dX9_settleWish_65 ⟨rfl, rfl⟩
  have h := g_ifn c17 h
  by_cases c23 : x4 = 4
  · have h := g_ifp c23 h
    refine m_aald1 4 c23 rfl (by decide) rfl dX9_settleWish_37 ?_
    refine g_aload_n dX9_settleWish_38 rfl ?_
    refine m_getR fl_X9_37 rfl rfl rfl dX9_settleWish_39 ?_
    refine g_iload_n dX9_settleWish_42 rfl ?_
    obtain ⟨x24, qx24, h⟩ := g_bind h
    refine m_iald rfl qx24 dX9_settleWish_43 ?_
    refine g_iload_n dX9_settleWish_44 rfl ?_
    refine g_aload_n dX9_settleWish_45 rfl ?_
    refine m_getR fl_X9_37 rfl rfl rfl dX9_settleWish_46 ?_
    refine g_iload_n dX9_settleWish_49 rfl ?_
    obtain ⟨x25, qx25, h⟩ := g_bind h
    refine m_iald rfl qx25 dX9_settleWish_50 ?_
    refine g_iload_n dX9_settleWish_51 rfl ?_
    refine g_iload_n dX9_settleWish_52 rfl ?_
    refine g_icmp_le 60 (by decide) dX9_settleWish_53 (fun c26 => ?_) (fun c26 => ?_)
    · have h := g_ifp c26 h
      refine g_ic0 dX9_settleWish_60 ?_
      refine m_cO mt_X4_yearns mo_X9_118_X4 dX9_settleWish_61 (k_X4_yearns_7 rfl) rfl rfl rfl rfl (by decide) ⟨Nat.le_refl _, Nat.le_refl _⟩ (Nat.le_of_ble_eq_true rfl) ?_
      obtain ⟨μ27, qμ27, h⟩ := g_bind h
      refine m_iast rfl qμ27 dX9_settleWish_64 ?_
      obtain rfl := Option.some.inj h
      exact g_vret rfl (Nat.le_refl _) rfl dX9_settleWish_65 ⟨rfl, rfl⟩
    · have h := g_ifn c26 h
      refine g_ic1 dX9_settleWish_56 ?_
      refine g_goto 61 (by decide) dX9_settleWish_57 ?_
      refine m_cO mt_X4_yearns mo_X9_118_X4 dX9_settleWish_61 (k_X4_yearns_7 rfl) rfl rfl rfl rfl (by decide) ⟨Nat.le_refl _, Nat.le_refl _⟩ (Nat.le_of_ble_eq_true rfl) ?_
      obtain ⟨μ28, qμ28, h⟩ := g_bind h
      refine m_iast rfl qμ28 dX9_settleWish_64 ?_
      obtain rfl := Option.some.inj h
      exact g_vret rfl (Nat.le_refl _) rfl dX9_settleWish_65 ⟨rfl, rfl⟩
  have h := g_ifn c23 h
  by_cases c29 : x4 = 5
  · have h := g_ifp c29 h
    refine m_aald1 5 c29 rfl (by decide) rfl dX9_settleWish_37 ?_
    refine g_aload_n dX9_settleWish_38 rfl ?_
    refine m_getR fl_X9_37 rfl rfl rfl dX9_settleWish_39 ?_
    refine g_iload_n dX9_settleWish_42 rfl ?_
    obtain ⟨x30, qx30, h⟩ := g_bind h
    refine m_iald rfl qx30 dX9_settleWish_43 ?_
    refine g_iload_n dX9_settleWish_44 rfl ?_
    refine g_aload_n dX9_settleWish_45 rfl ?_
    refine m_getR fl_X9_37 rfl rfl rfl dX9_settleWish_46 ?_
    refine g_iload_n dX9_settleWish_49 rfl ?_
    obtain ⟨x31, qx31, h⟩ := g_bind h
    refine m_iald rfl qx31 dX9_settleWish_50 ?_
    refine g_iload_n dX9_settleWish_51 rfl ?_
    refine g_iload_n dX9_settleWish_52 rfl ?_
    refine g_icmp_le 60 (by decide) dX9_settleWish_53 (fun c32 => ?_) (fun c32 => ?_)
    · have h := g_ifp c32 h
      refine g_ic0 dX9_settleWish_60 ?_
      refine m_cO mt_X5_yearns mo_X9_118_X5 dX9_settleWish_61 (k_X5_yearns_8 rfl) rfl rfl rfl rfl (by decide) ⟨Nat.le_refl _, Nat.le_refl _⟩ (Nat.le_of_ble_eq_true rfl) ?_
      obtain ⟨μ33, qμ33, h⟩ := g_bind h
      refine m_iast rfl qμ33 dX9_settleWish_64 ?_
      obtain rfl := Option.some.inj h
      exact g_vret rfl (Nat.le_refl _) rfl dX9_settleWish_65 ⟨rfl, rfl⟩
    · have h := g_ifn c32 h
      refine g_ic1 dX9_settleWish_56 ?_
      refine g_goto 61 (by decide) dX9_settleWish_57 ?_
      refine m_cO mt_X5_yearns mo_X9_118_X5 dX9_settleWish_61 (k_X5_yearns_8 rfl) rfl rfl rfl rfl (by decide) ⟨Nat.le_refl _, Nat.le_refl _⟩ (Nat.le_of_ble_eq_true rfl) ?_
      obtain ⟨μ34, qμ34, h⟩ := g_bind h
      refine m_iast rfl qμ34 dX9_settleWish_64 ?_
      obtain rfl := Option.some.inj h
      exact g_vret rfl (Nat.le_refl _) rfl dX9_settleWish_65 ⟨rfl, rfl⟩
  have h := g_ifn c29 h
  cases h
set_option maxRecDepth 100000 in
set_option maxHeartbeats 4000000 in
theorem k_X11_isUnder {D : va_G} {cA : Nat → ClassId} {b b2 k : Nat} {dyn : Nat → Nat} {t s : Nat} {a1 : Int32} {a2 : Int32} {μ : g_M} {z : Int32} (h : f_X11_isUnder a1 a2 μ = some z) : g_K (g_XX D cA b b2 dyn) yX11_isUnder Y_X11_isUnder 2 0 0 k [.int a1, .int a2] (μ, (g_rfX t s)) (fun r1 σ1 => r1 = some (.int z) ∧ σ1 = (μ, (g_rfX t s))) := by
  unfold f_X11_isUnder at h
  refine g_met 0 (by decide) rfl rfl (Nat.le_of_ble_eq_true rfl) ?_
  refine g_iload_n dX11_isUnder_0 rfl ?_
  refine g_ic0 dX11_isUnder_1 ?_
  refine g_ic5 dX11_isUnder_2 ?_
  refine m_cS mt_X11_isBetween ml_X11_120 ms_X11_isBetween dX11_isUnder_3 (k_X11_isBetween rfl) rfl rfl (by decide) ⟨Nat.le_refl _, Nat.le_refl _⟩ (Nat.le_of_ble_eq_true rfl) ?_
  refine g_if_eq 25 (by decide) dX11_isUnder_6 (fun c1 => ?_) (fun c1 => ?_)
  · have h := g_ifp c1 h
    refine g_ic0 dX11_isUnder_25 ?_
    obtain rfl := Option.some.inj h
    exact g_zret rfl (Nat.le_refl _) rfl rfl dX11_isUnder_26 ⟨rfl, rfl⟩
  · have h := g_ifn c1 h
    obtain ⟨x2, qx2, h⟩ := g_bind h
    refine m_lines fs_LINES dX11_isUnder_9 dX11_isUnder_12 rfl dX11_isUnder_13 qx2 ?_
    refine g_iload_n dX11_isUnder_14 rfl ?_
    refine g_ishr dX11_isUnder_15 ?_
    refine g_ic1 dX11_isUnder_16 ?_
    refine g_iand dX11_isUnder_17 ?_
    refine g_if_eq 25 (by decide) dX11_isUnder_18 (fun c3 => ?_) (fun c3 => ?_)
    · have h := g_ifp c3 h
      refine g_ic0 dX11_isUnder_25 ?_
      obtain rfl := Option.some.inj h
      exact g_zret rfl (Nat.le_refl _) rfl rfl dX11_isUnder_26 ⟨rfl, rfl⟩
    · have h := g_ifn c3 h
      refine g_ic1 dX11_isUnder_21 ?_
      refine g_goto 26 (by decide) dX11_isUnder_22 ?_
      obtain rfl := Option.some.inj h
      exact g_zret rfl (Nat.le_refl _) rfl rfl dX11_isUnder_26 ⟨rfl, rfl⟩
set_option maxRecDepth 100000 in
set_option maxHeartbeats 4000000 in
theorem k_X7_valueOf_16 {D : va_G} {cA : Nat → ClassId} {b b2 k : Nat} {dyn : Nat → Nat} {t s : Nat} {a1 : Int32} {μ : g_M} {z : Int32} (h : f_X7_valueOf_16 a1 μ = some z) : g_K (g_XX D cA b b2 dyn) yX7_valueOf Y_X7_valueOf 1 0 0 k [.int a1, .ref 16] (μ, (g_rfX t s)) (fun r1 σ1 => r1 = some (.int z) ∧ σ1 = (μ, (g_rfX t s))) := by
  unfold f_X7_valueOf_16 at h
  refine g_met 1 (by decide) rfl rfl (Nat.le_of_ble_eq_true rfl) ?_
  refine g_iload_n dX7_valueOf_0 rfl ?_
  refine g_sipush (v := 10000) dX7_valueOf_1 (by decide) ?_
  refine g_icmp_lt 21 (by decide) dX7_valueOf_4 (fun c1 => ?_) (fun c1 => ?_)
  · have h := g_ifp c1 h
    refine g_ic0 dX7_valueOf_21 ?_
    refine g_istore_2 rfl (Nat.le_of_ble_eq_true rfl) dX7_valueOf_22 ?_
    refine g_iload_n dX7_valueOf_23 rfl ?_
    refine g_if_eq 37 (by decide) dX7_valueOf_24 (fun c9 => ?_) (fun cd => absurd (by decide) cd)
    refine g_iload_n dX7_valueOf_37 rfl ?_
    obtain rfl := Option.some.inj h
    exact g_iret rfl (Nat.le_refl _) rfl dX7_valueOf_38 ⟨rfl, rfl⟩
  · have h := g_ifn c1 h
    refine g_iload_n dX7_valueOf_7 rfl ?_
    refine g_sipush (v := 10000) dX7_valueOf_8 (by decide) ?_
    refine g_isub dX7_valueOf_11 ?_
    refine g_aload_n dX7_valueOf_12 rfl ?_
    refine g_alen rfl dX7_valueOf_13 ?_
    refine g_icmp_ge 21 (by decide) dX7_valueOf_14 (fun c2 => ?_) (fun c2 => ?_)
    · have h := g_ifp c2 h
      refine g_ic0 dX7_valueOf_21 ?_
      refine g_istore_2 rfl (Nat.le_of_ble_eq_true rfl) dX7_valueOf_22 ?_
      refine g_iload_n dX7_valueOf_23 rfl ?_
      refine g_if_eq 37 (by decide) dX7_valueOf_24 (fun c9 => ?_) (fun cd => absurd (by decide) cd)
      refine g_iload_n dX7_valueOf_37 rfl ?_
      obtain rfl := Option.some.inj h
      exact g_iret rfl (Nat.le_refl _) rfl dX7_valueOf_38 ⟨rfl, rfl⟩
    · have h := g_ifn c2 h
      refine g_ic1 dX7_valueOf_17 ?_
      refine g_goto 22 (by decide) dX7_valueOf_18 ?_
      refine g_istore_2 rfl (Nat.le_of_ble_eq_true rfl) dX7_valueOf_22 ?_
      refine g_iload_n dX7_valueOf_23 rfl ?_
      refine g_if_eq 37 (by decide) dX7_valueOf_24 (fun cd => absurd cd (by decide)) (fun c9 => ?_)
      refine g_aload_n dX7_valueOf_27 rfl ?_
      refine g_iload_n dX7_valueOf_28 rfl ?_
      refine g_sipush (v := 10000) dX7_valueOf_29 (by decide) ?_
      refine g_isub dX7_valueOf_32 ?_
      obtain ⟨x3, qx3, h⟩ := g_bind h
      refine m_iald rfl qx3 dX7_valueOf_33 ?_
      refine g_goto 38 (by decide) dX7_valueOf_34 ?_
      obtain rfl := Option.some.inj h
      exact g_iret rfl (Nat.le_refl _) rfl dX7_valueOf_38 ⟨rfl, rfl⟩
set_option maxRecDepth 100000 in
set_option maxHeartbeats 4000000 in
theorem k_X7_compares_16 {D : va_G} {cA : Nat → ClassId} {b b2 k : Nat} {dyn : Nat → Nat} {t s : Nat} {r : Nat} {L : Nat} (hR : g_RO (g_XX D cA b b2 dyn) k (g_rfX t s) r L) {a1 : Int32} {μ : g_M} {z : Int32} (h : f_X7_compares_16 r L a1 μ = some z) : g_K (g_XX D cA b b2 dyn) yX7_compares Y_X7_compares 2 0 0 k [.ref r, .int a1, .ref 16] (μ, (g_rfX t s)) (fun r1 σ1 => r1 = some (.int z) ∧ σ1 = (μ, (g_rfX t s))) := by
  unfold f_X7_compares_16 at h
  refine g_met 2 (by decide) rfl rfl (Nat.le_of_ble_eq_true rfl) ?_
  refine g_aload_n dX7_compares_0 rfl ?_
  refine m_getR fl_X7_27 rfl hR.1 hR.2.2.2.2.2.2.2.2 dX7_compares_1 ?_
  refine g_iload_n dX7_compares_4 rfl ?_
  refine g_ic3 dX7_compares_5 ?_
  refine g_imul dX7_compares_6 ?_
  refine g_ic1 dX7_compares_7 ?_
  refine g_iadd dX7_compares_8 ?_
  obtain ⟨x1, qx1, h⟩ := g_bind h
  refine m_iald hR.2.2.2.2.1 qx1 dX7_compares_9 ?_
  refine g_aload_n dX7_compares_10 rfl ?_
  obtain ⟨x2, q3, h⟩ := g_bind h
  refine m_cS mt_X7_valueOf ml_X7_48 ms_X7_valueOf dX7_compares_11 (k_X7_valueOf_16 q3) rfl rfl (by decide) ⟨Nat.le_refl _, Nat.le_refl _⟩ (Nat.le_of_ble_eq_true rfl) ?_
  refine g_istore_3 rfl (Nat.le_of_ble_eq_true rfl) dX7_compares_14 ?_
  refine g_aload_n dX7_compares_15 rfl ?_
  refine m_getR fl_X7_27 rfl hR.1 hR.2.2.2.2.2.2.2.2 dX7_compares_16 ?_
  refine g_iload_n dX7_compares_19 rfl ?_
  refine g_ic3 dX7_compares_20 ?_
  refine g_imul dX7_compares_21 ?_
  refine g_ic2 dX7_compares_22 ?_
  refine g_iadd dX7_compares_23 ?_
  obtain ⟨x4, qx4, h⟩ := g_bind h
  refine m_iald hR.2.2.2.2.1 qx4 dX7_compares_24 ?_
  refine g_aload_n dX7_compares_25 rfl ?_
  obtain ⟨x5, q6, h⟩ := g_bind h
  refine m_cS mt_X7_valueOf ml_X7_48 ms_X7_valueOf dX7_compares_26 (k_X7_valueOf_16 q6) rfl rfl (by decide) ⟨Nat.le_refl _, Nat.le_refl _⟩ (Nat.le_of_ble_eq_true rfl) ?_
  refine g_istore_4 rfl (Nat.le_of_ble_eq_true rfl) dX7_compares_29 ?_
  refine g_aload_n dX7_compares_31 rfl ?_
  refine m_getR fl_X7_27 rfl hR.1 hR.2.2.2.2.2.2.2.2 dX7_compares_32 ?_
  refine g_iload_n dX7_compares_35 rfl ?_
  refine g_ic3 dX7_compares_36 ?_
  refine g_imul dX7_compares_37 ?_
  obtain ⟨x7, qx7, h⟩ := g_bind h
  refine m_iald hR.2.2.2.2.1 qx7 dX7_compares_38 ?_
  by_cases c8 : x7 = 0
  · have h := g_ifp c8 h
    refine m_look (off := 25) 0 64 c8 dX7_compares_39 (by decide) (by decide) (by decide) ?_
    refine g_iload_n dX7_compares_64 rfl ?_
    refine g_iload dX7_compares_65 rfl ?_
    refine g_icmp_ge 74 (by decide) dX7_compares_67 (fun c9 => ?_) (fun c9 => ?_)
    · have h := g_ifp c9 h
      refine g_ic0 dX7_compares_74 ?_
      obtain rfl := Option.some.inj h
      exact g_zret rfl (Nat.le_refl _) rfl rfl dX7_compares_75 ⟨rfl, rfl⟩
    · have h := g_ifn c9 h
      refine g_ic1 dX7_compares_70 ?_
      refine g_goto 75 (by decide) dX7_compares_71 ?_
      obtain rfl := Option.some.inj h
      exact g_zret rfl (Nat.le_refl _) rfl rfl dX7_compares_75 ⟨rfl, rfl⟩
  have h := g_ifn c8 h
  by_cases c10 : x7 = 1
  · have h := g_ifp c10 h
    refine m_look (off := 37) 1 76 c10 dX7_compares_39 (by decide) (by decide) (by decide) ?_
    refine g_iload_n dX7_compares_76 rfl ?_
    refine g_iload dX7_compares_77 rfl ?_
    refine g_icmp_ne 86 (by decide) dX7_compares_79 (fun c11 => ?_) (fun c11 => ?_)
    · have h := g_ifn c11 h
      refine g_ic0 dX7_compares_86 ?_
      obtain rfl := Option.some.inj h
      exact g_zret rfl (Nat.le_refl _) rfl rfl dX7_compares_87 ⟨rfl, rfl⟩
    · have h := g_ifp c11 h
      refine g_ic1 dX7_compares_82 ?_
      refine g_goto 87 (by decide) dX7_compares_83 ?_
      obtain rfl := Option.some.inj h
      exact g_zret rfl (Nat.le_refl _) rfl rfl dX7_compares_87 ⟨rfl, rfl⟩
  have h := g_ifn c10 h
  refine g_lookup (off := 49) 88 dX7_compares_39 (by decide) (by have nc8 := m_ne 0 0 c8 (by decide); have nc10 := m_ne 1 1 c10 (by decide); simp [Op.lookupswitch.offset, List.find?, Ne.symm nc8, Ne.symm nc10]) (by decide) ?_
  refine g_iload_n dX7_compares_88 rfl ?_
  refine g_iload dX7_compares_89 rfl ?_
  refine g_icmp_le 98 (by decide) dX7_compares_91 (fun c12 => ?_) (fun c12 => ?_)
  · have h := g_ifp c12 h
    refine g_ic0 dX7_compares_98 ?_
    obtain rfl := Option.some.inj h
    exact g_zret rfl (Nat.le_refl _) rfl rfl dX7_compares_99 ⟨rfl, rfl⟩
  · have h := g_ifn c12 h
    refine g_ic1 dX7_compares_94 ?_
    refine g_goto 99 (by decide) dX7_compares_95 ?_
    obtain rfl := Option.some.inj h
    exact g_zret rfl (Nat.le_refl _) rfl rfl dX7_compares_99 ⟨rfl, rfl⟩
set_option maxRecDepth 100000 in
set_option maxHeartbeats 4000000 in
theorem k_X7_holds_16_L20 {D : va_G} {cA : Nat → ClassId} {b b2 k : Nat} {dyn : Nat → Nat} {t s : Nat} {r : Nat} {L : Nat} {Q : Option Value → g_S → Prop} {N : Nat} (hR : g_RO (g_XX D cA b b2 dyn) k (g_rfX t s) r L) : ∀ (n : Nat) (x_1 : Int32) (x_3 : Int32) (x_4 : Int32) (μ : g_M) (z_3 : Int32), f_X7_holds_16_L20 N r L n x_1 x_3 x_4 μ = some z_3 → g_V (g_XX D cA b b2 dyn) Y_X7_holds 3 0 0 Q k 0 0 120 [none, none, none, some (.int z_3), none, none, none] [] (μ, (g_rfX t s)) → g_V (g_XX D cA b b2 dyn) Y_X7_holds 3 0 0 Q k 0 0 20 [some (.ref r), some (.int x_1), some (.ref 16), some (.int x_3), some (.int x_4), none, none] [] (μ, (g_rfX t s)) := by
  intro n
  induction n with
  | zero =>
    intro x_1 x_3 x_4 μ z_3 h
    rw [f_X7_holds_16_L20] at h
    cases h
  | succ n ih =>
    intro x_1 x_3 x_4 μ z_3 h hc
    rw [f_X7_holds_16_L20] at h
    refine g_iload dX7_holds_20 rfl ?_
    refine g_aload_n dX7_holds_22 rfl ?_
    refine m_getR fl_X7_18 rfl hR.1 hR.2.2.2.2.2.2.2.1 dX7_holds_23 ?_
    refine g_iload_n dX7_holds_26 rfl ?_
    obtain ⟨x3, qx3, h⟩ := g_bind h
    refine m_iald hR.2.2.2.1 qx3 dX7_holds_27 ?_
    refine g_icmp_ge 120 (by decide) dX7_holds_28 (fun c4 => ?_) (fun c4 => ?_)
    · have h := g_ifp c4 h
      obtain rfl := Option.some.inj h
      exact g_less _ (g_subN (g_subN (g_subN (g_subS (g_subN (g_subN (g_subN g_sub0))))))) hc
    · have h := g_ifn c4 h
      refine g_aload_n dX7_holds_31 rfl ?_
      refine m_getR fl_X7_27 rfl hR.1 hR.2.2.2.2.2.2.2.2 dX7_holds_32 ?_
      refine g_iload dX7_holds_35 rfl ?_
      refine g_ic3 dX7_holds_37 ?_
      refine g_imul dX7_holds_38 ?_
      obtain ⟨x5, qx5, h⟩ := g_bind h
      refine m_iald hR.2.2.2.2.1 qx5 dX7_holds_39 ?_
      refine g_istore_5 rfl (Nat.le_of_ble_eq_true rfl) dX7_holds_40 ?_
      refine g_iload dX7_holds_42 rfl ?_
      refine g_ic2 dX7_holds_44 ?_
      refine g_icmp_gt 71 (by decide) dX7_holds_45 (fun c6 => ?_) (fun c6 => ?_)
      · have h := g_ifp c6 h
        refine g_iload dX7_holds_71 rfl ?_
        refine g_ic3 dX7_holds_73 ?_
        refine g_icmp_ne 84 (by decide) dX7_holds_74 (fun c7 => ?_) (fun c7 => ?_)
        · have h := g_ifn c7 h
          refine g_iload_n dX7_holds_84 rfl ?_
          refine g_ic1 dX7_holds_85 ?_
          refine g_iand dX7_holds_86 ?_
          obtain ⟨x8, ex8, h⟩ := g_let h
          refine g_top ex8 ?_
          refine g_istore_6 rfl (Nat.le_of_ble_eq_true rfl) dX7_holds_87 ?_
          refine g_iload_n dX7_holds_89 rfl ?_
          refine g_ic1 dX7_holds_90 ?_
          refine g_iushr dX7_holds_91 ?_
          obtain ⟨x9, ex9, h⟩ := g_let h
          refine g_top ex9 ?_
          refine g_istore_3 rfl (Nat.le_of_ble_eq_true rfl) dX7_holds_92 ?_
          refine g_iload dX7_holds_93 rfl ?_
          refine g_ic4 dX7_holds_95 ?_
          refine g_icmp_ne 109 (by decide) dX7_holds_96 (fun c10 => ?_) (fun c10 => ?_)
          · have h := g_ifn c10 h
            refine g_iload_n dX7_holds_109 rfl ?_
            refine g_iload dX7_holds_110 rfl ?_
            refine g_ior dX7_holds_112 ?_
            obtain ⟨x11, ex11, h⟩ := g_let h
            refine g_top ex11 ?_
            refine g_istore_3 rfl (Nat.le_of_ble_eq_true rfl) dX7_holds_113 ?_
            refine g_iinc_4 (v := 1) rfl (by decide) (Nat.le_of_ble_eq_true rfl) dX7_holds_114 ?_
            refine g_goto 20 (by decide) dX7_holds_117 ?_
            exact g_less _ (g_subS (g_subS (g_subS (g_subS (g_subS (g_subN (g_subN g_sub0))))))) (ih _ _ _ _ _ h hc)
          · have h := g_ifp c10 h
            refine g_iload_n dX7_holds_99 rfl ?_
            refine g_iload dX7_holds_100 rfl ?_
            refine g_bipush (v := (-2)) dX7_holds_102 (by decide) ?_
            refine g_ior dX7_holds_104 ?_
            refine g_iand dX7_holds_105 ?_
            refine g_goto 113 (by decide) dX7_holds_106 ?_
            obtain ⟨x12, ex12, h⟩ := g_let h
            refine g_top ex12 ?_
            refine g_istore_3 rfl (Nat.le_of_ble_eq_true rfl) dX7_holds_113 ?_
            refine g_iinc_4 (v := 1) rfl (by decide) (Nat.le_of_ble_eq_true rfl) dX7_holds_114 ?_
            refine g_goto 20 (by decide) dX7_holds_117 ?_
            exact g_less _ (g_subS (g_subS (g_subS (g_subS (g_subS (g_subN (g_subN g_sub0))))))) (ih _ _ _ _ _ h hc)
        · have h := g_ifp c7 h
          refine g_iload_n dX7_holds_77 rfl ?_
          refine g_ic1 dX7_holds_78 ?_
          refine g_ixor dX7_holds_79 ?_
          obtain ⟨x13, ex13, h⟩ := g_let h
          refine g_top ex13 ?_
          refine g_istore_3 rfl (Nat.le_of_ble_eq_true rfl) dX7_holds_80 ?_
          refine g_goto 114 (by decide) dX7_holds_81 ?_
          refine g_iinc_4 (v := 1) rfl (by decide) (Nat.le_of_ble_eq_true rfl) dX7_holds_114 ?_
          refine g_goto 20 (by decide) dX7_holds_117 ?_
          exact g_less _ (g_subS (g_subS (g_subS (g_subS (g_subS (g_subN (g_subN g_sub0))))))) (ih _ _ _ _ _ h hc)
      · have h := g_ifn c6 h
        refine g_iload_n dX7_holds_48 rfl ?_
        refine g_ic1 dX7_holds_49 ?_
        refine g_ishl dX7_holds_50 ?_
        refine g_aload_n dX7_holds_51 rfl ?_
        refine g_iload dX7_holds_52 rfl ?_
        refine g_aload_n dX7_holds_54 rfl ?_
        obtain ⟨x14, q15, h⟩ := g_bind h
        refine m_cV mt_X7_compares ml_X7_45 mv_X7_compares dX7_holds_55 (k_X7_compares_16 hR q15) rfl hR.1 rfl rfl (by decide) ⟨Nat.le_refl _, Nat.le_refl _⟩ (Nat.le_of_ble_eq_true rfl) ?_
        refine g_if_eq 65 (by decide) dX7_holds_58 (fun c16 => ?_) (fun c16 => ?_)
        · have h := g_ifp c16 h
          refine g_ic0 dX7_holds_65 ?_
          refine g_ior dX7_holds_66 ?_
          obtain ⟨x17, ex17, h⟩ := g_let h
          refine g_top ex17 ?_
          refine g_istore_3 rfl (Nat.le_of_ble_eq_true rfl) dX7_holds_67 ?_
          refine g_goto 114 (by decide) dX7_holds_68 ?_
          refine g_iinc_4 (v := 1) rfl (by decide) (Nat.le_of_ble_eq_true rfl) dX7_holds_114 ?_
          refine g_goto 20 (by decide) dX7_holds_117 ?_
          exact g_less _ (g_subS (g_subS (g_subS (g_subS (g_subS (g_subN (g_subN g_sub0))))))) (ih _ _ _ _ _ h hc)
        · have h := g_ifn c16 h
          refine g_ic1 dX7_holds_61 ?_
          refine g_goto 66 (by decide) dX7_holds_62 ?_
          refine g_ior dX7_holds_66 ?_
          obtain ⟨x18, ex18, h⟩ := g_let h
          refine g_top ex18 ?_
          refine g_istore_3 rfl (Nat.le_of_ble_eq_true rfl) dX7_holds_67 ?_
          refine g_goto 114 (by decide) dX7_holds_68 ?_
          refine g_iinc_4 (v := 1) rfl (by decide) (Nat.le_of_ble_eq_true rfl) dX7_holds_114 ?_
          refine g_goto 20 (by decide) dX7_holds_117 ?_
          exact g_less _ (g_subS (g_subS (g_subS (g_subS (g_subS (g_subN (g_subN g_sub0))))))) (ih _ _ _ _ _ h hc)
set_option maxRecDepth 100000 in
set_option maxHeartbeats 4000000 in
theorem k_X7_holds_16 {D : va_G} {cA : Nat → ClassId} {b b2 k : Nat} {dyn : Nat → Nat} {t s : Nat} {r : Nat} {L : Nat} {N : Nat} (hR : g_RO (g_XX D cA b b2 dyn) k (g_rfX t s) r L) {a1 : Int32} {μ : g_M} {z : Int32} (h : f_X7_holds_16 N r L a1 μ = some z) : g_K (g_XX D cA b b2 dyn) yX7_holds Y_X7_holds 3 0 0 k [.ref r, .int a1, .ref 16] (μ, (g_rfX t s)) (fun r1 σ1 => r1 = some (.int z) ∧ σ1 = (μ, (g_rfX t s))) := by
  unfold f_X7_holds_16 at h
  refine g_met 4 (by decide) rfl rfl (Nat.le_of_ble_eq_true rfl) ?_
  refine g_ic1 dX7_holds_0 ?_
  refine g_istore_3 rfl (Nat.le_of_ble_eq_true rfl) dX7_holds_1 ?_
  refine g_iload_n dX7_holds_2 rfl ?_
  refine g_if_ne 10 (by decide) dX7_holds_3 (fun c1 => ?_) (fun c1 => ?_)
  · have h := g_ifn c1 h
    refine g_aload_n dX7_holds_10 rfl ?_
    refine m_getR fl_X7_18 rfl hR.1 hR.2.2.2.2.2.2.2.1 dX7_holds_11 ?_
    refine g_iload_n dX7_holds_14 rfl ?_
    refine g_ic1 dX7_holds_15 ?_
    refine g_isub dX7_holds_16 ?_
    obtain ⟨x2, qx2, h⟩ := g_bind h
    refine m_iald hR.2.2.2.1 qx2 dX7_holds_17 ?_
    refine g_istore_4 rfl (Nat.le_of_ble_eq_true rfl) dX7_holds_18 ?_
    obtain ⟨x3, q4, h⟩ := g_bind h
    refine g_less _ (g_subS (g_subS (g_subS (g_subS (g_subS (g_subN (g_subN g_sub0))))))) (k_X7_holds_16_L20 hR _ _ _ _ _ _ q4 ?_)
    refine g_iload_n dX7_holds_120 rfl ?_
    refine g_ic1 dX7_holds_121 ?_
    refine g_iand dX7_holds_122 ?_
    refine g_if_eq 130 (by decide) dX7_holds_123 (fun c5 => ?_) (fun c5 => ?_)
    · have h := g_ifp c5 h
      refine g_ic0 dX7_holds_130 ?_
      obtain rfl := Option.some.inj h
      exact g_zret rfl (Nat.le_refl _) rfl rfl dX7_holds_131 ⟨rfl, rfl⟩
    · have h := g_ifn c5 h
      refine g_ic1 dX7_holds_126 ?_
      refine g_goto 131 (by decide) dX7_holds_127 ?_
      obtain rfl := Option.some.inj h
      exact g_zret rfl (Nat.le_refl _) rfl rfl dX7_holds_131 ⟨rfl, rfl⟩
  · have h := g_ifp c1 h
    refine g_ic0 dX7_holds_6 ?_
    refine g_goto 18 (by decide) dX7_holds_7 ?_
    refine g_istore_4 rfl (Nat.le_of_ble_eq_true rfl) dX7_holds_18 ?_
    obtain ⟨x6, q7, h⟩ := g_bind h
    refine g_less _ (g_subS (g_subS (g_subS (g_subS (g_subS (g_subN (g_subN g_sub0))))))) (k_X7_holds_16_L20 hR _ _ _ _ _ _ q7 ?_)
    refine g_iload_n dX7_holds_120 rfl ?_
    refine g_ic1 dX7_holds_121 ?_
    refine g_iand dX7_holds_122 ?_
    refine g_if_eq 130 (by decide) dX7_holds_123 (fun c8 => ?_) (fun c8 => ?_)
    · have h := g_ifp c8 h
      refine g_ic0 dX7_holds_130 ?_
      obtain rfl := Option.some.inj h
      exact g_zret rfl (Nat.le_refl _) rfl rfl dX7_holds_131 ⟨rfl, rfl⟩
    · have h := g_ifn c8 h
      refine g_ic1 dX7_holds_126 ?_
      refine g_goto 131 (by decide) dX7_holds_127 ?_
      obtain rfl := Option.some.inj h
      exact g_zret rfl (Nat.le_refl _) rfl rfl dX7_holds_131 ⟨rfl, rfl⟩
set_option maxRecDepth 100000 in
set_option maxHeartbeats 4000000 in
theorem k_X7_tellsOf_16_L2 {D : va_G} {cA : Nat → ClassId} {b b2 k : Nat} {dyn : Nat → Nat} {t s : Nat} {r : Nat} {L : Nat} {Q : Option Value → g_S → Prop} {N : Nat} (hR : g_RO (g_XX D cA b b2 dyn) k (g_rfX t s) r L) : ∀ (n : Nat) (x_1 : Int32) (x_3 : Int32) (μ : g_M) (z : (Int32) ⊕ (Unit)), f_X7_tellsOf_16_L2 N r L n x_1 x_3 μ = some z → (∀ q : Int32, z = .inl q → Q (some (.int q)) (μ, (g_rfX t s))) → (z = .inr () → g_V (g_XX D cA b b2 dyn) Y_X7_tellsOf 4 0 0 Q k 0 0 45 [none, none, none, none] [] (μ, (g_rfX t s))) → g_V (g_XX D cA b b2 dyn) Y_X7_tellsOf 4 0 0 Q k 0 0 2 [some (.ref r), some (.int x_1), some (.ref 16), some (.int x_3)] [] (μ, (g_rfX t s)) := by
  intro n
  induction n with
  | zero =>
    intro x_1 x_3 μ z h
    rw [f_X7_tellsOf_16_L2] at h
    cases h
  | succ n ih =>
    intro x_1 x_3 μ z h hr hc
    rw [f_X7_tellsOf_16_L2] at h
    refine g_iload_n dX7_tellsOf_2 rfl ?_
    refine g_aload_n dX7_tellsOf_3 rfl ?_
    refine m_getI fl_X7_30 rfl hR.1 dX7_tellsOf_4 ?_
    refine g_icmp_ge 45 (by decide) dX7_tellsOf_7 (fun c1 => ?_) (fun c1 => ?_)
    · have h := g_ifp c1 h
      obtain rfl := Option.some.inj h
      exact g_less _ (g_subN (g_subN (g_subN (g_subN g_sub0)))) (hc  rfl)
    · have h := g_ifn c1 h
      refine g_iload_n dX7_tellsOf_10 rfl ?_
      refine g_aload_n dX7_tellsOf_11 rfl ?_
      refine m_getR fl_X7_9 rfl hR.1 hR.2.2.2.2.2.1 dX7_tellsOf_12 ?_
      refine g_iload_n dX7_tellsOf_15 rfl ?_
      obtain ⟨x2, qx2, h⟩ := g_bind h
      refine m_iald hR.2.1 qx2 dX7_tellsOf_16 ?_
      obtain ⟨x3, q4, h⟩ := g_bind h
      refine m_cSN mt_X11_isUnder mn_X7_37 ms_X11_isUnder dX7_tellsOf_17 (k_X11_isUnder q4) rfl rfl (by decide) ⟨Nat.le_refl _, Nat.le_refl _⟩ (Nat.le_of_ble_eq_true rfl) ?_
      refine g_if_eq 39 (by decide) dX7_tellsOf_20 (fun c5 => ?_) (fun c5 => ?_)
      · have h := g_ifp c5 h
        refine g_iinc_3 (v := 1) rfl (by decide) (Nat.le_of_ble_eq_true rfl) dX7_tellsOf_39 ?_
        refine g_goto 2 (by decide) dX7_tellsOf_42 ?_
        exact g_less _ (g_subS (g_subS (g_subS (g_subS g_sub0)))) (ih _ _ _ _ h hr hc)
      · have h := g_ifn c5 h
        refine g_aload_n dX7_tellsOf_23 rfl ?_
        refine g_iload_n dX7_tellsOf_24 rfl ?_
        refine g_aload_n dX7_tellsOf_25 rfl ?_
        obtain ⟨x6, q7, h⟩ := g_bind h
        refine m_cV mt_X7_holds ml_X7_41 mv_X7_holds dX7_tellsOf_26 (k_X7_holds_16 hR q7) rfl hR.1 rfl rfl (by decide) ⟨Nat.le_refl _, Nat.le_refl _⟩ (Nat.le_of_ble_eq_true rfl) ?_
        refine g_if_eq 39 (by decide) dX7_tellsOf_29 (fun c8 => ?_) (fun c8 => ?_)
        · have h := g_ifp c8 h
          refine g_iinc_3 (v := 1) rfl (by decide) (Nat.le_of_ble_eq_true rfl) dX7_tellsOf_39 ?_
          refine g_goto 2 (by decide) dX7_tellsOf_42 ?_
          exact g_less _ (g_subS (g_subS (g_subS (g_subS g_sub0)))) (ih _ _ _ _ h hr hc)
        · have h := g_ifn c8 h
          refine g_aload_n dX7_tellsOf_32 rfl ?_
          refine m_getR fl_X7_15 rfl hR.1 hR.2.2.2.2.2.2.1 dX7_tellsOf_33 ?_
          refine g_iload_n dX7_tellsOf_36 rfl ?_
          obtain ⟨x9, qx9, h⟩ := g_bind h
          refine m_iald hR.2.2.1 qx9 dX7_tellsOf_37 ?_
          obtain rfl := Option.some.inj h
          exact g_iret rfl (Nat.le_refl _) rfl dX7_tellsOf_38 (hr _ rfl)
set_option maxRecDepth 100000 in
set_option maxHeartbeats 4000000 in
theorem k_X7_tellsOf_16 {D : va_G} {cA : Nat → ClassId} {b b2 k : Nat} {dyn : Nat → Nat} {t s : Nat} {r : Nat} {L : Nat} {N : Nat} (hR : g_RO (g_XX D cA b b2 dyn) k (g_rfX t s) r L) {a1 : Int32} {μ : g_M} {z : Int32} (h : f_X7_tellsOf_16 N r L a1 μ = some z) : g_K (g_XX D cA b b2 dyn) yX7_tellsOf Y_X7_tellsOf 4 0 0 k [.ref r, .int a1, .ref 16] (μ, (g_rfX t s)) (fun r1 σ1 => r1 = some (.int z) ∧ σ1 = (μ, (g_rfX t s))) := by
  unfold f_X7_tellsOf_16 at h
  refine g_met 1 (by decide) rfl rfl (Nat.le_of_ble_eq_true rfl) ?_
  refine g_ic0 dX7_tellsOf_0 ?_
  refine g_istore_3 rfl (Nat.le_of_ble_eq_true rfl) dX7_tellsOf_1 ?_
  obtain ⟨w2, q1, h⟩ := g_bind h
  refine g_less _ (g_subS (g_subS (g_subS (g_subS g_sub0)))) (k_X7_tellsOf_16_L2 hR _ _ _ _ _ q1 ?_ ?_)
  · intro q0 e0
    subst e0
    cases h
    exact ⟨rfl, rfl⟩
  · intro  e0
    subst e0
    try dsimp only at h
    refine g_ic0 dX7_tellsOf_45 ?_
    obtain rfl := Option.some.inj h
    exact g_iret rfl (Nat.le_refl _) rfl dX7_tellsOf_46 ⟨rfl, rfl⟩
set_option maxRecDepth 100000 in
set_option maxHeartbeats 4000000 in
theorem k_X9_settleWills_L45 {D : va_G} {cA : Nat → ClassId} {b b2 k : Nat} {dyn : Nat → Nat} {t s : Nat} {L : Nat} {Q : Option Value → g_S → Prop} {N : Nat} (hR : g_RO (g_XX D cA b b2 dyn) k (g_rfX t s) t L) : ∀ (n : Nat) (x_1 : Int32) (x_2 : Int32) (μ : g_M) (z_μ : g_M), f_X9_settleWills_L45 N t L n x_1 x_2 μ = some z_μ → g_V (g_XX D cA b b2 dyn) Y_X9_settleWills 5 0 0 Q k 0 0 92 [none, none, none] [] (z_μ, (g_rfX t s)) → g_V (g_XX D cA b b2 dyn) Y_X9_settleWills 5 0 0 Q k 0 0 45 [some (.ref 1), some (.int x_1), some (.int x_2)] [] (μ, (g_rfX t s)) := by
  intro n
  induction n with
  | zero =>
    intro x_1 x_2 μ z_μ h
    rw [f_X9_settleWills_L45] at h
    cases h
  | succ n ih =>
    intro x_1 x_2 μ z_μ h hc
    rw [f_X9_settleWills_L45] at h
    refine g_iload_n dX9_settleWills_45 rfl ?_
    refine g_bipush (v := 16) dX9_settleWills_46 (by decide) ?_
    refine g_icmp_gt 92 (by decide) dX9_settleWills_48 (fun c8 => ?_) (fun c8 => ?_)
    · have h := g_ifp c8 h
      obtain rfl := Option.some.inj h
      exact g_less _ (g_subN (g_subN (g_subN g_sub0))) hc
    · have h := g_ifn c8 h
      refine g_aload_n dX9_settleWills_51 rfl ?_
      refine m_getR fl_X9_57 rfl rfl rfl dX9_settleWills_52 ?_
      refine g_ic0 dX9_settleWills_55 ?_
      refine g_iload_n dX9_settleWills_56 rfl ?_
      obtain ⟨μ9, eμ9, h⟩ := g_let h
      refine m_iastc 0 rfl rfl (by decide) (by decide) dX9_settleWills_57 eμ9 ?_
      refine g_aload_n dX9_settleWills_58 rfl ?_
      refine m_getR fl_X9_49 rfl rfl rfl dX9_settleWills_59 ?_
      refine g_iload_n dX9_settleWills_62 rfl ?_
      refine g_bipush (v := 6) dX9_settleWills_63 (by decide) ?_
      refine g_imul dX9_settleWills_65 ?_
      refine g_iload_n dX9_settleWills_66 rfl ?_
      refine g_iadd dX9_settleWills_67 ?_
      refine g_aload_n dX9_settleWills_68 rfl ?_
      refine m_getR fl_X9_66 rfl rfl rfl dX9_settleWills_69 ?_
      refine g_aload_n dX9_settleWills_72 rfl ?_
      refine m_getR fl_X9_33 rfl rfl rfl dX9_settleWills_73 ?_
      refine g_iload_n dX9_settleWills_76 rfl ?_
      obtain ⟨x10, qx10, h⟩ := g_bind h
      refine m_iald rfl qx10 dX9_settleWills_77 ?_
      refine g_aload_n dX9_settleWills_78 rfl ?_
      refine m_getR fl_X9_57 rfl rfl rfl dX9_settleWills_79 ?_
      obtain ⟨x11, q12, h⟩ := g_bind h
      refine m_cV mt_X7_tellsOf ml_X9_122 mv_X7_tellsOf dX9_settleWills_82 (k_X7_tellsOf_16 hR q12) rfl hR.1 rfl rfl (by decide) ⟨Nat.le_refl _, Nat.le_refl _⟩ (Nat.le_of_ble_eq_true rfl) ?_
      obtain ⟨μ13, qμ13, h⟩ := g_bind h
      refine m_iast rfl qμ13 dX9_settleWills_85 ?_
      refine g_iinc_2 (v := 1) rfl (by decide) (Nat.le_of_ble_eq_true rfl) dX9_settleWills_86 ?_
      refine g_goto 45 (by decide) dX9_settleWills_89 ?_
      exact g_less _ (g_subS (g_subS (g_subS g_sub0))) (ih _ _ _ _ h hc)
set_option maxRecDepth 100000 in
set_option maxHeartbeats 4000000 in
theorem k_X9_settleWills {D : va_G} {cA : Nat → ClassId} {b b2 k : Nat} {dyn : Nat → Nat} {t s : Nat} {L : Nat} {N : Nat} (hR : g_RO (g_XX D cA b b2 dyn) k (g_rfX t s) t L) {a1 : Int32} {μ : g_M} {z : g_M} (h : f_X9_settleWills N t L a1 μ = some z) : g_K (g_XX D cA b b2 dyn) yX9_settleWills Y_X9_settleWills 5 0 0 k [.ref 1, .int a1] (μ, (g_rfX t s)) (fun r1 σ1 => r1 = none ∧ σ1 = (z, (g_rfX t s))) := by
  unfold f_X9_settleWills at h
  refine g_met 1 (by decide) rfl rfl (Nat.le_of_ble_eq_true rfl) ?_
  refine g_aload_n dX9_settleWills_0 rfl ?_
  refine m_getR fl_X9_57 rfl rfl rfl dX9_settleWills_1 ?_
  refine g_ic1 dX9_settleWills_4 ?_
  refine g_aload_n dX9_settleWills_5 rfl ?_
  refine m_getR fl_X9_37 rfl rfl rfl dX9_settleWills_6 ?_
  refine g_iload_n dX9_settleWills_9 rfl ?_
  obtain ⟨x1, qx1, h⟩ := g_bind h
  refine m_iald rfl qx1 dX9_settleWills_10 ?_
  obtain ⟨μ2, eμ2, h⟩ := g_let h
  refine m_iastc 1 rfl rfl (by decide) (by decide) dX9_settleWills_11 eμ2 ?_
  refine g_aload_n dX9_settleWills_12 rfl ?_
  refine m_getR fl_X9_57 rfl rfl rfl dX9_settleWills_13 ?_
  refine g_ic2 dX9_settleWills_16 ?_
  refine g_aload_n dX9_settleWills_17 rfl ?_
  refine m_getR fl_X9_40 rfl rfl rfl dX9_settleWills_18 ?_
  refine g_iload_n dX9_settleWills_21 rfl ?_
  obtain ⟨x3, qx3, h⟩ := g_bind h
  refine m_iald rfl qx3 dX9_settleWills_22 ?_
  obtain ⟨μ4, eμ4, h⟩ := g_let h
  refine m_iastc 2 rfl rfl (by decide) (by decide) dX9_settleWills_23 eμ4 ?_
  refine g_aload_n dX9_settleWills_24 rfl ?_
  refine m_getR fl_X9_57 rfl rfl rfl dX9_settleWills_25 ?_
  refine g_ic3 dX9_settleWills_28 ?_
  refine g_aload_n dX9_settleWills_29 rfl ?_
  refine m_getR fl_X9_43 rfl rfl rfl dX9_settleWills_30 ?_
  refine g_iload_n dX9_settleWills_33 rfl ?_
  obtain ⟨x5, qx5, h⟩ := g_bind h
  refine m_iald rfl qx5 dX9_settleWills_34 ?_
  obtain ⟨μ6, eμ6, h⟩ := g_let h
  refine m_iastc 3 rfl rfl (by decide) (by decide) dX9_settleWills_35 eμ6 ?_
  refine g_aload_n dX9_settleWills_36 rfl ?_
  refine m_getR fl_X9_57 rfl rfl rfl dX9_settleWills_37 ?_
  refine g_ic4 dX9_settleWills_40 ?_
  refine g_iload_n dX9_settleWills_41 rfl ?_
  obtain ⟨μ7, eμ7, h⟩ := g_let h
  refine m_iastc 4 rfl rfl (by decide) (by decide) dX9_settleWills_42 eμ7 ?_
  refine g_ic0 dX9_settleWills_43 ?_
  refine g_istore_2 rfl (Nat.le_of_ble_eq_true rfl) dX9_settleWills_44 ?_
  obtain ⟨μ8, q9, h⟩ := g_bind h
  refine g_less _ (g_subS (g_subS (g_subS g_sub0))) (k_X9_settleWills_L45 hR _ _ _ _ _ q9 ?_)
  obtain rfl := Option.some.inj h
  exact g_vret rfl (Nat.le_refl _) rfl dX9_settleWills_92 ⟨rfl, rfl⟩
set_option maxRecDepth 100000 in
set_option maxHeartbeats 4000000 in
theorem k_X9_settle_L2 {D : va_G} {cA : Nat → ClassId} {b b2 k : Nat} {dyn : Nat → Nat} {t s : Nat} {L : Nat} {Q : Option Value → g_S → Prop} {N : Nat} (hR : g_RO (g_XX D cA b b2 dyn) k (g_rfX t s) t L) : ∀ (n : Nat) (x_1 : Int32) (x_2 : Int32) (μ : g_M) (z_μ : g_M), f_X9_settle_L2 N t L n x_1 x_2 μ = some z_μ → g_V (g_XX D cA b b2 dyn) Y_X9_settle 6 0 0 Q k 0 0 33 [some (.ref 1), some (.int x_1), none] [] (z_μ, (g_rfX t s)) → g_V (g_XX D cA b b2 dyn) Y_X9_settle 6 0 0 Q k 0 0 2 [some (.ref 1), some (.int x_1), some (.int x_2)] [] (μ, (g_rfX t s)) := by
  intro n
  induction n with
  | zero =>
    intro x_1 x_2 μ z_μ h
    rw [f_X9_settle_L2] at h
    cases h
  | succ n ih =>
    intro x_1 x_2 μ z_μ h hc
    rw [f_X9_settle_L2] at h
    refine g_iload_n dX9_settle_2 rfl ?_
    refine g_aload_n dX9_settle_3 rfl ?_
    refine m_getI fl_X9_83 rfl rfl dX9_settle_4 ?_
    refine g_icmp_ge 33 (by decide) dX9_settle_7 (fun c1 => ?_) (fun c1 => ?_)
    · have h := g_ifp c1 h
      obtain rfl := Option.some.inj h
      exact g_less _ (g_subS (g_subS (g_subN g_sub0))) hc
    · have h := g_ifn c1 h
      refine g_iload_n dX9_settle_10 rfl ?_
      refine g_iload_n dX9_settle_11 rfl ?_
      refine g_icmp_eq 27 (by decide) dX9_settle_12 (fun c2 => ?_) (fun c2 => ?_)
      · have h := g_ifp c2 h
        refine g_iinc_2 (v := 1) rfl (by decide) (Nat.le_of_ble_eq_true rfl) dX9_settle_27 ?_
        refine g_goto 2 (by decide) dX9_settle_30 ?_
        exact g_less _ (g_subS (g_subS (g_subS g_sub0))) (ih _ _ _ _ h hc)
      · have h := g_ifn c2 h
        refine g_aload_n dX9_settle_15 rfl ?_
        refine g_iload_n dX9_settle_16 rfl ?_
        refine g_iload_n dX9_settle_17 rfl ?_
        obtain ⟨μ5, q4, h⟩ := g_bind h
        refine m_cVv mt_X9_settleWish ml_X9_108 mv_X9_settleWish dX9_settle_18 (k_X9_settleWish q4) rfl rfl rfl rfl (by decide) ⟨Nat.le_refl _, Nat.le_refl _⟩ (Nat.le_of_ble_eq_true rfl) ?_
        refine g_aload_n dX9_settle_21 rfl ?_
        refine g_iload_n dX9_settle_22 rfl ?_
        refine g_iload_n dX9_settle_23 rfl ?_
        obtain ⟨μ8, q7, h⟩ := g_bind h
        refine m_cVv mt_X9_settleWish ml_X9_108 mv_X9_settleWish dX9_settle_24 (k_X9_settleWish q7) rfl rfl rfl rfl (by decide) ⟨Nat.le_refl _, Nat.le_refl _⟩ (Nat.le_of_ble_eq_true rfl) ?_
        refine g_iinc_2 (v := 1) rfl (by decide) (Nat.le_of_ble_eq_true rfl) dX9_settle_27 ?_
        refine g_goto 2 (by decide) dX9_settle_30 ?_
        exact g_less _ (g_subS (g_subS (g_subS g_sub0))) (ih _ _ _ _ h hc)
set_option maxRecDepth 100000 in
set_option maxHeartbeats 4000000 in
theorem k_X9_settle {D : va_G} {cA : Nat → ClassId} {b b2 k : Nat} {dyn : Nat → Nat} {t s : Nat} {L : Nat} {N : Nat} (hR : g_RO (g_XX D cA b b2 dyn) k (g_rfX t s) t L) {a1 : Int32} {μ : g_M} {z : g_M} (h : f_X9_settle N t L a1 μ = some z) : g_K (g_XX D cA b b2 dyn) yX9_settle Y_X9_settle 6 0 0 k [.ref 1, .int a1] (μ, (g_rfX t s)) (fun r1 σ1 => r1 = none ∧ σ1 = (z, (g_rfX t s))) := by
  unfold f_X9_settle at h
  refine g_met 1 (by decide) rfl rfl (Nat.le_of_ble_eq_true rfl) ?_
  refine g_ic0 dX9_settle_0 ?_
  refine g_istore_2 rfl (Nat.le_of_ble_eq_true rfl) dX9_settle_1 ?_
  obtain ⟨μ1, q2, h⟩ := g_bind h
  refine g_less _ (g_subS (g_subS (g_subS g_sub0))) (k_X9_settle_L2 hR _ _ _ _ _ q2 ?_)
  refine g_aload_n dX9_settle_33 rfl ?_
  refine g_iload_n dX9_settle_34 rfl ?_
  obtain ⟨μ5, q4, h⟩ := g_bind h
  refine m_cVv mt_X9_settleWills ml_X9_105 mv_X9_settleWills dX9_settle_35 (k_X9_settleWills hR q4) rfl rfl rfl rfl (by decide) ⟨Nat.le_refl _, Nat.le_refl _⟩ (Nat.le_of_ble_eq_true rfl) ?_
  obtain rfl := Option.some.inj h
  exact g_vret rfl (Nat.le_refl _) rfl dX9_settle_38 ⟨rfl, rfl⟩
set_option maxRecDepth 100000 in
set_option maxHeartbeats 4000000 in
theorem k_X9_addOven {D : va_G} {cA : Nat → ClassId} {b b2 k : Nat} {dyn : Nat → Nat} {t s : Nat} {L : Nat} {N : Nat} (hR : g_RO (g_XX D cA b b2 dyn) k (g_rfX t s) t L) {a1 : Int32} {a2 : Int32} {a3 : Int32} {a4 : Int32} {μ : g_M} {z : Int32 × g_M} (h : f_X9_addOven N t L a1 a2 a3 a4 μ = some z) : g_K (g_XX D cA b b2 dyn) yX9_addOven Y_X9_addOven 7 0 0 k [.ref 1, .int a1, .int a2, .int a3, .int a4] (μ, (g_rfX t s)) (fun r1 σ1 => r1 = some (.int z.1) ∧ σ1 = (z.2, (g_rfX t s))) := by
  unfold f_X9_addOven at h
  refine g_met 1 (by decide) rfl rfl (Nat.le_of_ble_eq_true rfl) ?_
  refine g_aload_n dX9_addOven_0 rfl ?_
  refine m_getI fl_X9_83 rfl rfl dX9_addOven_1 ?_
  refine g_istore_5 rfl (Nat.le_of_ble_eq_true rfl) dX9_addOven_4 ?_
  refine g_aload_n dX9_addOven_6 rfl ?_
  refine m_getR fl_X9_33 rfl rfl rfl dX9_addOven_7 ?_
  refine g_iload dX9_addOven_10 rfl ?_
  refine g_iload_n dX9_addOven_12 rfl ?_
  obtain ⟨μ1, qμ1, h⟩ := g_bind h
  refine m_iast rfl qμ1 dX9_addOven_13 ?_
  refine g_aload_n dX9_addOven_14 rfl ?_
  refine m_getR fl_X9_37 rfl rfl rfl dX9_addOven_15 ?_
  refine g_iload dX9_addOven_18 rfl ?_
  refine g_iload_n dX9_addOven_20 rfl ?_
  obtain ⟨μ2, qμ2, h⟩ := g_bind h
  refine m_iast rfl qμ2 dX9_addOven_21 ?_
  refine g_aload_n dX9_addOven_22 rfl ?_
  refine m_getR fl_X9_40 rfl rfl rfl dX9_addOven_23 ?_
  refine g_iload dX9_addOven_26 rfl ?_
  refine g_iload_n dX9_addOven_28 rfl ?_
  obtain ⟨μ3, qμ3, h⟩ := g_bind h
  refine m_iast rfl qμ3 dX9_addOven_29 ?_
  refine g_aload_n dX9_addOven_30 rfl ?_
  refine m_getR fl_X9_43 rfl rfl rfl dX9_addOven_31 ?_
  refine g_iload dX9_addOven_34 rfl ?_
  refine g_iload dX9_addOven_36 rfl ?_
  obtain ⟨μ4, qμ4, h⟩ := g_bind h
  refine m_iast rfl qμ4 dX9_addOven_38 ?_
  refine g_aload_n dX9_addOven_39 rfl ?_
  refine g_dup dX9_addOven_40 rfl ?_
  refine m_getI fl_X9_83 rfl rfl dX9_addOven_41 ?_
  refine g_ic1 dX9_addOven_44 ?_
  refine g_iadd dX9_addOven_45 ?_
  obtain ⟨μ5, eμ5, h⟩ := g_let h
  refine m_putI fl_X9_83 fw_9_11 rfl rfl rfl rfl dX9_addOven_46 eμ5 ?_
  refine g_aload_n dX9_addOven_49 rfl ?_
  refine g_iload dX9_addOven_50 rfl ?_
  obtain ⟨μ8, q7, h⟩ := g_bind h
  refine m_cVv mt_X9_settle ml_X9_98 mv_X9_settle dX9_addOven_52 (k_X9_settle hR q7) rfl rfl rfl rfl (by decide) ⟨Nat.le_refl _, Nat.le_refl _⟩ (Nat.le_of_ble_eq_true rfl) ?_
  refine g_iload dX9_addOven_55 rfl ?_
  obtain rfl := Option.some.inj h
  exact g_iret rfl (Nat.le_refl _) rfl dX9_addOven_57 ⟨rfl, rfl⟩
set_option maxRecDepth 100000 in
set_option maxHeartbeats 4000000 in
theorem k_X11_oven {D : va_G} {cA : Nat → ClassId} {b b2 k : Nat} {dyn : Nat → Nat} {t s : Nat} {L : Nat} {N : Nat} (hR : g_RO (g_XX D cA b b2 dyn) k (g_rfX t s) t L) {a1 : Int32} {a2 : Int32} {a3 : Int32} {a4 : Int32} {μ : g_M} {z : Int32 × g_M} (h : f_X11_oven N t L a1 a2 a3 a4 μ = some z) : g_K (g_XX D cA b b2 dyn) yX11_oven Y_X11_oven 8 0 0 k [.ref 0, .int a1, .int a2, .int a3, .int a4] (μ, (g_rfX t s)) (fun r1 σ1 => r1 = some (.int z.1) ∧ σ1 = (z.2, (g_rfX t s))) := by
  unfold f_X11_oven at h
  refine g_met 0 (by decide) rfl rfl (Nat.le_of_ble_eq_true rfl) ?_
  refine g_iload_n dX11_oven_0 rfl ?_
  refine m_cS mt_X11_isKind ml_X11_57 ms_X11_isKind dX11_oven_1 (k_X11_isKind rfl) rfl rfl (by decide) ⟨Nat.le_refl _, Nat.le_refl _⟩ (Nat.le_of_ble_eq_true rfl) ?_
  refine g_if_eq 29 (by decide) dX11_oven_4 (fun c1 => ?_) (fun c1 => ?_)
  · have h := g_ifp c1 h
    refine g_icm1 dX11_oven_29 ?_
    obtain rfl := Option.some.inj h
    exact g_iret rfl (Nat.le_refl _) rfl dX11_oven_30 ⟨rfl, rfl⟩
  · have h := g_ifn c1 h
    refine g_iload_n dX11_oven_7 rfl ?_
    refine m_cS mt_X11_isWarm ml_X11_61 ms_X11_isWarm dX11_oven_8 (k_X11_isWarm rfl) rfl rfl (by decide) ⟨Nat.le_refl _, Nat.le_refl _⟩ (Nat.le_of_ble_eq_true rfl) ?_
    refine g_if_eq 29 (by decide) dX11_oven_11 (fun c2 => ?_) (fun c2 => ?_)
    · have h := g_ifp c2 h
      refine g_icm1 dX11_oven_29 ?_
      obtain rfl := Option.some.inj h
      exact g_iret rfl (Nat.le_refl _) rfl dX11_oven_30 ⟨rfl, rfl⟩
    · have h := g_ifn c2 h
      refine g_iload_n dX11_oven_14 rfl ?_
      refine m_cS mt_X11_isPlace ml_X11_64 ms_X11_isPlace dX11_oven_15 (k_X11_isPlace rfl) rfl rfl (by decide) ⟨Nat.le_refl _, Nat.le_refl _⟩ (Nat.le_of_ble_eq_true rfl) ?_
      refine g_if_eq 29 (by decide) dX11_oven_18 (fun c3 => ?_) (fun c3 => ?_)
      · have h := g_ifp c3 h
        refine g_icm1 dX11_oven_29 ?_
        obtain rfl := Option.some.inj h
        exact g_iret rfl (Nat.le_refl _) rfl dX11_oven_30 ⟨rfl, rfl⟩
      · have h := g_ifn c3 h
        refine g_iload dX11_oven_21 rfl ?_
        refine m_cS mt_X11_isFire ml_X11_67 ms_X11_isFire dX11_oven_23 (k_X11_isFire rfl) rfl rfl (by decide) ⟨Nat.le_refl _, Nat.le_refl _⟩ (Nat.le_of_ble_eq_true rfl) ?_
        refine g_if_ne 31 (by decide) dX11_oven_26 (fun c4 => ?_) (fun c4 => ?_)
        · have h := g_ifn c4 h
          refine g_aload_n dX11_oven_31 rfl ?_
          refine m_getR fl_X11_10 rfl rfl rfl dX11_oven_32 ?_
          refine m_getI fl_X11_70 rfl rfl dX11_oven_35 ?_
          refine g_bipush (v := 6) dX11_oven_38 (by decide) ?_
          refine g_icmp_lt 46 (by decide) dX11_oven_40 (fun c5 => ?_) (fun c5 => ?_)
          · have h := g_ifp c5 h
            refine g_aload_n dX11_oven_46 rfl ?_
            refine m_getR fl_X11_10 rfl rfl rfl dX11_oven_47 ?_
            refine g_iload_n dX11_oven_50 rfl ?_
            refine g_iload_n dX11_oven_51 rfl ?_
            refine g_iload_n dX11_oven_52 rfl ?_
            refine g_iload dX11_oven_53 rfl ?_
            obtain ⟨⟨x6, μ8⟩, q7, h⟩ := g_bind h
            refine m_cV mt_X9_addOven ml_X11_74 mv_X9_addOven dX11_oven_55 (k_X9_addOven hR q7) rfl rfl rfl rfl (by decide) ⟨Nat.le_refl _, Nat.le_refl _⟩ (Nat.le_of_ble_eq_true rfl) ?_
            obtain rfl := Option.some.inj h
            exact g_iret rfl (Nat.le_refl _) rfl dX11_oven_58 ⟨rfl, rfl⟩
          · have h := g_ifn c5 h
            refine g_bipush (v := (-2)) dX11_oven_43 (by decide) ?_
            obtain rfl := Option.some.inj h
            exact g_iret rfl (Nat.le_refl _) rfl dX11_oven_45 ⟨rfl, rfl⟩
        · have h := g_ifp c4 h
          refine g_icm1 dX11_oven_29 ?_
          obtain rfl := Option.some.inj h
          exact g_iret rfl (Nat.le_refl _) rfl dX11_oven_30 ⟨rfl, rfl⟩
set_option maxRecDepth 100000 in
set_option maxHeartbeats 4000000 in
theorem k_X11_isOven {D : va_G} {cA : Nat → ClassId} {b b2 k : Nat} {dyn : Nat → Nat} {t s : Nat} {a1 : Int32} {μ : g_M} {z : Int32} (h : f_X11_isOven a1 μ = z) : g_K (g_XX D cA b b2 dyn) yX11_isOven Y_X11_isOven 2 0 0 k [.ref 0, .int a1] (μ, (g_rfX t s)) (fun r1 σ1 => r1 = some (.int z) ∧ σ1 = (μ, (g_rfX t s))) := by
  unfold f_X11_isOven at h
  refine g_met 0 (by decide) rfl rfl (Nat.le_of_ble_eq_true rfl) ?_
  refine g_iload_n dX11_isOven_0 rfl ?_
  refine g_ic0 dX11_isOven_1 ?_
  refine g_aload_n dX11_isOven_2 rfl ?_
  refine m_getR fl_X11_10 rfl rfl rfl dX11_isOven_3 ?_
  refine m_getI fl_X11_70 rfl rfl dX11_isOven_6 ?_
  refine g_ic1 dX11_isOven_9 ?_
  refine g_isub dX11_isOven_10 ?_
  refine m_cS mt_X11_isBetween ml_X11_120 ms_X11_isBetween dX11_isOven_11 (k_X11_isBetween rfl) rfl rfl (by decide) ⟨Nat.le_refl _, Nat.le_refl _⟩ (Nat.le_of_ble_eq_true rfl) ?_
  subst h
  exact g_zret rfl (Nat.le_refl _) rfl (zb_X11_isBetween a1 0 ((μ 1 11) - 1)) dX11_isOven_14 ⟨rfl, rfl⟩
set_option maxRecDepth 100000 in
set_option maxHeartbeats 4000000 in
theorem zb_X11_isOven (a1 : Int32) (μ : g_M) : narrow .boolean (.int (f_X11_isOven a1 μ)) = .int (f_X11_isOven a1 μ) := by
  unfold f_X11_isOven
  repeat' split
  all_goals first | rfl | apply zb_X11_isBetween
set_option maxRecDepth 100000 in
set_option maxHeartbeats 4000000 in
theorem k_X9_awayOf {D : va_G} {cA : Nat → ClassId} {b b2 k : Nat} {dyn : Nat → Nat} {t s : Nat} {a1 : Int32} {a2 : Int32} {μ : g_M} {z : Int32} (h : f_X9_awayOf a1 a2 = z) : g_K (g_XX D cA b b2 dyn) yX9_awayOf Y_X9_awayOf 1 0 0 k [.ref 1, .int a1, .int a2] (μ, (g_rfX t s)) (fun r1 σ1 => r1 = some (.int z) ∧ σ1 = (μ, (g_rfX t s))) := by
  unfold f_X9_awayOf at h
  refine g_met 0 (by decide) rfl rfl (Nat.le_of_ble_eq_true rfl) ?_
  refine g_iload_n dX9_awayOf_0 rfl ?_
  refine g_ic4 dX9_awayOf_1 ?_
  refine g_iload_n dX9_awayOf_2 rfl ?_
  refine g_imul dX9_awayOf_3 ?_
  refine g_iushr dX9_awayOf_4 ?_
  refine g_bipush (v := 15) dX9_awayOf_5 (by decide) ?_
  refine g_iand dX9_awayOf_7 ?_
  subst h
  exact g_iret rfl (Nat.le_refl _) rfl dX9_awayOf_8 ⟨rfl, rfl⟩
set_option maxRecDepth 100000 in
set_option maxHeartbeats 4000000 in
theorem k_X9_homeSet_L4 {D : va_G} {cA : Nat → ClassId} {b b2 k : Nat} {dyn : Nat → Nat} {t s : Nat} {Q : Option Value → g_S → Prop} {N : Nat} : ∀ (n : Nat) (x_1 : Int32) (x_2 : Int32) (x_3 : Int32) (μ : g_M) (z_2 : Int32), f_X9_homeSet_L4 N n x_1 x_2 x_3 μ = some z_2 → g_V (g_XX D cA b b2 dyn) Y_X9_homeSet 2 0 0 Q k 0 0 33 [none, none, some (.int z_2), none] [] (μ, (g_rfX t s)) → g_V (g_XX D cA b b2 dyn) Y_X9_homeSet 2 0 0 Q k 0 0 4 [some (.ref 1), some (.int x_1), some (.int x_2), some (.int x_3)] [] (μ, (g_rfX t s)) := by
  intro n
  induction n with
  | zero =>
    intro x_1 x_2 x_3 μ z_2 h
    rw [f_X9_homeSet_L4] at h
    cases h
  | succ n ih =>
    intro x_1 x_2 x_3 μ z_2 h hc
    rw [f_X9_homeSet_L4] at h
    refine g_iload_n dX9_homeSet_4 rfl ?_
    refine g_aload_n dX9_homeSet_5 rfl ?_
    refine m_getI fl_X9_83 rfl rfl dX9_homeSet_6 ?_
    refine g_icmp_ge 33 (by decide) dX9_homeSet_9 (fun c1 => ?_) (fun c1 => ?_)
    · have h := g_ifp c1 h
      obtain rfl := Option.some.inj h
      exact g_less _ (g_subN (g_subN (g_subS (g_subN g_sub0)))) hc
    · have h := g_ifn c1 h
      refine g_aload_n dX9_homeSet_12 rfl ?_
      refine g_iload_n dX9_homeSet_13 rfl ?_
      refine g_iload_n dX9_homeSet_14 rfl ?_
      refine m_cV mt_X9_awayOf ml_X9_101 mv_X9_awayOf dX9_homeSet_15 (k_X9_awayOf rfl) rfl rfl rfl rfl (by decide) ⟨Nat.le_refl _, Nat.le_refl _⟩ (Nat.le_of_ble_eq_true rfl) ?_
      refine g_if_ne 27 (by decide) dX9_homeSet_18 (fun c2 => ?_) (fun c2 => ?_)
      · have h := g_ifn c2 h
        refine g_iinc_3 (v := 1) rfl (by decide) (Nat.le_of_ble_eq_true rfl) dX9_homeSet_27 ?_
        refine g_goto 4 (by decide) dX9_homeSet_30 ?_
        exact g_less _ (g_subS (g_subS (g_subS (g_subS g_sub0)))) (ih _ _ _ _ _ h hc)
      · have h := g_ifp c2 h
        refine g_iload_n dX9_homeSet_21 rfl ?_
        refine g_ic1 dX9_homeSet_22 ?_
        refine g_iload_n dX9_homeSet_23 rfl ?_
        refine g_ishl dX9_homeSet_24 ?_
        refine g_ior dX9_homeSet_25 ?_
        obtain ⟨x3, ex3, h⟩ := g_let h
        refine g_top ex3 ?_
        refine g_istore_2 rfl (Nat.le_of_ble_eq_true rfl) dX9_homeSet_26 ?_
        refine g_iinc_3 (v := 1) rfl (by decide) (Nat.le_of_ble_eq_true rfl) dX9_homeSet_27 ?_
        refine g_goto 4 (by decide) dX9_homeSet_30 ?_
        exact g_less _ (g_subS (g_subS (g_subS (g_subS g_sub0)))) (ih _ _ _ _ _ h hc)
set_option maxRecDepth 100000 in
set_option maxHeartbeats 4000000 in
theorem k_X9_homeSet {D : va_G} {cA : Nat → ClassId} {b b2 k : Nat} {dyn : Nat → Nat} {t s : Nat} {N : Nat} {a1 : Int32} {μ : g_M} {z : Int32} (h : f_X9_homeSet N a1 μ = some z) : g_K (g_XX D cA b b2 dyn) yX9_homeSet Y_X9_homeSet 2 0 0 k [.ref 1, .int a1] (μ, (g_rfX t s)) (fun r1 σ1 => r1 = some (.int z) ∧ σ1 = (μ, (g_rfX t s))) := by
  unfold f_X9_homeSet at h
  refine g_met 2 (by decide) rfl rfl (Nat.le_of_ble_eq_true rfl) ?_
  refine g_ic0 dX9_homeSet_0 ?_
  refine g_istore_2 rfl (Nat.le_of_ble_eq_true rfl) dX9_homeSet_1 ?_
  refine g_ic0 dX9_homeSet_2 ?_
  refine g_istore_3 rfl (Nat.le_of_ble_eq_true rfl) dX9_homeSet_3 ?_
  obtain ⟨x1, q2, h⟩ := g_bind h
  refine g_less _ (g_subS (g_subS (g_subS (g_subS g_sub0)))) (k_X9_homeSet_L4 _ _ _ _ _ _ q2 ?_)
  refine g_iload_n dX9_homeSet_33 rfl ?_
  obtain rfl := Option.some.inj h
  exact g_iret rfl (Nat.le_refl _) rfl dX9_homeSet_34 ⟨rfl, rfl⟩
set_option maxRecDepth 100000 in
set_option maxHeartbeats 4000000 in
theorem k_X9_willOf {D : va_G} {cA : Nat → ClassId} {b b2 k : Nat} {dyn : Nat → Nat} {t s : Nat} {a1 : Int32} {a2 : Int32} {μ : g_M} {z : Int32} (h : f_X9_willOf a1 a2 μ = some z) : g_K (g_XX D cA b b2 dyn) yX9_willOf Y_X9_willOf 1 0 0 k [.ref 1, .int a1, .int a2] (μ, (g_rfX t s)) (fun r1 σ1 => r1 = some (.int z) ∧ σ1 = (μ, (g_rfX t s))) := by
  unfold f_X9_willOf at h
  refine g_met 0 (by decide) rfl rfl (Nat.le_of_ble_eq_true rfl) ?_
  refine g_aload_n dX9_willOf_0 rfl ?_
  refine m_getR fl_X9_49 rfl rfl rfl dX9_willOf_1 ?_
  refine g_iload_n dX9_willOf_4 rfl ?_
  refine g_bipush (v := 6) dX9_willOf_5 (by decide) ?_
  refine g_imul dX9_willOf_7 ?_
  refine g_iload_n dX9_willOf_8 rfl ?_
  refine g_iadd dX9_willOf_9 ?_
  obtain ⟨x1, qx1, h⟩ := g_bind h
  refine m_iald rfl qx1 dX9_willOf_10 ?_
  obtain rfl := Option.some.inj h
  exact g_iret rfl (Nat.le_refl _) rfl dX9_willOf_11 ⟨rfl, rfl⟩
set_option maxRecDepth 100000 in
set_option maxHeartbeats 4000000 in
theorem k_X9_freeSet_L14 {D : va_G} {cA : Nat → ClassId} {b b2 k : Nat} {dyn : Nat → Nat} {t s : Nat} {Q : Option Value → g_S → Prop} {N : Nat} : ∀ (n : Nat) (x_2 : Int32) (x_4 : Int32) (x_5 : Int32) (μ : g_M) (z_4 : Int32), f_X9_freeSet_L14 N n x_2 x_4 x_5 μ = some z_4 → g_V (g_XX D cA b b2 dyn) Y_X9_freeSet 3 0 0 Q k 0 0 51 [none, none, none, none, some (.int z_4), none] [] (μ, (g_rfX t s)) → g_V (g_XX D cA b b2 dyn) Y_X9_freeSet 3 0 0 Q k 0 0 14 [some (.ref 1), none, some (.int x_2), none, some (.int x_4), some (.int x_5)] [] (μ, (g_rfX t s)) := by
  intro n
  induction n with
  | zero =>
    intro x_2 x_4 x_5 μ z_4 h
    rw [f_X9_freeSet_L14] at h
    cases h
  | succ n ih =>
    intro x_2 x_4 x_5 μ z_4 h hc
    rw [f_X9_freeSet_L14] at h
    refine g_iload dX9_freeSet_14 rfl ?_
    refine g_aload_n dX9_freeSet_16 rfl ?_
    refine m_getI fl_X9_83 rfl rfl dX9_freeSet_17 ?_
    refine g_icmp_ge 51 (by decide) dX9_freeSet_20 (fun c4 => ?_) (fun c4 => ?_)
    · have h := g_ifp c4 h
      obtain rfl := Option.some.inj h
      exact g_less _ (g_subN (g_subN (g_subN (g_subN (g_subS (g_subN g_sub0)))))) hc
    · have h := g_ifn c4 h
      refine g_aload_n dX9_freeSet_23 rfl ?_
      refine g_iload dX9_freeSet_24 rfl ?_
      refine g_iload_n dX9_freeSet_26 rfl ?_
      obtain ⟨x5, q6, h⟩ := g_bind h
      refine m_cV mt_X9_willOf ml_X9_141 mv_X9_willOf dX9_freeSet_27 (k_X9_willOf q6) rfl rfl rfl rfl (by decide) ⟨Nat.le_refl _, Nat.le_refl _⟩ (Nat.le_of_ble_eq_true rfl) ?_
      refine g_ic1 dX9_freeSet_30 ?_
      refine g_icmp_ne 45 (by decide) dX9_freeSet_31 (fun c7 => ?_) (fun c7 => ?_)
      · have h := g_ifn c7 h
        refine g_iinc_5 (v := 1) rfl (by decide) (Nat.le_of_ble_eq_true rfl) dX9_freeSet_45 ?_
        refine g_goto 14 (by decide) dX9_freeSet_48 ?_
        exact g_less _ (g_subS (g_subN (g_subS (g_subN (g_subS (g_subS g_sub0)))))) (ih _ _ _ _ _ h hc)
      · have h := g_ifp c7 h
        refine g_iload dX9_freeSet_34 rfl ?_
        refine g_ic1 dX9_freeSet_36 ?_
        refine g_iload dX9_freeSet_37 rfl ?_
        refine g_ishl dX9_freeSet_39 ?_
        refine g_icm1 dX9_freeSet_40 ?_
        refine g_ixor dX9_freeSet_41 ?_
        refine g_iand dX9_freeSet_42 ?_
        obtain ⟨x8, ex8, h⟩ := g_let h
        refine g_top ex8 ?_
        refine g_istore_4 rfl (Nat.le_of_ble_eq_true rfl) dX9_freeSet_43 ?_
        refine g_iinc_5 (v := 1) rfl (by decide) (Nat.le_of_ble_eq_true rfl) dX9_freeSet_45 ?_
        refine g_goto 14 (by decide) dX9_freeSet_48 ?_
        exact g_less _ (g_subS (g_subN (g_subS (g_subN (g_subS (g_subS g_sub0)))))) (ih _ _ _ _ _ h hc)
set_option maxRecDepth 100000 in
set_option maxHeartbeats 4000000 in
theorem k_X9_freeSet {D : va_G} {cA : Nat → ClassId} {b b2 k : Nat} {dyn : Nat → Nat} {t s : Nat} {N : Nat} {a1 : Int32} {a2 : Int32} {a3 : Int32} {μ : g_M} {z : Int32} (h : f_X9_freeSet N a1 a2 a3 μ = some z) : g_K (g_XX D cA b b2 dyn) yX9_freeSet Y_X9_freeSet 3 0 0 k [.ref 1, .int a1, .int a2, .int a3] (μ, (g_rfX t s)) (fun r1 σ1 => r1 = some (.int z) ∧ σ1 = (μ, (g_rfX t s))) := by
  unfold f_X9_freeSet at h
  refine g_met 2 (by decide) rfl rfl (Nat.le_of_ble_eq_true rfl) ?_
  refine g_aload_n dX9_freeSet_0 rfl ?_
  refine g_iload_n dX9_freeSet_1 rfl ?_
  obtain ⟨x1, q2, h⟩ := g_bind h
  refine m_cV mt_X9_homeSet ml_X9_138 mv_X9_homeSet dX9_freeSet_2 (k_X9_homeSet q2) rfl rfl rfl rfl (by decide) ⟨Nat.le_refl _, Nat.le_refl _⟩ (Nat.le_of_ble_eq_true rfl) ?_
  refine g_iload_n dX9_freeSet_5 rfl ?_
  refine g_icm1 dX9_freeSet_6 ?_
  refine g_ixor dX9_freeSet_7 ?_
  refine g_iand dX9_freeSet_8 ?_
  obtain ⟨x3, ex3, h⟩ := g_let h
  refine g_top ex3 ?_
  refine g_istore_4 rfl (Nat.le_of_ble_eq_true rfl) dX9_freeSet_9 ?_
  refine g_ic0 dX9_freeSet_11 ?_
  refine g_istore_5 rfl (Nat.le_of_ble_eq_true rfl) dX9_freeSet_12 ?_
  obtain ⟨x4, q5, h⟩ := g_bind h
  refine g_less _ (g_subS (g_subN (g_subS (g_subN (g_subS (g_subS g_sub0)))))) (k_X9_freeSet_L14 _ _ _ _ _ _ q5 ?_)
  refine g_iload dX9_freeSet_51 rfl ?_
  obtain rfl := Option.some.inj h
  exact g_iret rfl (Nat.le_refl _) rfl dX9_freeSet_53 ⟨rfl, rfl⟩
set_option maxRecDepth 100000 in
set_option maxHeartbeats 4000000 in
theorem k_X9_wishOf {D : va_G} {cA : Nat → ClassId} {b b2 k : Nat} {dyn : Nat → Nat} {t s : Nat} {a1 : Int32} {a2 : Int32} {μ : g_M} {z : Int32} (h : f_X9_wishOf a1 a2 μ = some z) : g_K (g_XX D cA b b2 dyn) yX9_wishOf Y_X9_wishOf 1 0 0 k [.ref 1, .int a1, .int a2] (μ, (g_rfX t s)) (fun r1 σ1 => r1 = some (.int z) ∧ σ1 = (μ, (g_rfX t s))) := by
  unfold f_X9_wishOf at h
  refine g_met 0 (by decide) rfl rfl (Nat.le_of_ble_eq_true rfl) ?_
  refine g_aload_n dX9_wishOf_0 rfl ?_
  refine m_getR fl_X9_46 rfl rfl rfl dX9_wishOf_1 ?_
  refine g_iload_n dX9_wishOf_4 rfl ?_
  refine g_bipush (v := 6) dX9_wishOf_5 (by decide) ?_
  refine g_imul dX9_wishOf_7 ?_
  refine g_iload_n dX9_wishOf_8 rfl ?_
  refine g_iadd dX9_wishOf_9 ?_
  obtain ⟨x1, qx1, h⟩ := g_bind h
  refine m_iald rfl qx1 dX9_wishOf_10 ?_
  obtain rfl := Option.some.inj h
  exact g_iret rfl (Nat.le_refl _) rfl dX9_wishOf_11 ⟨rfl, rfl⟩
set_option maxRecDepth 100000 in
set_option maxHeartbeats 4000000 in
theorem k_X9_choiceOf_L35 {D : va_G} {cA : Nat → ClassId} {b b2 k : Nat} {dyn : Nat → Nat} {t s : Nat} {Q : Option Value → g_S → Prop} {N : Nat} : ∀ (n : Nat) (x_1 : Int32) (x_2 : Int32) (x_4 : Int32) (x_5 : Int32) (x_6 : Int32) (μ : g_M) (z_4 : Int32), f_X9_choiceOf_L35 N n x_1 x_2 x_4 x_5 x_6 μ = some z_4 → g_V (g_XX D cA b b2 dyn) Y_X9_choiceOf 2 0 0 Q k 0 0 102 [none, none, none, none, some (.int z_4), none, none, none] [] (μ, (g_rfX t s)) → g_V (g_XX D cA b b2 dyn) Y_X9_choiceOf 2 0 0 Q k 0 0 35 [some (.ref 1), some (.int x_1), some (.int x_2), none, some (.int x_4), some (.int x_5), some (.int x_6), none] [] (μ, (g_rfX t s)) := by
  intro n
  induction n with
  | zero =>
    intro x_1 x_2 x_4 x_5 x_6 μ z_4 h
    rw [f_X9_choiceOf_L35] at h
    cases h
  | succ n ih =>
    intro x_1 x_2 x_4 x_5 x_6 μ z_4 h hc
    rw [f_X9_choiceOf_L35] at h
    refine g_iload dX9_choiceOf_35 rfl ?_
    refine g_aload_n dX9_choiceOf_37 rfl ?_
    refine m_getI fl_X9_83 rfl rfl dX9_choiceOf_38 ?_
    refine g_icmp_ge 102 (by decide) dX9_choiceOf_41 (fun c5 => ?_) (fun c5 => ?_)
    · have h := g_ifp c5 h
      obtain rfl := Option.some.inj h
      exact g_less _ (g_subN (g_subN (g_subN (g_subN (g_subS (g_subN (g_subN (g_subN g_sub0)))))))) hc
    · have h := g_ifn c5 h
      refine g_iload dX9_choiceOf_44 rfl ?_
      refine g_iload_n dX9_choiceOf_46 rfl ?_
      refine g_icmp_eq 63 (by decide) dX9_choiceOf_47 (fun c6 => ?_) (fun c6 => ?_)
      · have h := g_ifp c6 h
        refine g_ic0 dX9_choiceOf_63 ?_
        refine g_istore_7 rfl (Nat.le_of_ble_eq_true rfl) dX9_choiceOf_64 ?_
        refine g_iload dX9_choiceOf_66 rfl ?_
        refine g_if_eq 96 (by decide) dX9_choiceOf_68 (fun c9 => ?_) (fun cd => absurd (by decide) cd)
        refine g_iinc_6 (v := 1) rfl (by decide) (Nat.le_of_ble_eq_true rfl) dX9_choiceOf_96 ?_
        refine g_goto 35 (by decide) dX9_choiceOf_99 ?_
        exact g_less _ (g_subS (g_subS (g_subS (g_subN (g_subS (g_subS (g_subS (g_subN g_sub0)))))))) (ih _ _ _ _ _ _ _ h hc)
      · have h := g_ifn c6 h
        refine g_iload_n dX9_choiceOf_50 rfl ?_
        refine g_iload dX9_choiceOf_51 rfl ?_
        refine g_ishr dX9_choiceOf_53 ?_
        refine g_ic1 dX9_choiceOf_54 ?_
        refine g_iand dX9_choiceOf_55 ?_
        refine g_if_eq 63 (by decide) dX9_choiceOf_56 (fun c7 => ?_) (fun c7 => ?_)
        · have h := g_ifp c7 h
          refine g_ic0 dX9_choiceOf_63 ?_
          refine g_istore_7 rfl (Nat.le_of_ble_eq_true rfl) dX9_choiceOf_64 ?_
          refine g_iload dX9_choiceOf_66 rfl ?_
          refine g_if_eq 96 (by decide) dX9_choiceOf_68 (fun c9 => ?_) (fun cd => absurd (by decide) cd)
          refine g_iinc_6 (v := 1) rfl (by decide) (Nat.le_of_ble_eq_true rfl) dX9_choiceOf_96 ?_
          refine g_goto 35 (by decide) dX9_choiceOf_99 ?_
          exact g_less _ (g_subS (g_subS (g_subS (g_subN (g_subS (g_subS (g_subS (g_subN g_sub0)))))))) (ih _ _ _ _ _ _ _ h hc)
        · have h := g_ifn c7 h
          refine g_ic1 dX9_choiceOf_59 ?_
          refine g_goto 64 (by decide) dX9_choiceOf_60 ?_
          refine g_istore_7 rfl (Nat.le_of_ble_eq_true rfl) dX9_choiceOf_64 ?_
          refine g_iload dX9_choiceOf_66 rfl ?_
          refine g_if_eq 96 (by decide) dX9_choiceOf_68 (fun cd => absurd cd (by decide)) (fun c9 => ?_)
          refine g_aload_n dX9_choiceOf_71 rfl ?_
          refine g_iload_n dX9_choiceOf_72 rfl ?_
          refine g_iload dX9_choiceOf_73 rfl ?_
          obtain ⟨x8, q9, h⟩ := g_bind h
          refine m_cV mt_X9_wishOf ml_X9_132 mv_X9_wishOf dX9_choiceOf_75 (k_X9_wishOf q9) rfl rfl rfl rfl (by decide) ⟨Nat.le_refl _, Nat.le_refl _⟩ (Nat.le_of_ble_eq_true rfl) ?_
          refine g_iload dX9_choiceOf_78 rfl ?_
          refine g_icmp_le 96 (by decide) dX9_choiceOf_80 (fun c10 => ?_) (fun c10 => ?_)
          · have h := g_ifp c10 h
            refine g_iinc_6 (v := 1) rfl (by decide) (Nat.le_of_ble_eq_true rfl) dX9_choiceOf_96 ?_
            refine g_goto 35 (by decide) dX9_choiceOf_99 ?_
            exact g_less _ (g_subS (g_subS (g_subS (g_subN (g_subS (g_subS (g_subS (g_subN g_sub0)))))))) (ih _ _ _ _ _ _ _ h hc)
          · have h := g_ifn c10 h
            refine g_aload_n dX9_choiceOf_83 rfl ?_
            refine g_iload_n dX9_choiceOf_84 rfl ?_
            refine g_iload dX9_choiceOf_85 rfl ?_
            obtain ⟨x11, q12, h⟩ := g_bind h
            refine m_cV mt_X9_wishOf ml_X9_132 mv_X9_wishOf dX9_choiceOf_87 (k_X9_wishOf q12) rfl rfl rfl rfl (by decide) ⟨Nat.le_refl _, Nat.le_refl _⟩ (Nat.le_of_ble_eq_true rfl) ?_
            refine g_istore_5 rfl (Nat.le_of_ble_eq_true rfl) dX9_choiceOf_90 ?_
            refine g_iload dX9_choiceOf_92 rfl ?_
            refine g_istore_4 rfl (Nat.le_of_ble_eq_true rfl) dX9_choiceOf_94 ?_
            refine g_iinc_6 (v := 1) rfl (by decide) (Nat.le_of_ble_eq_true rfl) dX9_choiceOf_96 ?_
            refine g_goto 35 (by decide) dX9_choiceOf_99 ?_
            exact g_less _ (g_subS (g_subS (g_subS (g_subN (g_subS (g_subS (g_subS (g_subN g_sub0)))))))) (ih _ _ _ _ _ _ _ h hc)
set_option maxRecDepth 100000 in
set_option maxHeartbeats 4000000 in
theorem k_X9_choiceOf {D : va_G} {cA : Nat → ClassId} {b b2 k : Nat} {dyn : Nat → Nat} {t s : Nat} {N : Nat} {a1 : Int32} {a2 : Int32} {a3 : Int32} {μ : g_M} {z : Int32} (h : f_X9_choiceOf N a1 a2 a3 μ = some z) : g_K (g_XX D cA b b2 dyn) yX9_choiceOf Y_X9_choiceOf 2 0 0 k [.ref 1, .int a1, .int a2, .int a3] (μ, (g_rfX t s)) (fun r1 σ1 => r1 = some (.int z) ∧ σ1 = (μ, (g_rfX t s))) := by
  unfold f_X9_choiceOf at h
  refine g_met 4 (by decide) rfl rfl (Nat.le_of_ble_eq_true rfl) ?_
  refine g_iload_n dX9_choiceOf_0 rfl ?_
  refine g_iload_n dX9_choiceOf_1 rfl ?_
  refine g_ishr dX9_choiceOf_2 ?_
  refine g_ic1 dX9_choiceOf_3 ?_
  refine g_iand dX9_choiceOf_4 ?_
  refine g_if_ne 11 (by decide) dX9_choiceOf_5 (fun c1 => ?_) (fun c1 => ?_)
  · have h := g_ifn c1 h
    refine g_bipush (v := 6) dX9_choiceOf_11 (by decide) ?_
    refine g_istore_4 rfl (Nat.le_of_ble_eq_true rfl) dX9_choiceOf_13 ?_
    refine g_aload_n dX9_choiceOf_15 rfl ?_
    refine g_iload_n dX9_choiceOf_16 rfl ?_
    refine g_iload_n dX9_choiceOf_17 rfl ?_
    obtain ⟨x2, q3, h⟩ := g_bind h
    refine m_cV mt_X9_willOf ml_X9_141 mv_X9_willOf dX9_choiceOf_18 (k_X9_willOf q3) rfl rfl rfl rfl (by decide) ⟨Nat.le_refl _, Nat.le_refl _⟩ (Nat.le_of_ble_eq_true rfl) ?_
    refine g_ic2 dX9_choiceOf_21 ?_
    refine g_icmp_ne 29 (by decide) dX9_choiceOf_22 (fun c4 => ?_) (fun c4 => ?_)
    · have h := g_ifn c4 h
      refine g_ic0 dX9_choiceOf_29 ?_
      refine g_istore_5 rfl (Nat.le_of_ble_eq_true rfl) dX9_choiceOf_30 ?_
      refine g_ic0 dX9_choiceOf_32 ?_
      refine g_istore_6 rfl (Nat.le_of_ble_eq_true rfl) dX9_choiceOf_33 ?_
      obtain ⟨x5, q6, h⟩ := g_bind h
      refine g_less _ (g_subS (g_subS (g_subS (g_subN (g_subS (g_subS (g_subS (g_subN g_sub0)))))))) (k_X9_choiceOf_L35 _ _ _ _ _ _ _ _ q6 ?_)
      refine g_iload dX9_choiceOf_102 rfl ?_
      obtain rfl := Option.some.inj h
      exact g_iret rfl (Nat.le_refl _) rfl dX9_choiceOf_104 ⟨rfl, rfl⟩
    · have h := g_ifp c4 h
      refine g_ic3 dX9_choiceOf_25 ?_
      refine g_goto 30 (by decide) dX9_choiceOf_26 ?_
      refine g_istore_5 rfl (Nat.le_of_ble_eq_true rfl) dX9_choiceOf_30 ?_
      refine g_ic0 dX9_choiceOf_32 ?_
      refine g_istore_6 rfl (Nat.le_of_ble_eq_true rfl) dX9_choiceOf_33 ?_
      obtain ⟨x7, q8, h⟩ := g_bind h
      refine g_less _ (g_subS (g_subS (g_subS (g_subN (g_subS (g_subS (g_subS (g_subN g_sub0)))))))) (k_X9_choiceOf_L35 _ _ _ _ _ _ _ _ q8 ?_)
      refine g_iload dX9_choiceOf_102 rfl ?_
      obtain rfl := Option.some.inj h
      exact g_iret rfl (Nat.le_refl _) rfl dX9_choiceOf_104 ⟨rfl, rfl⟩
  · have h := g_ifp c1 h
    refine g_bipush (v := 6) dX9_choiceOf_8 (by decide) ?_
    obtain rfl := Option.some.inj h
    exact g_iret rfl (Nat.le_refl _) rfl dX9_choiceOf_10 ⟨rfl, rfl⟩
set_option maxRecDepth 100000 in
set_option maxHeartbeats 4000000 in
theorem k_X3_bakes_4 {D : va_G} {cA : Nat → ClassId} {b b2 k : Nat} {dyn : Nat → Nat} {t s : Nat} {a1 : Int32} {a2 : Int32} {μ : g_M} {z : Int32} (h : f_X3_bakes_4 a1 a2 = z) : g_K (g_XX D cA b b2 dyn) yX3_bakes Y_X3_bakes 1 0 0 k [.ref 4, .int a1, .int a2] (μ, (g_rfX t s)) (fun r1 σ1 => r1 = some (.int z) ∧ σ1 = (μ, (g_rfX t s))) := by
  unfold f_X3_bakes_4 at h
  refine g_met 0 (by decide) rfl rfl (Nat.le_of_ble_eq_true rfl) ?_
  refine g_iload_n dX3_bakes_0 rfl ?_
  subst h
  exact g_iret rfl (Nat.le_refl _) rfl dX3_bakes_1 ⟨rfl, rfl⟩
set_option maxRecDepth 100000 in
set_option maxHeartbeats 4000000 in
theorem k_X10_bakes_4 {D : va_G} {cA : Nat → ClassId} {b b2 k : Nat} {dyn : Nat → Nat} {t s : Nat} {a1 : Int32} {a2 : Int32} {μ : g_M} {z : Int32} (h : f_X10_bakes_4 a1 a2 = z) : g_K (g_XX D cA b b2 dyn) yX10_bakes Y_X10_bakes 2 0 0 k [.ref 4, .int a1, .int a2] (μ, (g_rfX t s)) (fun r1 σ1 => r1 = some (.int z) ∧ σ1 = (μ, (g_rfX t s))) := by
  unfold f_X10_bakes_4 at h
  refine g_met 0 (by decide) rfl rfl (Nat.le_of_ble_eq_true rfl) ?_
  refine g_aload_n dX10_bakes_0 rfl ?_
  refine g_iload_n dX10_bakes_1 rfl ?_
  refine g_iload_n dX10_bakes_2 rfl ?_
  refine m_cU mt_X3_bakes mu_X10_11 dX10_bakes_3 (k_X3_bakes_4 rfl) rfl rfl rfl rfl (by decide) ⟨Nat.le_refl _, Nat.le_refl _⟩ (Nat.le_of_ble_eq_true rfl) ?_
  refine g_ic2 dX10_bakes_6 ?_
  refine g_idiv dX10_bakes_7 (by decide) ?_
  subst h
  exact g_iret rfl (Nat.le_refl _) rfl dX10_bakes_8 ⟨rfl, rfl⟩
set_option maxRecDepth 100000 in
set_option maxHeartbeats 4000000 in
theorem k_X3_bakes_5 {D : va_G} {cA : Nat → ClassId} {b b2 k : Nat} {dyn : Nat → Nat} {t s : Nat} {a1 : Int32} {a2 : Int32} {μ : g_M} {z : Int32} (h : f_X3_bakes_5 a1 a2 = z) : g_K (g_XX D cA b b2 dyn) yX3_bakes Y_X3_bakes 1 0 0 k [.ref 5, .int a1, .int a2] (μ, (g_rfX t s)) (fun r1 σ1 => r1 = some (.int z) ∧ σ1 = (μ, (g_rfX t s))) := by
  unfold f_X3_bakes_5 at h
  refine g_met 0 (by decide) rfl rfl (Nat.le_of_ble_eq_true rfl) ?_
  refine g_iload_n dX3_bakes_0 rfl ?_
  subst h
  exact g_iret rfl (Nat.le_refl _) rfl dX3_bakes_1 ⟨rfl, rfl⟩
set_option maxRecDepth 100000 in
set_option maxHeartbeats 4000000 in
theorem k_X6_bakes_5 {D : va_G} {cA : Nat → ClassId} {b b2 k : Nat} {dyn : Nat → Nat} {t s : Nat} {a1 : Int32} {a2 : Int32} {μ : g_M} {z : Int32} (h : f_X6_bakes_5 a1 a2 = z) : g_K (g_XX D cA b b2 dyn) yX6_bakes Y_X6_bakes 2 0 0 k [.ref 5, .int a1, .int a2] (μ, (g_rfX t s)) (fun r1 σ1 => r1 = some (.int z) ∧ σ1 = (μ, (g_rfX t s))) := by
  unfold f_X6_bakes_5 at h
  refine g_met 0 (by decide) rfl rfl (Nat.le_of_ble_eq_true rfl) ?_
  refine g_aload_n dX6_bakes_0 rfl ?_
  refine g_iload_n dX6_bakes_1 rfl ?_
  refine g_iload_n dX6_bakes_2 rfl ?_
  refine m_cU mt_X3_bakes mu_X6_11 dX6_bakes_3 (k_X3_bakes_5 rfl) rfl rfl rfl rfl (by decide) ⟨Nat.le_refl _, Nat.le_refl _⟩ (Nat.le_of_ble_eq_true rfl) ?_
  refine g_ic2 dX6_bakes_6 ?_
  refine g_imul dX6_bakes_7 ?_
  subst h
  exact g_iret rfl (Nat.le_refl _) rfl dX6_bakes_8 ⟨rfl, rfl⟩
set_option maxRecDepth 100000 in
set_option maxHeartbeats 4000000 in
theorem k_X3_bakes_6 {D : va_G} {cA : Nat → ClassId} {b b2 k : Nat} {dyn : Nat → Nat} {t s : Nat} {a1 : Int32} {a2 : Int32} {μ : g_M} {z : Int32} (h : f_X3_bakes_6 a1 a2 = z) : g_K (g_XX D cA b b2 dyn) yX3_bakes Y_X3_bakes 1 0 0 k [.ref 6, .int a1, .int a2] (μ, (g_rfX t s)) (fun r1 σ1 => r1 = some (.int z) ∧ σ1 = (μ, (g_rfX t s))) := by
  unfold f_X3_bakes_6 at h
  refine g_met 0 (by decide) rfl rfl (Nat.le_of_ble_eq_true rfl) ?_
  refine g_iload_n dX3_bakes_0 rfl ?_
  subst h
  exact g_iret rfl (Nat.le_refl _) rfl dX3_bakes_1 ⟨rfl, rfl⟩
set_option maxRecDepth 100000 in
set_option maxHeartbeats 4000000 in
theorem k_X6_bakes_6 {D : va_G} {cA : Nat → ClassId} {b b2 k : Nat} {dyn : Nat → Nat} {t s : Nat} {a1 : Int32} {a2 : Int32} {μ : g_M} {z : Int32} (h : f_X6_bakes_6 a1 a2 = z) : g_K (g_XX D cA b b2 dyn) yX6_bakes Y_X6_bakes 2 0 0 k [.ref 6, .int a1, .int a2] (μ, (g_rfX t s)) (fun r1 σ1 => r1 = some (.int z) ∧ σ1 = (μ, (g_rfX t s))) := by
  unfold f_X6_bakes_6 at h
  refine g_met 0 (by decide) rfl rfl (Nat.le_of_ble_eq_true rfl) ?_
  refine g_aload_n dX6_bakes_0 rfl ?_
  refine g_iload_n dX6_bakes_1 rfl ?_
  refine g_iload_n dX6_bakes_2 rfl ?_
  refine m_cU mt_X3_bakes mu_X6_11 dX6_bakes_3 (k_X3_bakes_6 rfl) rfl rfl rfl rfl (by decide) ⟨Nat.le_refl _, Nat.le_refl _⟩ (Nat.le_of_ble_eq_true rfl) ?_
  refine g_ic2 dX6_bakes_6 ?_
  refine g_imul dX6_bakes_7 ?_
  subst h
  exact g_iret rfl (Nat.le_refl _) rfl dX6_bakes_8 ⟨rfl, rfl⟩
set_option maxRecDepth 100000 in
set_option maxHeartbeats 4000000 in
theorem k_X1_bakes_6 {D : va_G} {cA : Nat → ClassId} {b b2 k : Nat} {dyn : Nat → Nat} {t s : Nat} {a1 : Int32} {a2 : Int32} {μ : g_M} {z : Int32} (h : f_X1_bakes_6 a1 a2 = z) : g_K (g_XX D cA b b2 dyn) yX1_bakes Y_X1_bakes 3 0 0 k [.ref 6, .int a1, .int a2] (μ, (g_rfX t s)) (fun r1 σ1 => r1 = some (.int z) ∧ σ1 = (μ, (g_rfX t s))) := by
  unfold f_X1_bakes_6 at h
  refine g_met 0 (by decide) rfl rfl (Nat.le_of_ble_eq_true rfl) ?_
  refine g_aload_n dX1_bakes_0 rfl ?_
  refine g_iload_n dX1_bakes_1 rfl ?_
  refine g_iload_n dX1_bakes_2 rfl ?_
  refine m_cU mt_X6_bakes mu_X1_7 dX1_bakes_3 (k_X6_bakes_6 rfl) rfl rfl rfl rfl (by decide) ⟨Nat.le_refl _, Nat.le_refl _⟩ (Nat.le_of_ble_eq_true rfl) ?_
  refine g_ic1 dX1_bakes_6 ?_
  refine g_iadd dX1_bakes_7 ?_
  subst h
  exact g_iret rfl (Nat.le_refl _) rfl dX1_bakes_8 ⟨rfl, rfl⟩
set_option maxRecDepth 100000 in
set_option maxHeartbeats 4000000 in
theorem k_X3_bakes_7 {D : va_G} {cA : Nat → ClassId} {b b2 k : Nat} {dyn : Nat → Nat} {t s : Nat} {a1 : Int32} {a2 : Int32} {μ : g_M} {z : Int32} (h : f_X3_bakes_7 a1 a2 = z) : g_K (g_XX D cA b b2 dyn) yX3_bakes Y_X3_bakes 1 0 0 k [.ref 7, .int a1, .int a2] (μ, (g_rfX t s)) (fun r1 σ1 => r1 = some (.int z) ∧ σ1 = (μ, (g_rfX t s))) := by
  unfold f_X3_bakes_7 at h
  refine g_met 0 (by decide) rfl rfl (Nat.le_of_ble_eq_true rfl) ?_
  refine g_iload_n dX3_bakes_0 rfl ?_
  subst h
  exact g_iret rfl (Nat.le_refl _) rfl dX3_bakes_1 ⟨rfl, rfl⟩
set_option maxRecDepth 100000 in
set_option maxHeartbeats 4000000 in
theorem k_X3_bakes_8 {D : va_G} {cA : Nat → ClassId} {b b2 k : Nat} {dyn : Nat → Nat} {t s : Nat} {a1 : Int32} {a2 : Int32} {μ : g_M} {z : Int32} (h : f_X3_bakes_8 a1 a2 = z) : g_K (g_XX D cA b b2 dyn) yX3_bakes Y_X3_bakes 1 0 0 k [.ref 8, .int a1, .int a2] (μ, (g_rfX t s)) (fun r1 σ1 => r1 = some (.int z) ∧ σ1 = (μ, (g_rfX t s))) := by
  unfold f_X3_bakes_8 at h
  refine g_met 0 (by decide) rfl rfl (Nat.le_of_ble_eq_true rfl) ?_
  refine g_iload_n dX3_bakes_0 rfl ?_
  subst h
  exact g_iret rfl (Nat.le_refl _) rfl dX3_bakes_1 ⟨rfl, rfl⟩
set_option maxRecDepth 100000 in
set_option maxHeartbeats 4000000 in
theorem k_X5_bakes_8 {D : va_G} {cA : Nat → ClassId} {b b2 k : Nat} {dyn : Nat → Nat} {t s : Nat} {a1 : Int32} {a2 : Int32} {μ : g_M} {z : Int32} (h : f_X5_bakes_8 a1 a2 = z) : g_K (g_XX D cA b b2 dyn) yX5_bakes Y_X5_bakes 2 0 0 k [.ref 8, .int a1, .int a2] (μ, (g_rfX t s)) (fun r1 σ1 => r1 = some (.int z) ∧ σ1 = (μ, (g_rfX t s))) := by
  unfold f_X5_bakes_8 at h
  refine g_met 0 (by decide) rfl rfl (Nat.le_of_ble_eq_true rfl) ?_
  refine g_iload_n dX5_bakes_0 rfl ?_
  refine g_ic2 dX5_bakes_1 ?_
  refine g_irem dX5_bakes_2 (by decide) ?_
  refine g_if_ne 15 (by decide) dX5_bakes_3 (fun c1 => ?_) (fun c1 => ?_)
  · have h := g_ifn c1 h
    refine g_ic0 dX5_bakes_15 ?_
    subst h
    exact g_iret rfl (Nat.le_refl _) rfl dX5_bakes_16 ⟨rfl, rfl⟩
  · have h := g_ifp c1 h
    refine g_aload_n dX5_bakes_6 rfl ?_
    refine g_iload_n dX5_bakes_7 rfl ?_
    refine g_iload_n dX5_bakes_8 rfl ?_
    refine m_cU mt_X3_bakes mu_X5_11 dX5_bakes_9 (k_X3_bakes_8 rfl) rfl rfl rfl rfl (by decide) ⟨Nat.le_refl _, Nat.le_refl _⟩ (Nat.le_of_ble_eq_true rfl) ?_
    refine g_goto 16 (by decide) dX5_bakes_12 ?_
    subst h
    exact g_iret rfl (Nat.le_refl _) rfl dX5_bakes_16 ⟨rfl, rfl⟩
set_option maxRecDepth 100000 in
set_option maxHeartbeats 4000000 in
theorem k_X9_bakesOf {D : va_G} {cA : Nat → ClassId} {b b2 k : Nat} {dyn : Nat → Nat} {t s : Nat} {a1 : Int32} {a2 : Int32} {μ : g_M} {z : Int32} (h : f_X9_bakesOf a1 a2 μ = some z) : g_K (g_XX D cA b b2 dyn) yX9_bakesOf Y_X9_bakesOf 4 0 0 k [.ref 1, .int a1, .int a2] (μ, (g_rfX t s)) (fun r1 σ1 => r1 = some (.int z) ∧ σ1 = (μ, (g_rfX t s))) := by
  unfold f_X9_bakesOf at h
  refine g_met 0 (by decide) rfl rfl (Nat.le_of_ble_eq_true rfl) ?_
  refine g_aload_n dX9_bakesOf_0 rfl ?_
  refine m_getR fl_X9_27 rfl rfl rfl dX9_bakesOf_1 ?_
  refine g_aload_n dX9_bakesOf_4 rfl ?_
  refine m_getR fl_X9_33 rfl rfl rfl dX9_bakesOf_5 ?_
  refine g_iload_n dX9_bakesOf_8 rfl ?_
  obtain ⟨x1, qx1, h⟩ := g_bind h
  refine m_iald rfl qx1 dX9_bakesOf_9 ?_
  by_cases c2 : x1 = 1
  · have h := g_ifp c2 h
    refine m_aald1 1 c2 rfl (by decide) rfl dX9_bakesOf_10 ?_
    refine g_aload_n dX9_bakesOf_11 rfl ?_
    refine m_getR fl_X9_43 rfl rfl rfl dX9_bakesOf_12 ?_
    refine g_iload_n dX9_bakesOf_15 rfl ?_
    obtain ⟨x3, qx3, h⟩ := g_bind h
    refine m_iald rfl qx3 dX9_bakesOf_16 ?_
    refine g_iload_n dX9_bakesOf_17 rfl ?_
    refine m_cO mt_X10_bakes mo_X9_135_X10 dX9_bakesOf_18 (k_X10_bakes_4 rfl) rfl rfl rfl rfl (by decide) ⟨Nat.le_refl _, Nat.le_refl _⟩ (Nat.le_of_ble_eq_true rfl) ?_
    obtain rfl := Option.some.inj h
    exact g_iret rfl (Nat.le_refl _) rfl dX9_bakesOf_21 ⟨rfl, rfl⟩
  have h := g_ifn c2 h
  by_cases c4 : x1 = 2
  · have h := g_ifp c4 h
    refine m_aald1 2 c4 rfl (by decide) rfl dX9_bakesOf_10 ?_
    refine g_aload_n dX9_bakesOf_11 rfl ?_
    refine m_getR fl_X9_43 rfl rfl rfl dX9_bakesOf_12 ?_
    refine g_iload_n dX9_bakesOf_15 rfl ?_
    obtain ⟨x5, qx5, h⟩ := g_bind h
    refine m_iald rfl qx5 dX9_bakesOf_16 ?_
    refine g_iload_n dX9_bakesOf_17 rfl ?_
    refine m_cO mt_X6_bakes mo_X9_135_X6 dX9_bakesOf_18 (k_X6_bakes_5 rfl) rfl rfl rfl rfl (by decide) ⟨Nat.le_refl _, Nat.le_refl _⟩ (Nat.le_of_ble_eq_true rfl) ?_
    obtain rfl := Option.some.inj h
    exact g_iret rfl (Nat.le_refl _) rfl dX9_bakesOf_21 ⟨rfl, rfl⟩
  have h := g_ifn c4 h
  by_cases c6 : x1 = 3
  · have h := g_ifp c6 h
    refine m_aald1 3 c6 rfl (by decide) rfl dX9_bakesOf_10 ?_
    refine g_aload_n dX9_bakesOf_11 rfl ?_
    refine m_getR fl_X9_43 rfl rfl rfl dX9_bakesOf_12 ?_
    refine g_iload_n dX9_bakesOf_15 rfl ?_
    obtain ⟨x7, qx7, h⟩ := g_bind h
    refine m_iald rfl qx7 dX9_bakesOf_16 ?_
    refine g_iload_n dX9_bakesOf_17 rfl ?_
    refine m_cO mt_X1_bakes mo_X9_135_X1 dX9_bakesOf_18 (k_X1_bakes_6 rfl) rfl rfl rfl rfl (by decide) ⟨Nat.le_refl _, Nat.le_refl _⟩ (Nat.le_of_ble_eq_true rfl) ?_
    obtain rfl := Option.some.inj h
    exact g_iret rfl (Nat.le_refl _) rfl dX9_bakesOf_21 ⟨rfl, rfl⟩
  have h := g_ifn c6 h
  by_cases c8 : x1 = 4
  · have h := g_ifp c8 h
    refine m_aald1 4 c8 rfl (by decide) rfl dX9_bakesOf_10 ?_
    refine g_aload_n dX9_bakesOf_11 rfl ?_
    refine m_getR fl_X9_43 rfl rfl rfl dX9_bakesOf_12 ?_
    refine g_iload_n dX9_bakesOf_15 rfl ?_
    obtain ⟨x9, qx9, h⟩ := g_bind h
    refine m_iald rfl qx9 dX9_bakesOf_16 ?_
    refine g_iload_n dX9_bakesOf_17 rfl ?_
    refine m_cO mt_X3_bakes mo_X9_135_X4 dX9_bakesOf_18 (k_X3_bakes_7 rfl) rfl rfl rfl rfl (by decide) ⟨Nat.le_refl _, Nat.le_refl _⟩ (Nat.le_of_ble_eq_true rfl) ?_
    obtain rfl := Option.some.inj h
    exact g_iret rfl (Nat.le_refl _) rfl dX9_bakesOf_21 ⟨rfl, rfl⟩
  have h := g_ifn c8 h
  by_cases c10 : x1 = 5
  · have h := g_ifp c10 h
    refine m_aald1 5 c10 rfl (by decide) rfl dX9_bakesOf_10 ?_
    refine g_aload_n dX9_bakesOf_11 rfl ?_
    refine m_getR fl_X9_43 rfl rfl rfl dX9_bakesOf_12 ?_
    refine g_iload_n dX9_bakesOf_15 rfl ?_
    obtain ⟨x11, qx11, h⟩ := g_bind h
    refine m_iald rfl qx11 dX9_bakesOf_16 ?_
    refine g_iload_n dX9_bakesOf_17 rfl ?_
    refine m_cO mt_X5_bakes mo_X9_135_X5 dX9_bakesOf_18 (k_X5_bakes_8 rfl) rfl rfl rfl rfl (by decide) ⟨Nat.le_refl _, Nat.le_refl _⟩ (Nat.le_of_ble_eq_true rfl) ?_
    obtain rfl := Option.some.inj h
    exact g_iret rfl (Nat.le_refl _) rfl dX9_bakesOf_21 ⟨rfl, rfl⟩
  have h := g_ifn c10 h
  cases h
set_option maxRecDepth 100000 in
set_option maxHeartbeats 4000000 in
theorem k_X11_ovenOf {D : va_G} {cA : Nat → ClassId} {b b2 k : Nat} {dyn : Nat → Nat} {t s : Nat} {N : Nat} {a1 : Int32} {a2 : Int32} {μ : g_M} {z : Int32} (h : f_X11_ovenOf N a1 a2 μ = some z) : g_K (g_XX D cA b b2 dyn) yX11_ovenOf Y_X11_ovenOf 5 0 0 k [.ref 0, .int a1, .int a2] (μ, (g_rfX t s)) (fun r1 σ1 => r1 = some (.int z) ∧ σ1 = (μ, (g_rfX t s))) := by
  unfold f_X11_ovenOf at h
  refine g_met 0 (by decide) rfl rfl (Nat.le_of_ble_eq_true rfl) ?_
  refine g_aload_n dX11_ovenOf_0 rfl ?_
  refine g_iload_n dX11_ovenOf_1 rfl ?_
  refine m_cV mt_X11_isOven ml_X11_78 mv_X11_isOven dX11_ovenOf_2 (k_X11_isOven rfl) rfl rfl rfl rfl (by decide) ⟨Nat.le_refl _, Nat.le_refl _⟩ (Nat.le_of_ble_eq_true rfl) ?_
  refine g_if_ne 10 (by decide) dX11_ovenOf_5 (fun c1 => ?_) (fun c1 => ?_)
  · have h := g_ifn c1 h
    refine g_iload_n dX11_ovenOf_10 rfl ?_
    by_cases c2 : a2 = 0
    · have h := g_ifp c2 h
      refine m_tab 0 56 c2 dX11_ovenOf_11 (by decide) (by decide) rfl (by decide) ?_
      refine g_aload_n dX11_ovenOf_56 rfl ?_
      refine m_getR fl_X11_10 rfl rfl rfl dX11_ovenOf_57 ?_
      refine m_getR fl_X11_81 rfl rfl rfl dX11_ovenOf_60 ?_
      refine g_iload_n dX11_ovenOf_63 rfl ?_
      obtain ⟨x3, qx3, h⟩ := g_bind h
      refine m_iald rfl qx3 dX11_ovenOf_64 ?_
      obtain rfl := Option.some.inj h
      exact g_iret rfl (Nat.le_refl _) rfl dX11_ovenOf_65 ⟨rfl, rfl⟩
    have h := g_ifn c2 h
    by_cases c4 : a2 = 1
    · have h := g_ifp c4 h
      refine m_tab 1 66 c4 dX11_ovenOf_11 (by decide) (by decide) rfl (by decide) ?_
      refine g_aload_n dX11_ovenOf_66 rfl ?_
      refine m_getR fl_X11_10 rfl rfl rfl dX11_ovenOf_67 ?_
      refine m_getR fl_X11_84 rfl rfl rfl dX11_ovenOf_70 ?_
      refine g_iload_n dX11_ovenOf_73 rfl ?_
      obtain ⟨x5, qx5, h⟩ := g_bind h
      refine m_iald rfl qx5 dX11_ovenOf_74 ?_
      obtain rfl := Option.some.inj h
      exact g_iret rfl (Nat.le_refl _) rfl dX11_ovenOf_75 ⟨rfl, rfl⟩
    have h := g_ifn c4 h
    by_cases c6 : a2 = 2
    · have h := g_ifp c6 h
      refine m_tab 2 76 c6 dX11_ovenOf_11 (by decide) (by decide) rfl (by decide) ?_
      refine g_aload_n dX11_ovenOf_76 rfl ?_
      refine m_getR fl_X11_10 rfl rfl rfl dX11_ovenOf_77 ?_
      refine m_getR fl_X11_87 rfl rfl rfl dX11_ovenOf_80 ?_
      refine g_iload_n dX11_ovenOf_83 rfl ?_
      obtain ⟨x7, qx7, h⟩ := g_bind h
      refine m_iald rfl qx7 dX11_ovenOf_84 ?_
      obtain rfl := Option.some.inj h
      exact g_iret rfl (Nat.le_refl _) rfl dX11_ovenOf_85 ⟨rfl, rfl⟩
    have h := g_ifn c6 h
    by_cases c8 : a2 = 3
    · have h := g_ifp c8 h
      refine m_tab 3 86 c8 dX11_ovenOf_11 (by decide) (by decide) rfl (by decide) ?_
      refine g_aload_n dX11_ovenOf_86 rfl ?_
      refine m_getR fl_X11_10 rfl rfl rfl dX11_ovenOf_87 ?_
      refine m_getR fl_X11_90 rfl rfl rfl dX11_ovenOf_90 ?_
      refine g_iload_n dX11_ovenOf_93 rfl ?_
      obtain ⟨x9, qx9, h⟩ := g_bind h
      refine m_iald rfl qx9 dX11_ovenOf_94 ?_
      obtain rfl := Option.some.inj h
      exact g_iret rfl (Nat.le_refl _) rfl dX11_ovenOf_95 ⟨rfl, rfl⟩
    have h := g_ifn c8 h
    by_cases c10 : a2 = 4
    · have h := g_ifp c10 h
      refine m_tab 4 96 c10 dX11_ovenOf_11 (by decide) (by decide) rfl (by decide) ?_
      refine g_aload_n dX11_ovenOf_96 rfl ?_
      refine m_getR fl_X11_10 rfl rfl rfl dX11_ovenOf_97 ?_
      refine g_aload_n dX11_ovenOf_100 rfl ?_
      refine m_getR fl_X11_10 rfl rfl rfl dX11_ovenOf_101 ?_
      refine m_getI fl_X11_93 rfl rfl dX11_ovenOf_104 ?_
      refine g_iload_n dX11_ovenOf_107 rfl ?_
      refine m_cV mt_X9_awayOf ml_X11_96 mv_X9_awayOf dX11_ovenOf_108 (k_X9_awayOf rfl) rfl rfl rfl rfl (by decide) ⟨Nat.le_refl _, Nat.le_refl _⟩ (Nat.le_of_ble_eq_true rfl) ?_
      obtain rfl := Option.some.inj h
      exact g_iret rfl (Nat.le_refl _) rfl dX11_ovenOf_111 ⟨rfl, rfl⟩
    have h := g_ifn c10 h
    by_cases c11 : a2 = 5
    · have h := g_ifp c11 h
      refine m_tab 5 112 c11 dX11_ovenOf_11 (by decide) (by decide) rfl (by decide) ?_
      refine g_aload_n dX11_ovenOf_112 rfl ?_
      refine m_getR fl_X11_10 rfl rfl rfl dX11_ovenOf_113 ?_
      refine g_iload_n dX11_ovenOf_116 rfl ?_
      refine g_aload_n dX11_ovenOf_117 rfl ?_
      refine m_getR fl_X11_10 rfl rfl rfl dX11_ovenOf_118 ?_
      refine m_getI fl_X11_100 rfl rfl dX11_ovenOf_121 ?_
      obtain ⟨x12, q13, h⟩ := g_bind h
      refine m_cV mt_X9_bakesOf ml_X11_103 mv_X9_bakesOf dX11_ovenOf_124 (k_X9_bakesOf q13) rfl rfl rfl rfl (by decide) ⟨Nat.le_refl _, Nat.le_refl _⟩ (Nat.le_of_ble_eq_true rfl) ?_
      obtain rfl := Option.some.inj h
      exact g_iret rfl (Nat.le_refl _) rfl dX11_ovenOf_127 ⟨rfl, rfl⟩
    have h := g_ifn c11 h
    by_cases c14 : a2 = 6
    · have h := g_ifp c14 h
      refine m_tab 6 128 c14 dX11_ovenOf_11 (by decide) (by decide) rfl (by decide) ?_
      refine g_aload_n dX11_ovenOf_128 rfl ?_
      refine m_getR fl_X11_10 rfl rfl rfl dX11_ovenOf_129 ?_
      refine g_iload_n dX11_ovenOf_132 rfl ?_
      refine g_aload_n dX11_ovenOf_133 rfl ?_
      refine m_getR fl_X11_10 rfl rfl rfl dX11_ovenOf_134 ?_
      refine m_getI fl_X11_100 rfl rfl dX11_ovenOf_137 ?_
      obtain ⟨x15, q16, h⟩ := g_bind h
      refine m_cV mt_X9_willOf ml_X11_106 mv_X9_willOf dX11_ovenOf_140 (k_X9_willOf q16) rfl rfl rfl rfl (by decide) ⟨Nat.le_refl _, Nat.le_refl _⟩ (Nat.le_of_ble_eq_true rfl) ?_
      obtain rfl := Option.some.inj h
      exact g_iret rfl (Nat.le_refl _) rfl dX11_ovenOf_143 ⟨rfl, rfl⟩
    have h := g_ifn c14 h
    by_cases c17 : a2 = 7
    · have h := g_ifp c17 h
      refine m_tab 7 144 c17 dX11_ovenOf_11 (by decide) (by decide) rfl (by decide) ?_
      refine g_aload_n dX11_ovenOf_144 rfl ?_
      refine m_getR fl_X11_10 rfl rfl rfl dX11_ovenOf_145 ?_
      refine g_iload_n dX11_ovenOf_148 rfl ?_
      refine g_aload_n dX11_ovenOf_149 rfl ?_
      refine m_getR fl_X11_10 rfl rfl rfl dX11_ovenOf_150 ?_
      refine g_aload_n dX11_ovenOf_153 rfl ?_
      refine m_getR fl_X11_10 rfl rfl rfl dX11_ovenOf_154 ?_
      refine m_getI fl_X11_93 rfl rfl dX11_ovenOf_157 ?_
      refine g_aload_n dX11_ovenOf_160 rfl ?_
      refine m_getR fl_X11_10 rfl rfl rfl dX11_ovenOf_161 ?_
      refine m_getI fl_X11_100 rfl rfl dX11_ovenOf_164 ?_
      refine g_ic0 dX11_ovenOf_167 ?_
      obtain ⟨x18, q19, h⟩ := g_bind h
      refine m_cV mt_X9_freeSet ml_X11_109 mv_X9_freeSet dX11_ovenOf_168 (k_X9_freeSet q19) rfl rfl rfl rfl (by decide) ⟨Nat.le_refl _, Nat.le_refl _⟩ (Nat.le_of_ble_eq_true rfl) ?_
      refine g_aload_n dX11_ovenOf_171 rfl ?_
      refine m_getR fl_X11_10 rfl rfl rfl dX11_ovenOf_172 ?_
      refine m_getI fl_X11_100 rfl rfl dX11_ovenOf_175 ?_
      obtain ⟨x20, q21, h⟩ := g_bind h
      refine m_cV mt_X9_choiceOf ml_X11_113 mv_X9_choiceOf dX11_ovenOf_178 (k_X9_choiceOf q21) rfl rfl rfl rfl (by decide) ⟨Nat.le_refl _, Nat.le_refl _⟩ (Nat.le_of_ble_eq_true rfl) ?_
      obtain rfl := Option.some.inj h
      exact g_iret rfl (Nat.le_refl _) rfl dX11_ovenOf_181 ⟨rfl, rfl⟩
    have h := g_ifn c17 h
    refine g_tabOut 182 dX11_ovenOf_11 (by have nc2 := m_ne 0 0 c2 (by decide); have nc4 := m_ne 1 1 c4 (by decide); have nc6 := m_ne 2 2 c6 (by decide); have nc8 := m_ne 3 3 c8 (by decide); have nc10 := m_ne 4 4 c10 (by decide); have nc11 := m_ne 5 5 c11 (by decide); have nc14 := m_ne 6 6 c14 (by decide); have nc17 := m_ne 7 7 c17 (by decide); omega) (by decide) ?_
    refine g_icm1 dX11_ovenOf_182 ?_
    obtain rfl := Option.some.inj h
    exact g_iret rfl (Nat.le_refl _) rfl dX11_ovenOf_183 ⟨rfl, rfl⟩
  · have h := g_ifp c1 h
    refine g_icm1 dX11_ovenOf_8 ?_
    obtain rfl := Option.some.inj h
    exact g_iret rfl (Nat.le_refl _) rfl dX11_ovenOf_9 ⟨rfl, rfl⟩
set_option maxRecDepth 100000 in
set_option maxHeartbeats 4000000 in
theorem k_X9_replaceAway {D : va_G} {cA : Nat → ClassId} {b b2 k : Nat} {dyn : Nat → Nat} {t s : Nat} {a1 : Int32} {a2 : Int32} {μ : g_M} {z : Int32 × g_M} (h : f_X9_replaceAway a1 a2 μ = some z) : g_K (g_XX D cA b b2 dyn) yX9_replaceAway Y_X9_replaceAway 2 0 0 k [.ref 1, .int a1, .int a2] (μ, (g_rfX t s)) (fun r1 σ1 => r1 = some (.int z.1) ∧ σ1 = (z.2, (g_rfX t s))) := by
  unfold f_X9_replaceAway at h
  refine g_met 1 (by decide) rfl rfl (Nat.le_of_ble_eq_true rfl) ?_
  refine g_aload_n dX9_replaceAway_0 rfl ?_
  refine g_aload_n dX9_replaceAway_1 rfl ?_
  refine m_getI fl_X9_86 rfl rfl dX9_replaceAway_2 ?_
  refine g_iload_n dX9_replaceAway_5 rfl ?_
  refine m_cV mt_X9_awayOf ml_X9_101 mv_X9_awayOf dX9_replaceAway_6 (k_X9_awayOf rfl) rfl rfl rfl rfl (by decide) ⟨Nat.le_refl _, Nat.le_refl _⟩ (Nat.le_of_ble_eq_true rfl) ?_
  obtain ⟨x1, ex1, h⟩ := g_let h
  refine g_top ex1 ?_
  refine g_istore_3 rfl (Nat.le_of_ble_eq_true rfl) dX9_replaceAway_9 ?_
  refine g_aload_n dX9_replaceAway_10 rfl ?_
  refine g_dup dX9_replaceAway_11 rfl ?_
  refine m_getI fl_X9_86 rfl rfl dX9_replaceAway_12 ?_
  refine g_iload_n dX9_replaceAway_15 rfl ?_
  refine g_iload_n dX9_replaceAway_16 rfl ?_
  refine g_isub dX9_replaceAway_17 ?_
  refine g_ic4 dX9_replaceAway_18 ?_
  refine g_iload_n dX9_replaceAway_19 rfl ?_
  refine g_imul dX9_replaceAway_20 ?_
  refine g_ishl dX9_replaceAway_21 ?_
  refine g_iadd dX9_replaceAway_22 ?_
  obtain ⟨μ2, eμ2, h⟩ := g_let h
  refine m_putI fl_X9_86 fw_9_12 rfl rfl rfl rfl dX9_replaceAway_23 eμ2 ?_
  refine g_iload_n dX9_replaceAway_26 rfl ?_
  obtain rfl := Option.some.inj h
  exact g_iret rfl (Nat.le_refl _) rfl dX9_replaceAway_27 ⟨rfl, rfl⟩
set_option maxRecDepth 100000 in
set_option maxHeartbeats 4000000 in
theorem k_X9_replace_12 {D : va_G} {cA : Nat → ClassId} {b b2 k : Nat} {dyn : Nat → Nat} {t s : Nat} {L : Nat} {N : Nat} (hR : g_RO (g_XX D cA b b2 dyn) k (g_rfX t s) t L) {a1 : Int32} {a2 : Int32} {μ : g_M} {z : Int32 × g_M} (h : f_X9_replace_12 N t L a1 a2 μ = some z) : g_K (g_XX D cA b b2 dyn) yX9_replace Y_X9_replace 7 0 0 k [.ref 1, .ref 12, .int a1, .int a2] (μ, (g_rfX t s)) (fun r1 σ1 => r1 = some (.int z.1) ∧ σ1 = (z.2, (g_rfX t s))) := by
  unfold f_X9_replace_12 at h
  refine g_met 1 (by decide) rfl rfl (Nat.le_of_ble_eq_true rfl) ?_
  refine g_aload_n dX9_replace_0 rfl ?_
  refine g_iload_n dX9_replace_1 rfl ?_
  obtain ⟨x1, qx1, h⟩ := g_bind h
  refine m_iald rfl qx1 dX9_replace_2 ?_
  refine g_istore_4 rfl (Nat.le_of_ble_eq_true rfl) dX9_replace_3 ?_
  refine g_aload_n dX9_replace_5 rfl ?_
  refine g_iload_n dX9_replace_6 rfl ?_
  refine g_iload_n dX9_replace_7 rfl ?_
  obtain ⟨μ2, qμ2, h⟩ := g_bind h
  refine m_iast rfl qμ2 dX9_replace_8 ?_
  refine g_aload_n dX9_replace_9 rfl ?_
  refine g_iload_n dX9_replace_10 rfl ?_
  obtain ⟨μ5, q4, h⟩ := g_bind h
  refine m_cVv mt_X9_settle ml_X9_98 mv_X9_settle dX9_replace_11 (k_X9_settle hR q4) rfl rfl rfl rfl (by decide) ⟨Nat.le_refl _, Nat.le_refl _⟩ (Nat.le_of_ble_eq_true rfl) ?_
  refine g_iload dX9_replace_14 rfl ?_
  obtain rfl := Option.some.inj h
  exact g_iret rfl (Nat.le_refl _) rfl dX9_replace_16 ⟨rfl, rfl⟩
set_option maxRecDepth 100000 in
set_option maxHeartbeats 4000000 in
theorem k_X9_replace_11 {D : va_G} {cA : Nat → ClassId} {b b2 k : Nat} {dyn : Nat → Nat} {t s : Nat} {L : Nat} {N : Nat} (hR : g_RO (g_XX D cA b b2 dyn) k (g_rfX t s) t L) {a1 : Int32} {a2 : Int32} {μ : g_M} {z : Int32 × g_M} (h : f_X9_replace_11 N t L a1 a2 μ = some z) : g_K (g_XX D cA b b2 dyn) yX9_replace Y_X9_replace 7 0 0 k [.ref 1, .ref 11, .int a1, .int a2] (μ, (g_rfX t s)) (fun r1 σ1 => r1 = some (.int z.1) ∧ σ1 = (z.2, (g_rfX t s))) := by
  unfold f_X9_replace_11 at h
  refine g_met 1 (by decide) rfl rfl (Nat.le_of_ble_eq_true rfl) ?_
  refine g_aload_n dX9_replace_0 rfl ?_
  refine g_iload_n dX9_replace_1 rfl ?_
  obtain ⟨x1, qx1, h⟩ := g_bind h
  refine m_iald rfl qx1 dX9_replace_2 ?_
  refine g_istore_4 rfl (Nat.le_of_ble_eq_true rfl) dX9_replace_3 ?_
  refine g_aload_n dX9_replace_5 rfl ?_
  refine g_iload_n dX9_replace_6 rfl ?_
  refine g_iload_n dX9_replace_7 rfl ?_
  obtain ⟨μ2, qμ2, h⟩ := g_bind h
  refine m_iast rfl qμ2 dX9_replace_8 ?_
  refine g_aload_n dX9_replace_9 rfl ?_
  refine g_iload_n dX9_replace_10 rfl ?_
  obtain ⟨μ5, q4, h⟩ := g_bind h
  refine m_cVv mt_X9_settle ml_X9_98 mv_X9_settle dX9_replace_11 (k_X9_settle hR q4) rfl rfl rfl rfl (by decide) ⟨Nat.le_refl _, Nat.le_refl _⟩ (Nat.le_of_ble_eq_true rfl) ?_
  refine g_iload dX9_replace_14 rfl ?_
  obtain rfl := Option.some.inj h
  exact g_iret rfl (Nat.le_refl _) rfl dX9_replace_16 ⟨rfl, rfl⟩
set_option maxRecDepth 100000 in
set_option maxHeartbeats 4000000 in
theorem k_X9_replace_10 {D : va_G} {cA : Nat → ClassId} {b b2 k : Nat} {dyn : Nat → Nat} {t s : Nat} {L : Nat} {N : Nat} (hR : g_RO (g_XX D cA b b2 dyn) k (g_rfX t s) t L) {a1 : Int32} {a2 : Int32} {μ : g_M} {z : Int32 × g_M} (h : f_X9_replace_10 N t L a1 a2 μ = some z) : g_K (g_XX D cA b b2 dyn) yX9_replace Y_X9_replace 7 0 0 k [.ref 1, .ref 10, .int a1, .int a2] (μ, (g_rfX t s)) (fun r1 σ1 => r1 = some (.int z.1) ∧ σ1 = (z.2, (g_rfX t s))) := by
  unfold f_X9_replace_10 at h
  refine g_met 1 (by decide) rfl rfl (Nat.le_of_ble_eq_true rfl) ?_
  refine g_aload_n dX9_replace_0 rfl ?_
  refine g_iload_n dX9_replace_1 rfl ?_
  obtain ⟨x1, qx1, h⟩ := g_bind h
  refine m_iald rfl qx1 dX9_replace_2 ?_
  refine g_istore_4 rfl (Nat.le_of_ble_eq_true rfl) dX9_replace_3 ?_
  refine g_aload_n dX9_replace_5 rfl ?_
  refine g_iload_n dX9_replace_6 rfl ?_
  refine g_iload_n dX9_replace_7 rfl ?_
  obtain ⟨μ2, qμ2, h⟩ := g_bind h
  refine m_iast rfl qμ2 dX9_replace_8 ?_
  refine g_aload_n dX9_replace_9 rfl ?_
  refine g_iload_n dX9_replace_10 rfl ?_
  obtain ⟨μ5, q4, h⟩ := g_bind h
  refine m_cVv mt_X9_settle ml_X9_98 mv_X9_settle dX9_replace_11 (k_X9_settle hR q4) rfl rfl rfl rfl (by decide) ⟨Nat.le_refl _, Nat.le_refl _⟩ (Nat.le_of_ble_eq_true rfl) ?_
  refine g_iload dX9_replace_14 rfl ?_
  obtain rfl := Option.some.inj h
  exact g_iret rfl (Nat.le_refl _) rfl dX9_replace_16 ⟨rfl, rfl⟩
set_option maxRecDepth 100000 in
set_option maxHeartbeats 4000000 in
theorem k_X11_change {D : va_G} {cA : Nat → ClassId} {b b2 k : Nat} {dyn : Nat → Nat} {t s : Nat} {L : Nat} {N : Nat} (hR : g_RO (g_XX D cA b b2 dyn) k (g_rfX t s) t L) {a1 : Int32} {a2 : Int32} {a3 : Int32} {μ : g_M} {z : Int32 × g_M} (h : f_X11_change N t L a1 a2 a3 μ = some z) : g_K (g_XX D cA b b2 dyn) yX11_change Y_X11_change 8 0 0 k [.ref 0, .int a1, .int a2, .int a3] (μ, (g_rfX t s)) (fun r1 σ1 => r1 = some (.int z.1) ∧ σ1 = (z.2, (g_rfX t s))) := by
  unfold f_X11_change at h
  refine g_met 0 (by decide) rfl rfl (Nat.le_of_ble_eq_true rfl) ?_
  refine g_aload_n dX11_change_0 rfl ?_
  refine g_iload_n dX11_change_1 rfl ?_
  refine m_cV mt_X11_isOven ml_X11_78 mv_X11_isOven dX11_change_2 (k_X11_isOven rfl) rfl rfl rfl rfl (by decide) ⟨Nat.le_refl _, Nat.le_refl _⟩ (Nat.le_of_ble_eq_true rfl) ?_
  refine g_if_ne 10 (by decide) dX11_change_5 (fun c1 => ?_) (fun c1 => ?_)
  · have h := g_ifn c1 h
    refine g_iload_n dX11_change_10 rfl ?_
    by_cases c2 : a2 = 1
    · have h := g_ifp c2 h
      refine m_tab 1 40 c2 dX11_change_11 (by decide) (by decide) rfl (by decide) ?_
      refine g_iload_n dX11_change_40 rfl ?_
      refine m_cS mt_X11_isWarm ml_X11_61 ms_X11_isWarm dX11_change_41 (k_X11_isWarm rfl) rfl rfl (by decide) ⟨Nat.le_refl _, Nat.le_refl _⟩ (Nat.le_of_ble_eq_true rfl) ?_
      refine g_if_eq 66 (by decide) dX11_change_44 (fun c3 => ?_) (fun c3 => ?_)
      · have h := g_ifp c3 h
        refine g_icm1 dX11_change_66 ?_
        obtain rfl := Option.some.inj h
        exact g_iret rfl (Nat.le_refl _) rfl dX11_change_67 ⟨rfl, rfl⟩
      · have h := g_ifn c3 h
        refine g_aload_n dX11_change_47 rfl ?_
        refine m_getR fl_X11_10 rfl rfl rfl dX11_change_48 ?_
        refine g_aload_n dX11_change_51 rfl ?_
        refine m_getR fl_X11_10 rfl rfl rfl dX11_change_52 ?_
        refine m_getR fl_X11_84 rfl rfl rfl dX11_change_55 ?_
        refine g_iload_n dX11_change_58 rfl ?_
        refine g_iload_n dX11_change_59 rfl ?_
        obtain ⟨⟨x4, μ6⟩, q5, h⟩ := g_bind h
        refine m_cV mt_X9_replace ml_X11_116 mv_X9_replace dX11_change_60 (k_X9_replace_10 hR q5) rfl rfl rfl rfl (by decide) ⟨Nat.le_refl _, Nat.le_refl _⟩ (Nat.le_of_ble_eq_true rfl) ?_
        refine g_goto 67 (by decide) dX11_change_63 ?_
        obtain rfl := Option.some.inj h
        exact g_iret rfl (Nat.le_refl _) rfl dX11_change_67 ⟨rfl, rfl⟩
    have h := g_ifn c2 h
    by_cases c7 : a2 = 2
    · have h := g_ifp c7 h
      refine m_tab 2 68 c7 dX11_change_11 (by decide) (by decide) rfl (by decide) ?_
      refine g_iload_n dX11_change_68 rfl ?_
      refine m_cS mt_X11_isPlace ml_X11_64 ms_X11_isPlace dX11_change_69 (k_X11_isPlace rfl) rfl rfl (by decide) ⟨Nat.le_refl _, Nat.le_refl _⟩ (Nat.le_of_ble_eq_true rfl) ?_
      refine g_if_eq 94 (by decide) dX11_change_72 (fun c8 => ?_) (fun c8 => ?_)
      · have h := g_ifp c8 h
        refine g_icm1 dX11_change_94 ?_
        obtain rfl := Option.some.inj h
        exact g_iret rfl (Nat.le_refl _) rfl dX11_change_95 ⟨rfl, rfl⟩
      · have h := g_ifn c8 h
        refine g_aload_n dX11_change_75 rfl ?_
        refine m_getR fl_X11_10 rfl rfl rfl dX11_change_76 ?_
        refine g_aload_n dX11_change_79 rfl ?_
        refine m_getR fl_X11_10 rfl rfl rfl dX11_change_80 ?_
        refine m_getR fl_X11_87 rfl rfl rfl dX11_change_83 ?_
        refine g_iload_n dX11_change_86 rfl ?_
        refine g_iload_n dX11_change_87 rfl ?_
        obtain ⟨⟨x9, μ11⟩, q10, h⟩ := g_bind h
        refine m_cV mt_X9_replace ml_X11_116 mv_X9_replace dX11_change_88 (k_X9_replace_11 hR q10) rfl rfl rfl rfl (by decide) ⟨Nat.le_refl _, Nat.le_refl _⟩ (Nat.le_of_ble_eq_true rfl) ?_
        refine g_goto 95 (by decide) dX11_change_91 ?_
        obtain rfl := Option.some.inj h
        exact g_iret rfl (Nat.le_refl _) rfl dX11_change_95 ⟨rfl, rfl⟩
    have h := g_ifn c7 h
    by_cases c12 : a2 = 3
    · have h := g_ifp c12 h
      refine m_tab 3 96 c12 dX11_change_11 (by decide) (by decide) rfl (by decide) ?_
      refine g_iload_n dX11_change_96 rfl ?_
      refine m_cS mt_X11_isFire ml_X11_67 ms_X11_isFire dX11_change_97 (k_X11_isFire rfl) rfl rfl (by decide) ⟨Nat.le_refl _, Nat.le_refl _⟩ (Nat.le_of_ble_eq_true rfl) ?_
      refine g_if_eq 122 (by decide) dX11_change_100 (fun c13 => ?_) (fun c13 => ?_)
      · have h := g_ifp c13 h
        refine g_icm1 dX11_change_122 ?_
        obtain rfl := Option.some.inj h
        exact g_iret rfl (Nat.le_refl _) rfl dX11_change_123 ⟨rfl, rfl⟩
      · have h := g_ifn c13 h
        refine g_aload_n dX11_change_103 rfl ?_
        refine m_getR fl_X11_10 rfl rfl rfl dX11_change_104 ?_
        refine g_aload_n dX11_change_107 rfl ?_
        refine m_getR fl_X11_10 rfl rfl rfl dX11_change_108 ?_
        refine m_getR fl_X11_90 rfl rfl rfl dX11_change_111 ?_
        refine g_iload_n dX11_change_114 rfl ?_
        refine g_iload_n dX11_change_115 rfl ?_
        obtain ⟨⟨x14, μ16⟩, q15, h⟩ := g_bind h
        refine m_cV mt_X9_replace ml_X11_116 mv_X9_replace dX11_change_116 (k_X9_replace_12 hR q15) rfl rfl rfl rfl (by decide) ⟨Nat.le_refl _, Nat.le_refl _⟩ (Nat.le_of_ble_eq_true rfl) ?_
        refine g_goto 123 (by decide) dX11_change_119 ?_
        obtain rfl := Option.some.inj h
        exact g_iret rfl (Nat.le_refl _) rfl dX11_change_123 ⟨rfl, rfl⟩
    have h := g_ifn c12 h
    by_cases c17 : a2 = 4
    · have h := g_ifp c17 h
      refine m_tab 4 124 c17 dX11_change_11 (by decide) (by decide) rfl (by decide) ?_
      refine g_iload_n dX11_change_124 rfl ?_
      refine g_ic0 dX11_change_125 ?_
      refine g_bipush (v := 9) dX11_change_126 (by decide) ?_
      refine m_cS mt_X11_isBetween ml_X11_120 ms_X11_isBetween dX11_change_128 (k_X11_isBetween rfl) rfl rfl (by decide) ⟨Nat.le_refl _, Nat.le_refl _⟩ (Nat.le_of_ble_eq_true rfl) ?_
      refine g_if_eq 146 (by decide) dX11_change_131 (fun c18 => ?_) (fun c18 => ?_)
      · have h := g_ifp c18 h
        refine g_icm1 dX11_change_146 ?_
        obtain rfl := Option.some.inj h
        exact g_iret rfl (Nat.le_refl _) rfl dX11_change_147 ⟨rfl, rfl⟩
      · have h := g_ifn c18 h
        refine g_aload_n dX11_change_134 rfl ?_
        refine m_getR fl_X11_10 rfl rfl rfl dX11_change_135 ?_
        refine g_iload_n dX11_change_138 rfl ?_
        refine g_iload_n dX11_change_139 rfl ?_
        obtain ⟨⟨x19, μ21⟩, q20, h⟩ := g_bind h
        refine m_cV mt_X9_replaceAway ml_X11_124 mv_X9_replaceAway dX11_change_140 (k_X9_replaceAway q20) rfl rfl rfl rfl (by decide) ⟨Nat.le_refl _, Nat.le_refl _⟩ (Nat.le_of_ble_eq_true rfl) ?_
        refine g_goto 147 (by decide) dX11_change_143 ?_
        obtain rfl := Option.some.inj h
        exact g_iret rfl (Nat.le_refl _) rfl dX11_change_147 ⟨rfl, rfl⟩
    have h := g_ifn c17 h
    refine g_tabOut 148 dX11_change_11 (by have nc2 := m_ne 1 1 c2 (by decide); have nc7 := m_ne 2 2 c7 (by decide); have nc12 := m_ne 3 3 c12 (by decide); have nc17 := m_ne 4 4 c17 (by decide); omega) (by decide) ?_
    refine g_icm1 dX11_change_148 ?_
    obtain rfl := Option.some.inj h
    exact g_iret rfl (Nat.le_refl _) rfl dX11_change_149 ⟨rfl, rfl⟩
  · have h := g_ifp c1 h
    refine g_icm1 dX11_change_8 ?_
    obtain rfl := Option.some.inj h
    exact g_iret rfl (Nat.le_refl _) rfl dX11_change_9 ⟨rfl, rfl⟩
set_option maxRecDepth 100000 in
set_option maxHeartbeats 4000000 in
theorem k_X9_replace_9 {D : va_G} {cA : Nat → ClassId} {b b2 k : Nat} {dyn : Nat → Nat} {t s : Nat} {L : Nat} {N : Nat} (hR : g_RO (g_XX D cA b b2 dyn) k (g_rfX t s) t L) {a1 : Int32} {a2 : Int32} {μ : g_M} {z : Int32 × g_M} (h : f_X9_replace_9 N t L a1 a2 μ = some z) : g_K (g_XX D cA b b2 dyn) yX9_replace Y_X9_replace 7 0 0 k [.ref 1, .ref 9, .int a1, .int a2] (μ, (g_rfX t s)) (fun r1 σ1 => r1 = some (.int z.1) ∧ σ1 = (z.2, (g_rfX t s))) := by
  unfold f_X9_replace_9 at h
  refine g_met 1 (by decide) rfl rfl (Nat.le_of_ble_eq_true rfl) ?_
  refine g_aload_n dX9_replace_0 rfl ?_
  refine g_iload_n dX9_replace_1 rfl ?_
  obtain ⟨x1, qx1, h⟩ := g_bind h
  refine m_iald rfl qx1 dX9_replace_2 ?_
  refine g_istore_4 rfl (Nat.le_of_ble_eq_true rfl) dX9_replace_3 ?_
  refine g_aload_n dX9_replace_5 rfl ?_
  refine g_iload_n dX9_replace_6 rfl ?_
  refine g_iload_n dX9_replace_7 rfl ?_
  obtain ⟨μ2, qμ2, h⟩ := g_bind h
  refine m_iast rfl qμ2 dX9_replace_8 ?_
  refine g_aload_n dX9_replace_9 rfl ?_
  refine g_iload_n dX9_replace_10 rfl ?_
  obtain ⟨μ5, q4, h⟩ := g_bind h
  refine m_cVv mt_X9_settle ml_X9_98 mv_X9_settle dX9_replace_11 (k_X9_settle hR q4) rfl rfl rfl rfl (by decide) ⟨Nat.le_refl _, Nat.le_refl _⟩ (Nat.le_of_ble_eq_true rfl) ?_
  refine g_iload dX9_replace_14 rfl ?_
  obtain rfl := Option.some.inj h
  exact g_iret rfl (Nat.le_refl _) rfl dX9_replace_16 ⟨rfl, rfl⟩
set_option maxRecDepth 100000 in
set_option maxHeartbeats 4000000 in
theorem k_X11_remake {D : va_G} {cA : Nat → ClassId} {b b2 k : Nat} {dyn : Nat → Nat} {t s : Nat} {L : Nat} {N : Nat} (hR : g_RO (g_XX D cA b b2 dyn) k (g_rfX t s) t L) {a1 : Int32} {a2 : Int32} {μ : g_M} {z : Int32 × g_M} (h : f_X11_remake N t L a1 a2 μ = some z) : g_K (g_XX D cA b b2 dyn) yX11_remake Y_X11_remake 8 0 0 k [.ref 0, .int a1, .int a2] (μ, (g_rfX t s)) (fun r1 σ1 => r1 = some (.int z.1) ∧ σ1 = (z.2, (g_rfX t s))) := by
  unfold f_X11_remake at h
  refine g_met 0 (by decide) rfl rfl (Nat.le_of_ble_eq_true rfl) ?_
  refine g_aload_n dX11_remake_0 rfl ?_
  refine g_iload_n dX11_remake_1 rfl ?_
  refine m_cV mt_X11_isOven ml_X11_78 mv_X11_isOven dX11_remake_2 (k_X11_isOven rfl) rfl rfl rfl rfl (by decide) ⟨Nat.le_refl _, Nat.le_refl _⟩ (Nat.le_of_ble_eq_true rfl) ?_
  refine g_if_eq 15 (by decide) dX11_remake_5 (fun c1 => ?_) (fun c1 => ?_)
  · have h := g_ifp c1 h
    refine g_icm1 dX11_remake_15 ?_
    obtain rfl := Option.some.inj h
    exact g_iret rfl (Nat.le_refl _) rfl dX11_remake_16 ⟨rfl, rfl⟩
  · have h := g_ifn c1 h
    refine g_iload_n dX11_remake_8 rfl ?_
    refine m_cS mt_X11_isKind ml_X11_57 ms_X11_isKind dX11_remake_9 (k_X11_isKind rfl) rfl rfl (by decide) ⟨Nat.le_refl _, Nat.le_refl _⟩ (Nat.le_of_ble_eq_true rfl) ?_
    refine g_if_ne 17 (by decide) dX11_remake_12 (fun c2 => ?_) (fun c2 => ?_)
    · have h := g_ifn c2 h
      refine g_aload_n dX11_remake_17 rfl ?_
      refine m_getR fl_X11_10 rfl rfl rfl dX11_remake_18 ?_
      refine g_aload_n dX11_remake_21 rfl ?_
      refine m_getR fl_X11_10 rfl rfl rfl dX11_remake_22 ?_
      refine m_getR fl_X11_81 rfl rfl rfl dX11_remake_25 ?_
      refine g_iload_n dX11_remake_28 rfl ?_
      refine g_iload_n dX11_remake_29 rfl ?_
      obtain ⟨⟨x3, μ5⟩, q4, h⟩ := g_bind h
      refine m_cV mt_X9_replace ml_X11_116 mv_X9_replace dX11_remake_30 (k_X9_replace_9 hR q4) rfl rfl rfl rfl (by decide) ⟨Nat.le_refl _, Nat.le_refl _⟩ (Nat.le_of_ble_eq_true rfl) ?_
      obtain rfl := Option.some.inj h
      exact g_iret rfl (Nat.le_refl _) rfl dX11_remake_33 ⟨rfl, rfl⟩
    · have h := g_ifp c2 h
      refine g_icm1 dX11_remake_15 ?_
      obtain rfl := Option.some.inj h
      exact g_iret rfl (Nat.le_refl _) rfl dX11_remake_16 ⟨rfl, rfl⟩
set_option maxRecDepth 100000 in
set_option maxHeartbeats 4000000 in
theorem k_X11_longing {D : va_G} {cA : Nat → ClassId} {b b2 k : Nat} {dyn : Nat → Nat} {t s : Nat} {a1 : Int32} {a2 : Int32} {μ : g_M} {z : Int32} (h : f_X11_longing a1 a2 μ = some z) : g_K (g_XX D cA b b2 dyn) yX11_longing Y_X11_longing 3 0 0 k [.ref 0, .int a1, .int a2] (μ, (g_rfX t s)) (fun r1 σ1 => r1 = some (.int z) ∧ σ1 = (μ, (g_rfX t s))) := by
  unfold f_X11_longing at h
  refine g_met 0 (by decide) rfl rfl (Nat.le_of_ble_eq_true rfl) ?_
  refine g_aload_n dX11_longing_0 rfl ?_
  refine g_iload_n dX11_longing_1 rfl ?_
  refine m_cV mt_X11_isOven ml_X11_78 mv_X11_isOven dX11_longing_2 (k_X11_isOven rfl) rfl rfl rfl rfl (by decide) ⟨Nat.le_refl _, Nat.le_refl _⟩ (Nat.le_of_ble_eq_true rfl) ?_
  refine g_if_eq 21 (by decide) dX11_longing_5 (fun c1 => ?_) (fun c1 => ?_)
  · have h := g_ifp c1 h
    refine g_icm1 dX11_longing_21 ?_
    obtain rfl := Option.some.inj h
    exact g_iret rfl (Nat.le_refl _) rfl dX11_longing_22 ⟨rfl, rfl⟩
  · have h := g_ifn c1 h
    refine g_aload_n dX11_longing_8 rfl ?_
    refine g_iload_n dX11_longing_9 rfl ?_
    refine m_cV mt_X11_isOven ml_X11_78 mv_X11_isOven dX11_longing_10 (k_X11_isOven rfl) rfl rfl rfl rfl (by decide) ⟨Nat.le_refl _, Nat.le_refl _⟩ (Nat.le_of_ble_eq_true rfl) ?_
    refine g_if_eq 21 (by decide) dX11_longing_13 (fun c2 => ?_) (fun c2 => ?_)
    · have h := g_ifp c2 h
      refine g_icm1 dX11_longing_21 ?_
      obtain rfl := Option.some.inj h
      exact g_iret rfl (Nat.le_refl _) rfl dX11_longing_22 ⟨rfl, rfl⟩
    · have h := g_ifn c2 h
      refine g_iload_n dX11_longing_16 rfl ?_
      refine g_iload_n dX11_longing_17 rfl ?_
      refine g_icmp_ne 23 (by decide) dX11_longing_18 (fun c3 => ?_) (fun c3 => ?_)
      · have h := g_ifn c3 h
        refine g_aload_n dX11_longing_23 rfl ?_
        refine m_getR fl_X11_10 rfl rfl rfl dX11_longing_24 ?_
        refine g_iload_n dX11_longing_27 rfl ?_
        refine g_iload_n dX11_longing_28 rfl ?_
        obtain ⟨x4, q5, h⟩ := g_bind h
        refine m_cV mt_X9_wishOf ml_X11_127 mv_X9_wishOf dX11_longing_29 (k_X9_wishOf q5) rfl rfl rfl rfl (by decide) ⟨Nat.le_refl _, Nat.le_refl _⟩ (Nat.le_of_ble_eq_true rfl) ?_
        refine g_bipush (v := 100) dX11_longing_32 (by decide) ?_
        refine g_iadd dX11_longing_34 ?_
        obtain rfl := Option.some.inj h
        exact g_iret rfl (Nat.le_refl _) rfl dX11_longing_35 ⟨rfl, rfl⟩
      · have h := g_ifp c3 h
        refine g_icm1 dX11_longing_21 ?_
        obtain rfl := Option.some.inj h
        exact g_iret rfl (Nat.le_refl _) rfl dX11_longing_22 ⟨rfl, rfl⟩
set_option maxRecDepth 100000 in
set_option maxHeartbeats 4000000 in
theorem k_X11_ends {D : va_G} {cA : Nat → ClassId} {b b2 k : Nat} {dyn : Nat → Nat} {t s : Nat} {a1 : Int32} {μ : g_M} {z : Int32 × g_M} (h : f_X11_ends a1 μ = some z) : g_K (g_XX D cA b b2 dyn) yX11_ends Y_X11_ends 2 0 0 k [.ref 0, .int a1] (μ, (g_rfX t s)) (fun r1 σ1 => r1 = some (.int z.1) ∧ σ1 = (z.2, (g_rfX t s))) := by
  unfold f_X11_ends at h
  refine g_met 1 (by decide) rfl rfl (Nat.le_of_ble_eq_true rfl) ?_
  refine g_iload_n dX11_ends_0 rfl ?_
  refine g_ic1 dX11_ends_1 ?_
  refine g_bipush (v := 16) dX11_ends_2 (by decide) ?_
  refine m_cS mt_X11_isBetween ml_X11_120 ms_X11_isBetween dX11_ends_4 (k_X11_isBetween rfl) rfl rfl (by decide) ⟨Nat.le_refl _, Nat.le_refl _⟩ (Nat.le_of_ble_eq_true rfl) ?_
  refine g_if_ne 12 (by decide) dX11_ends_7 (fun c1 => ?_) (fun c1 => ?_)
  · have h := g_ifn c1 h
    refine g_iload_n dX11_ends_12 rfl ?_
    refine g_aload_n dX11_ends_13 rfl ?_
    refine m_getR fl_X11_10 rfl rfl rfl dX11_ends_14 ?_
    refine m_getI fl_X11_100 rfl rfl dX11_ends_17 ?_
    refine g_icmp_ge 26 (by decide) dX11_ends_20 (fun c2 => ?_) (fun c2 => ?_)
    · have h := g_ifp c2 h
      refine g_aload_n dX11_ends_26 rfl ?_
      refine m_getR fl_X11_10 rfl rfl rfl dX11_ends_27 ?_
      refine m_getI fl_X11_130 rfl rfl dX11_ends_30 ?_
      refine g_istore_2 rfl (Nat.le_of_ble_eq_true rfl) dX11_ends_33 ?_
      refine g_aload_n dX11_ends_34 rfl ?_
      refine m_getR fl_X11_10 rfl rfl rfl dX11_ends_35 ?_
      refine g_iload_n dX11_ends_38 rfl ?_
      obtain ⟨μ3, eμ3, h⟩ := g_let h
      refine m_putI fl_X11_130 fw_9_14 rfl rfl rfl rfl dX11_ends_39 eμ3 ?_
      refine g_iload_n dX11_ends_42 rfl ?_
      obtain rfl := Option.some.inj h
      exact g_iret rfl (Nat.le_refl _) rfl dX11_ends_43 ⟨rfl, rfl⟩
    · have h := g_ifn c2 h
      refine g_bipush (v := (-4)) dX11_ends_23 (by decide) ?_
      obtain rfl := Option.some.inj h
      exact g_iret rfl (Nat.le_refl _) rfl dX11_ends_25 ⟨rfl, rfl⟩
  · have h := g_ifp c1 h
    refine g_icm1 dX11_ends_10 ?_
    obtain rfl := Option.some.inj h
    exact g_iret rfl (Nat.le_refl _) rfl dX11_ends_11 ⟨rfl, rfl⟩
set_option maxRecDepth 100000 in
set_option maxHeartbeats 4000000 in
theorem k_X11_anew {D : va_G} {cA : Nat → ClassId} {b b2 k : Nat} {dyn : Nat → Nat} {t s : Nat} {μ : g_M} {z : Int32 × g_M} (h : f_X11_anew μ = some z) : g_K (g_XX D cA b b2 dyn) yX11_anew Y_X11_anew 1 0 0 k [.ref 0] (μ, (g_rfX t s)) (fun r1 σ1 => r1 = some (.int z.1) ∧ σ1 = (z.2, (g_rfX t s))) := by
  unfold f_X11_anew at h
  refine g_met 1 (by decide) rfl rfl (Nat.le_of_ble_eq_true rfl) ?_
  refine g_aload_n dX11_anew_0 rfl ?_
  refine m_getR fl_X11_10 rfl rfl rfl dX11_anew_1 ?_
  refine m_getI fl_X11_100 rfl rfl dX11_anew_4 ?_
  refine g_istore_1 rfl (Nat.le_of_ble_eq_true rfl) dX11_anew_7 ?_
  refine g_aload_n dX11_anew_8 rfl ?_
  refine m_getR fl_X11_10 rfl rfl rfl dX11_anew_9 ?_
  refine g_ic0 dX11_anew_12 ?_
  obtain ⟨μ1, eμ1, h⟩ := g_let h
  refine m_putI fl_X11_100 fw_9_13 rfl rfl rfl rfl dX11_anew_13 eμ1 ?_
  refine g_aload_n dX11_anew_16 rfl ?_
  refine m_getR fl_X11_10 rfl rfl rfl dX11_anew_17 ?_
  refine g_ic0 dX11_anew_20 ?_
  obtain ⟨μ2, eμ2, h⟩ := g_let h
  refine m_putI fl_X11_133 fw_9_15 rfl rfl rfl rfl dX11_anew_21 eμ2 ?_
  refine g_aload_n dX11_anew_24 rfl ?_
  refine m_getR fl_X11_10 rfl rfl rfl dX11_anew_25 ?_
  refine g_ic0 dX11_anew_28 ?_
  obtain ⟨μ3, eμ3, h⟩ := g_let h
  refine m_putI fl_X11_93 fw_9_12 rfl rfl rfl rfl dX11_anew_29 eμ3 ?_
  refine g_iload_n dX11_anew_32 rfl ?_
  obtain rfl := Option.some.inj h
  exact g_iret rfl (Nat.le_refl _) rfl dX11_anew_33 ⟨rfl, rfl⟩
set_option maxRecDepth 100000 in
set_option maxHeartbeats 4000000 in
theorem k_X9_isOver {D : va_G} {cA : Nat → ClassId} {b b2 k : Nat} {dyn : Nat → Nat} {t s : Nat} {μ : g_M} {z : Int32} (h : f_X9_isOver μ = z) : g_K (g_XX D cA b b2 dyn) yX9_isOver Y_X9_isOver 1 0 0 k [.ref 1] (μ, (g_rfX t s)) (fun r1 σ1 => r1 = some (.int z) ∧ σ1 = (μ, (g_rfX t s))) := by
  unfold f_X9_isOver at h
  refine g_met 0 (by decide) rfl rfl (Nat.le_of_ble_eq_true rfl) ?_
  refine g_aload_n dX9_isOver_0 rfl ?_
  refine m_getI fl_X9_89 rfl rfl dX9_isOver_1 ?_
  refine g_aload_n dX9_isOver_4 rfl ?_
  refine m_getI fl_X9_70 rfl rfl dX9_isOver_5 ?_
  refine g_icmp_lt 15 (by decide) dX9_isOver_8 (fun c1 => ?_) (fun c1 => ?_)
  · have h := g_ifp c1 h
    refine g_ic0 dX9_isOver_15 ?_
    subst h
    exact g_zret rfl (Nat.le_refl _) rfl rfl dX9_isOver_16 ⟨rfl, rfl⟩
  · have h := g_ifn c1 h
    refine g_ic1 dX9_isOver_11 ?_
    refine g_goto 16 (by decide) dX9_isOver_12 ?_
    subst h
    exact g_zret rfl (Nat.le_refl _) rfl rfl dX9_isOver_16 ⟨rfl, rfl⟩
set_option maxRecDepth 100000 in
set_option maxHeartbeats 4000000 in
theorem zb_X9_isOver (μ : g_M) : narrow .boolean (.int (f_X9_isOver μ)) = .int (f_X9_isOver μ) := by
  unfold f_X9_isOver
  repeat' split
  all_goals first | rfl | rfl
set_option maxRecDepth 100000 in
set_option maxHeartbeats 4000000 in
theorem k_X11_state {D : va_G} {cA : Nat → ClassId} {b b2 k : Nat} {dyn : Nat → Nat} {t s : Nat} {N : Nat} {a1 : Int32} {μ : g_M} {z : Int32} (h : f_X11_state N a1 μ = some z) : g_K (g_XX D cA b b2 dyn) yX11_state Y_X11_state 3 0 0 k [.ref 0, .int a1] (μ, (g_rfX t s)) (fun r1 σ1 => r1 = some (.int z) ∧ σ1 = (μ, (g_rfX t s))) := by
  unfold f_X11_state at h
  refine g_met 0 (by decide) rfl rfl (Nat.le_of_ble_eq_true rfl) ?_
  refine g_iload_n dX11_state_0 rfl ?_
  by_cases c1 : a1 = 0
  · have h := g_ifp c1 h
    refine m_tab 0 36 c1 dX11_state_1 (by decide) (by decide) rfl (by decide) ?_
    refine g_aload_n dX11_state_36 rfl ?_
    refine m_getR fl_X11_10 rfl rfl rfl dX11_state_37 ?_
    refine m_getI fl_X11_100 rfl rfl dX11_state_40 ?_
    obtain rfl := Option.some.inj h
    exact g_iret rfl (Nat.le_refl _) rfl dX11_state_43 ⟨rfl, rfl⟩
  have h := g_ifn c1 h
  by_cases c2 : a1 = 1
  · have h := g_ifp c2 h
    refine m_tab 1 44 c2 dX11_state_1 (by decide) (by decide) rfl (by decide) ?_
    refine g_aload_n dX11_state_44 rfl ?_
    refine m_getR fl_X11_10 rfl rfl rfl dX11_state_45 ?_
    refine m_getI fl_X11_130 rfl rfl dX11_state_48 ?_
    obtain rfl := Option.some.inj h
    exact g_iret rfl (Nat.le_refl _) rfl dX11_state_51 ⟨rfl, rfl⟩
  have h := g_ifn c2 h
  by_cases c3 : a1 = 2
  · have h := g_ifp c3 h
    refine m_tab 2 52 c3 dX11_state_1 (by decide) (by decide) rfl (by decide) ?_
    refine g_aload_n dX11_state_52 rfl ?_
    refine m_getR fl_X11_10 rfl rfl rfl dX11_state_53 ?_
    refine m_getI fl_X11_133 rfl rfl dX11_state_56 ?_
    obtain rfl := Option.some.inj h
    exact g_iret rfl (Nat.le_refl _) rfl dX11_state_59 ⟨rfl, rfl⟩
  have h := g_ifn c3 h
  by_cases c4 : a1 = 3
  · have h := g_ifp c4 h
    refine m_tab 3 60 c4 dX11_state_1 (by decide) (by decide) rfl (by decide) ?_
    refine g_aload_n dX11_state_60 rfl ?_
    refine m_getR fl_X11_10 rfl rfl rfl dX11_state_61 ?_
    refine m_cV mt_X9_isOver ml_X11_136 mv_X9_isOver dX11_state_64 (k_X9_isOver rfl) rfl rfl rfl rfl (by decide) ⟨Nat.le_refl _, Nat.le_refl _⟩ (Nat.le_of_ble_eq_true rfl) ?_
    refine g_if_eq 74 (by decide) dX11_state_67 (fun c5 => ?_) (fun c5 => ?_)
    · have h := g_ifp c5 h
      refine g_ic0 dX11_state_74 ?_
      obtain rfl := Option.some.inj h
      exact g_iret rfl (Nat.le_refl _) rfl dX11_state_75 ⟨rfl, rfl⟩
    · have h := g_ifn c5 h
      refine g_ic1 dX11_state_70 ?_
      refine g_goto 75 (by decide) dX11_state_71 ?_
      obtain rfl := Option.some.inj h
      exact g_iret rfl (Nat.le_refl _) rfl dX11_state_75 ⟨rfl, rfl⟩
  have h := g_ifn c4 h
  by_cases c6 : a1 = 4
  · have h := g_ifp c6 h
    refine m_tab 4 76 c6 dX11_state_1 (by decide) (by decide) rfl (by decide) ?_
    refine g_aload_n dX11_state_76 rfl ?_
    refine m_getR fl_X11_10 rfl rfl rfl dX11_state_77 ?_
    refine g_aload_n dX11_state_80 rfl ?_
    refine m_getR fl_X11_10 rfl rfl rfl dX11_state_81 ?_
    refine m_getI fl_X11_93 rfl rfl dX11_state_84 ?_
    obtain ⟨x7, q8, h⟩ := g_bind h
    refine m_cV mt_X9_homeSet ml_X11_140 mv_X9_homeSet dX11_state_87 (k_X9_homeSet q8) rfl rfl rfl rfl (by decide) ⟨Nat.le_refl _, Nat.le_refl _⟩ (Nat.le_of_ble_eq_true rfl) ?_
    obtain rfl := Option.some.inj h
    exact g_iret rfl (Nat.le_refl _) rfl dX11_state_90 ⟨rfl, rfl⟩
  have h := g_ifn c6 h
  refine g_tabOut 91 dX11_state_1 (by have nc1 := m_ne 0 0 c1 (by decide); have nc2 := m_ne 1 1 c2 (by decide); have nc3 := m_ne 2 2 c3 (by decide); have nc4 := m_ne 3 3 c4 (by decide); have nc6 := m_ne 4 4 c6 (by decide); omega) (by decide) ?_
  refine g_icm1 dX11_state_91 ?_
  obtain rfl := Option.some.inj h
  exact g_iret rfl (Nat.le_refl _) rfl dX11_state_92 ⟨rfl, rfl⟩
set_option maxRecDepth 100000 in
set_option maxHeartbeats 4000000 in
theorem k_X8_takeByte {D : va_G} {cA : Nat → ClassId} {b b2 k : Nat} {dyn : Nat → Nat} {t s : Nat} {a1 : Int32} {μ : g_M} {z : g_M} (h : f_X8_takeByte a1 μ = some z) : g_K (g_XX D cA b b2 dyn) yX8_takeByte Y_X8_takeByte 1 0 0 k [.ref 45, .int a1] (μ, (g_rfX t s)) (fun r1 σ1 => r1 = none ∧ σ1 = (z, (g_rfX t s))) := by
  unfold f_X8_takeByte at h
  refine g_met 0 (by decide) rfl rfl (Nat.le_of_ble_eq_true rfl) ?_
  refine g_aload_n dX8_takeByte_0 rfl ?_
  refine m_getI fl_X8_24 rfl rfl dX8_takeByte_1 ?_
  refine g_sipush (v := 200) dX8_takeByte_4 (by decide) ?_
  refine g_icmp_ge 30 (by decide) dX8_takeByte_7 (fun c1 => ?_) (fun c1 => ?_)
  · have h := g_ifp c1 h
    obtain rfl := Option.some.inj h
    exact g_vret rfl (Nat.le_refl _) rfl dX8_takeByte_30 ⟨rfl, rfl⟩
  · have h := g_ifn c1 h
    refine g_aload_n dX8_takeByte_10 rfl ?_
    refine m_getR fl_X8_9 rfl rfl rfl dX8_takeByte_11 ?_
    refine g_aload_n dX8_takeByte_14 rfl ?_
    refine m_getI fl_X8_24 rfl rfl dX8_takeByte_15 ?_
    refine g_iload_n dX8_takeByte_18 rfl ?_
    obtain ⟨μ2, qμ2, h⟩ := g_bind h
    refine m_iast rfl qμ2 dX8_takeByte_19 ?_
    refine g_aload_n dX8_takeByte_20 rfl ?_
    refine g_dup dX8_takeByte_21 rfl ?_
    refine m_getI fl_X8_24 rfl rfl dX8_takeByte_22 ?_
    refine g_ic1 dX8_takeByte_25 ?_
    refine g_iadd dX8_takeByte_26 ?_
    obtain ⟨μ3, eμ3, h⟩ := g_let h
    refine m_putI fl_X8_24 fw_8_6 rfl rfl rfl rfl dX8_takeByte_27 eμ3 ?_
    obtain rfl := Option.some.inj h
    exact g_vret rfl (Nat.le_refl _) rfl dX8_takeByte_30 ⟨rfl, rfl⟩
set_option maxRecDepth 100000 in
set_option maxHeartbeats 4000000 in
theorem k_X11_feed_L33 {D : va_G} {cA : Nat → ClassId} {b b2 k : Nat} {dyn : Nat → Nat} {t s : Nat} {Q : Option Value → g_S → Prop} {N : Nat} : ∀ (n : Nat) (x_1 : Int64) (x_3 : Int32) (x_4 : Int32) (μ : g_M) (z_μ : g_M), f_X11_feed_L33 N n x_1 x_3 x_4 μ = some z_μ → g_V (g_XX D cA b b2 dyn) Y_X11_feed 2 0 0 Q k 0 0 64 [some (.ref 0), none, none, none, none] [] (z_μ, (g_rfX t s)) → g_V (g_XX D cA b b2 dyn) Y_X11_feed 2 0 0 Q k 0 0 33 [some (.ref 0), some (.long x_1), none, some (.int x_3), some (.int x_4)] [] (μ, (g_rfX t s)) := by
  intro n
  induction n with
  | zero =>
    intro x_1 x_3 x_4 μ z_μ h
    rw [f_X11_feed_L33] at h
    cases h
  | succ n ih =>
    intro x_1 x_3 x_4 μ z_μ h hc
    rw [f_X11_feed_L33] at h
    refine g_iload dX11_feed_33 rfl ?_
    refine g_iload_n dX11_feed_35 rfl ?_
    refine g_icmp_ge 64 (by decide) dX11_feed_36 (fun c3 => ?_) (fun c3 => ?_)
    · have h := g_ifp c3 h
      obtain rfl := Option.some.inj h
      exact g_less _ (g_subS (g_subN (g_subN (g_subN (g_subN g_sub0))))) hc
    · have h := g_ifn c3 h
      refine g_aload_n dX11_feed_39 rfl ?_
      refine m_getR fl_X11_22 rfl rfl rfl dX11_feed_40 ?_
      refine g_lload_n dX11_feed_43 rfl ?_
      refine g_bipush (v := 8) dX11_feed_44 (by decide) ?_
      refine g_iload dX11_feed_46 rfl ?_
      refine g_imul dX11_feed_48 ?_
      refine g_lushr dX11_feed_49 ?_
      refine g_l2i dX11_feed_50 ?_
      refine g_sipush (v := 255) dX11_feed_51 (by decide) ?_
      refine g_iand dX11_feed_54 ?_
      obtain ⟨μ6, q5, h⟩ := g_bind h
      refine m_cVv mt_X8_takeByte ml_X11_147 mv_X8_takeByte dX11_feed_55 (k_X8_takeByte q5) rfl rfl rfl rfl (by decide) ⟨Nat.le_refl _, Nat.le_refl _⟩ (Nat.le_of_ble_eq_true rfl) ?_
      refine g_iinc_4 (v := 1) rfl (by decide) (Nat.le_of_ble_eq_true rfl) dX11_feed_58 ?_
      refine g_goto 33 (by decide) dX11_feed_61 ?_
      exact g_less _ (g_subS (g_subS (g_subN (g_subS (g_subS g_sub0))))) (ih _ _ _ _ _ h hc)
set_option maxRecDepth 100000 in
set_option maxHeartbeats 4000000 in
theorem k_X11_feed {D : va_G} {cA : Nat → ClassId} {b b2 k : Nat} {dyn : Nat → Nat} {t s : Nat} {N : Nat} {a1 : Int64} {a2 : Int32} {μ : g_M} {z : Int32 × g_M} (h : f_X11_feed N a1 a2 μ = some z) : g_K (g_XX D cA b b2 dyn) yX11_feed Y_X11_feed 2 0 0 k [.ref 0, .long a1, .int a2] (μ, (g_rfX t s)) (fun r1 σ1 => r1 = some (.int z.1) ∧ σ1 = (z.2, (g_rfX t s))) := by
  unfold f_X11_feed at h
  refine g_met 1 (by decide) rfl rfl (Nat.le_of_ble_eq_true rfl) ?_
  refine g_iload_n dX11_feed_0 rfl ?_
  refine g_ic1 dX11_feed_1 ?_
  refine g_bipush (v := 8) dX11_feed_2 (by decide) ?_
  refine m_cS mt_X11_isBetween ml_X11_120 ms_X11_isBetween dX11_feed_4 (k_X11_isBetween rfl) rfl rfl (by decide) ⟨Nat.le_refl _, Nat.le_refl _⟩ (Nat.le_of_ble_eq_true rfl) ?_
  refine g_if_ne 12 (by decide) dX11_feed_7 (fun c1 => ?_) (fun c1 => ?_)
  · have h := g_ifn c1 h
    refine g_aload_n dX11_feed_12 rfl ?_
    refine m_getR fl_X11_22 rfl rfl rfl dX11_feed_13 ?_
    refine m_getI fl_X11_144 rfl rfl dX11_feed_16 ?_
    refine g_iload_n dX11_feed_19 rfl ?_
    refine g_iadd dX11_feed_20 ?_
    refine g_sipush (v := 200) dX11_feed_21 (by decide) ?_
    refine g_icmp_le 30 (by decide) dX11_feed_24 (fun c2 => ?_) (fun c2 => ?_)
    · have h := g_ifp c2 h
      refine g_ic0 dX11_feed_30 ?_
      refine g_istore_4 rfl (Nat.le_of_ble_eq_true rfl) dX11_feed_31 ?_
      obtain ⟨μ3, q4, h⟩ := g_bind h
      refine g_less _ (g_subS (g_subS (g_subN (g_subS (g_subS g_sub0))))) (k_X11_feed_L33 _ _ _ _ _ _ q4 ?_)
      refine g_aload_n dX11_feed_64 rfl ?_
      refine m_getR fl_X11_22 rfl rfl rfl dX11_feed_65 ?_
      refine m_getI fl_X11_144 rfl rfl dX11_feed_68 ?_
      obtain rfl := Option.some.inj h
      exact g_iret rfl (Nat.le_refl _) rfl dX11_feed_71 ⟨rfl, rfl⟩
    · have h := g_ifn c2 h
      refine g_bipush (v := (-2)) dX11_feed_27 (by decide) ?_
      obtain rfl := Option.some.inj h
      exact g_iret rfl (Nat.le_refl _) rfl dX11_feed_29 ⟨rfl, rfl⟩
  · have h := g_ifp c1 h
    refine g_icm1 dX11_feed_10 ?_
    obtain rfl := Option.some.inj h
    exact g_iret rfl (Nat.le_refl _) rfl dX11_feed_11 ⟨rfl, rfl⟩
set_option maxRecDepth 100000 in
set_option maxHeartbeats 4000000 in
theorem k_X9_oneLess_L4 {D : va_G} {cA : Nat → ClassId} {b b2 k : Nat} {dyn : Nat → Nat} {t s : Nat} {Q : Option Value → g_S → Prop} {N : Nat} : ∀ (n : Nat) (x_1 : Int32) (x_2 : Int32) (x_3 : Int32) (μ : g_M) (z_2 : Int32), f_X9_oneLess_L4 N n x_1 x_2 x_3 μ = some z_2 → g_V (g_XX D cA b b2 dyn) Y_X9_oneLess 2 0 0 Q k 0 0 35 [none, none, some (.int z_2), none] [] (μ, (g_rfX t s)) → g_V (g_XX D cA b b2 dyn) Y_X9_oneLess 2 0 0 Q k 0 0 4 [some (.ref 1), some (.int x_1), some (.int x_2), some (.int x_3)] [] (μ, (g_rfX t s)) := by
  intro n
  induction n with
  | zero =>
    intro x_1 x_2 x_3 μ z_2 h
    rw [f_X9_oneLess_L4] at h
    cases h
  | succ n ih =>
    intro x_1 x_2 x_3 μ z_2 h hc
    rw [f_X9_oneLess_L4] at h
    refine g_iload_n dX9_oneLess_4 rfl ?_
    refine g_aload_n dX9_oneLess_5 rfl ?_
    refine m_getI fl_X9_83 rfl rfl dX9_oneLess_6 ?_
    refine g_icmp_ge 35 (by decide) dX9_oneLess_9 (fun c1 => ?_) (fun c1 => ?_)
    · have h := g_ifp c1 h
      obtain rfl := Option.some.inj h
      exact g_less _ (g_subN (g_subN (g_subS (g_subN g_sub0)))) hc
    · have h := g_ifn c1 h
      refine g_aload_n dX9_oneLess_12 rfl ?_
      refine g_iload_n dX9_oneLess_13 rfl ?_
      refine g_iload_n dX9_oneLess_14 rfl ?_
      refine m_cV mt_X9_awayOf ml_X9_101 mv_X9_awayOf dX9_oneLess_15 (k_X9_awayOf rfl) rfl rfl rfl rfl (by decide) ⟨Nat.le_refl _, Nat.le_refl _⟩ (Nat.le_of_ble_eq_true rfl) ?_
      refine g_if_eq 29 (by decide) dX9_oneLess_18 (fun c2 => ?_) (fun c2 => ?_)
      · have h := g_ifp c2 h
        refine g_iinc_3 (v := 1) rfl (by decide) (Nat.le_of_ble_eq_true rfl) dX9_oneLess_29 ?_
        refine g_goto 4 (by decide) dX9_oneLess_32 ?_
        exact g_less _ (g_subS (g_subS (g_subS (g_subS g_sub0)))) (ih _ _ _ _ _ h hc)
      · have h := g_ifn c2 h
        refine g_iload_n dX9_oneLess_21 rfl ?_
        refine g_ic1 dX9_oneLess_22 ?_
        refine g_ic4 dX9_oneLess_23 ?_
        refine g_iload_n dX9_oneLess_24 rfl ?_
        refine g_imul dX9_oneLess_25 ?_
        refine g_ishl dX9_oneLess_26 ?_
        refine g_isub dX9_oneLess_27 ?_
        obtain ⟨x3, ex3, h⟩ := g_let h
        refine g_top ex3 ?_
        refine g_istore_2 rfl (Nat.le_of_ble_eq_true rfl) dX9_oneLess_28 ?_
        refine g_iinc_3 (v := 1) rfl (by decide) (Nat.le_of_ble_eq_true rfl) dX9_oneLess_29 ?_
        refine g_goto 4 (by decide) dX9_oneLess_32 ?_
        exact g_less _ (g_subS (g_subS (g_subS (g_subS g_sub0)))) (ih _ _ _ _ _ h hc)
set_option maxRecDepth 100000 in
set_option maxHeartbeats 4000000 in
theorem k_X9_oneLess {D : va_G} {cA : Nat → ClassId} {b b2 k : Nat} {dyn : Nat → Nat} {t s : Nat} {N : Nat} {a1 : Int32} {μ : g_M} {z : Int32} (h : f_X9_oneLess N a1 μ = some z) : g_K (g_XX D cA b b2 dyn) yX9_oneLess Y_X9_oneLess 2 0 0 k [.ref 1, .int a1] (μ, (g_rfX t s)) (fun r1 σ1 => r1 = some (.int z) ∧ σ1 = (μ, (g_rfX t s))) := by
  unfold f_X9_oneLess at h
  refine g_met 2 (by decide) rfl rfl (Nat.le_of_ble_eq_true rfl) ?_
  refine g_iload_n dX9_oneLess_0 rfl ?_
  refine g_istore_2 rfl (Nat.le_of_ble_eq_true rfl) dX9_oneLess_1 ?_
  refine g_ic0 dX9_oneLess_2 ?_
  refine g_istore_3 rfl (Nat.le_of_ble_eq_true rfl) dX9_oneLess_3 ?_
  obtain ⟨x1, q2, h⟩ := g_bind h
  refine g_less _ (g_subS (g_subS (g_subS (g_subS g_sub0)))) (k_X9_oneLess_L4 _ _ _ _ _ _ q2 ?_)
  refine g_iload_n dX9_oneLess_35 rfl ?_
  obtain rfl := Option.some.inj h
  exact g_iret rfl (Nat.le_refl _) rfl dX9_oneLess_36 ⟨rfl, rfl⟩
set_option maxRecDepth 100000 in
set_option maxHeartbeats 4000000 in
theorem k_X9_after_L20 {D : va_G} {cA : Nat → ClassId} {b b2 k : Nat} {dyn : Nat → Nat} {t s : Nat} {Q : Option Value → g_S → Prop} {N : Nat} : ∀ (n : Nat) (x_2 : Int32) (x_4 : Int32) (x_5 : Int32) (x_6 : Int32) (μ : g_M) (z_μ : g_M), f_X9_after_L20 N n x_2 x_4 x_5 x_6 μ = some z_μ → g_V (g_XX D cA b b2 dyn) Y_X9_after 4 0 0 Q k 0 0 51 [some (.ref 1), none, none, none, some (.int x_4), none, none, none, none] [] (z_μ, (g_rfX t s)) → g_V (g_XX D cA b b2 dyn) Y_X9_after 4 0 0 Q k 0 0 20 [some (.ref 1), none, some (.int x_2), none, some (.int x_4), some (.int x_5), some (.int x_6), none, none] [] (μ, (g_rfX t s)) := by
  intro n
  induction n with
  | zero =>
    intro x_2 x_4 x_5 x_6 μ z_μ h
    rw [f_X9_after_L20] at h
    cases h
  | succ n ih =>
    intro x_2 x_4 x_5 x_6 μ z_μ h hc
    rw [f_X9_after_L20] at h
    refine g_iload dX9_after_20 rfl ?_
    refine g_aload_n dX9_after_22 rfl ?_
    refine m_getI fl_X9_83 rfl rfl dX9_after_23 ?_
    refine g_icmp_ge 51 (by decide) dX9_after_26 (fun c5 => ?_) (fun c5 => ?_)
    · have h := g_ifp c5 h
      obtain rfl := Option.some.inj h
      exact g_less _ (g_subS (g_subN (g_subN (g_subN (g_subS (g_subN (g_subN (g_subN (g_subN g_sub0))))))))) hc
    · have h := g_ifn c5 h
      refine g_aload_n dX9_after_29 rfl ?_
      refine m_getR fl_X9_52 rfl rfl rfl dX9_after_30 ?_
      refine g_iload dX9_after_33 rfl ?_
      refine g_aload_n dX9_after_35 rfl ?_
      refine g_iload dX9_after_36 rfl ?_
      refine g_iload dX9_after_38 rfl ?_
      refine g_iload_n dX9_after_40 rfl ?_
      obtain ⟨x6, q7, h⟩ := g_bind h
      refine m_cV mt_X9_choiceOf ml_X9_151 mv_X9_choiceOf dX9_after_41 (k_X9_choiceOf q7) rfl rfl rfl rfl (by decide) ⟨Nat.le_refl _, Nat.le_refl _⟩ (Nat.le_of_ble_eq_true rfl) ?_
      obtain ⟨μ8, qμ8, h⟩ := g_bind h
      refine m_iast rfl qμ8 dX9_after_44 ?_
      refine g_iinc_6 (v := 1) rfl (by decide) (Nat.le_of_ble_eq_true rfl) dX9_after_45 ?_
      refine g_goto 20 (by decide) dX9_after_48 ?_
      exact g_less _ (g_subS (g_subN (g_subS (g_subN (g_subS (g_subS (g_subS (g_subN (g_subN g_sub0))))))))) (ih _ _ _ _ _ _ h hc)
set_option maxRecDepth 100000 in
set_option maxHeartbeats 4000000 in
theorem k_X9_after_L54 {D : va_G} {cA : Nat → ClassId} {b b2 k : Nat} {dyn : Nat → Nat} {t s : Nat} {Q : Option Value → g_S → Prop} {N : Nat} : ∀ (n : Nat) (x_4 : Int32) (x_6 : Int32) (μ : g_M) (z_4 : Int32), f_X9_after_L54 N n x_4 x_6 μ = some z_4 → g_V (g_XX D cA b b2 dyn) Y_X9_after 4 0 0 Q k 0 0 150 [none, none, none, none, some (.int z_4), none, none, none, none] [] (μ, (g_rfX t s)) → g_V (g_XX D cA b b2 dyn) Y_X9_after 4 0 0 Q k 0 0 54 [some (.ref 1), none, none, none, some (.int x_4), none, some (.int x_6), none, none] [] (μ, (g_rfX t s)) := by
  intro n
  induction n with
  | zero =>
    intro x_4 x_6 μ z_4 h
    rw [f_X9_after_L54] at h
    cases h
  | succ n ih =>
    intro x_4 x_6 μ z_4 h hc
    rw [f_X9_after_L54] at h
    refine g_iload dX9_after_54 rfl ?_
    refine g_aload_n dX9_after_56 rfl ?_
    refine m_getI fl_X9_83 rfl rfl dX9_after_57 ?_
    refine g_icmp_ge 150 (by decide) dX9_after_60 (fun c7 => ?_) (fun c7 => ?_)
    · have h := g_ifp c7 h
      obtain rfl := Option.some.inj h
      exact g_less _ (g_subN (g_subN (g_subN (g_subN (g_subS (g_subN (g_subN (g_subN (g_subN g_sub0))))))))) hc
    · have h := g_ifn c7 h
      refine g_aload_n dX9_after_63 rfl ?_
      refine m_getR fl_X9_52 rfl rfl rfl dX9_after_64 ?_
      refine g_iload dX9_after_67 rfl ?_
      obtain ⟨x8, qx8, h⟩ := g_bind h
      refine m_iald rfl qx8 dX9_after_69 ?_
      refine g_istore_7 rfl (Nat.le_of_ble_eq_true rfl) dX9_after_70 ?_
      refine g_iload dX9_after_72 rfl ?_
      refine g_iload dX9_after_74 rfl ?_
      refine g_icmp_le 144 (by decide) dX9_after_76 (fun c9 => ?_) (fun c9 => ?_)
      · have h := g_ifp c9 h
        refine g_iinc_6 (v := 1) rfl (by decide) (Nat.le_of_ble_eq_true rfl) dX9_after_144 ?_
        refine g_goto 54 (by decide) dX9_after_147 ?_
        exact g_less _ (g_subS (g_subN (g_subN (g_subN (g_subS (g_subN (g_subS (g_subN (g_subN g_sub0))))))))) (ih _ _ _ _ h hc)
      · have h := g_ifn c9 h
        refine g_iload dX9_after_79 rfl ?_
        refine g_aload_n dX9_after_81 rfl ?_
        refine m_getI fl_X9_83 rfl rfl dX9_after_82 ?_
        refine g_icmp_ge 144 (by decide) dX9_after_85 (fun c10 => ?_) (fun c10 => ?_)
        · have h := g_ifp c10 h
          refine g_iinc_6 (v := 1) rfl (by decide) (Nat.le_of_ble_eq_true rfl) dX9_after_144 ?_
          refine g_goto 54 (by decide) dX9_after_147 ?_
          exact g_less _ (g_subS (g_subN (g_subN (g_subN (g_subS (g_subN (g_subS (g_subN (g_subN g_sub0))))))))) (ih _ _ _ _ h hc)
        · have h := g_ifn c10 h
          refine g_aload_n dX9_after_88 rfl ?_
          refine m_getR fl_X9_52 rfl rfl rfl dX9_after_89 ?_
          refine g_iload dX9_after_92 rfl ?_
          obtain ⟨x11, qx11, h⟩ := g_bind h
          refine m_iald rfl qx11 dX9_after_94 ?_
          refine g_iload dX9_after_95 rfl ?_
          refine g_icmp_ne 144 (by decide) dX9_after_97 (fun c12 => ?_) (fun c12 => ?_)
          · have h := g_ifn c12 h
            refine g_iinc_6 (v := 1) rfl (by decide) (Nat.le_of_ble_eq_true rfl) dX9_after_144 ?_
            refine g_goto 54 (by decide) dX9_after_147 ?_
            exact g_less _ (g_subS (g_subN (g_subN (g_subN (g_subS (g_subN (g_subS (g_subN (g_subN g_sub0))))))))) (ih _ _ _ _ h hc)
          · have h := g_ifp c12 h
            refine g_ic2 dX9_after_100 ?_
            refine g_aload_n dX9_after_101 rfl ?_
            refine m_getR fl_X9_40 rfl rfl rfl dX9_after_102 ?_
            refine g_iload dX9_after_105 rfl ?_
            obtain ⟨x13, qx13, h⟩ := g_bind h
            refine m_iald rfl qx13 dX9_after_107 ?_
            refine g_aload_n dX9_after_108 rfl ?_
            refine m_getR fl_X9_40 rfl rfl rfl dX9_after_109 ?_
            refine g_iload dX9_after_112 rfl ?_
            obtain ⟨x14, qx14, h⟩ := g_bind h
            refine m_iald rfl qx14 dX9_after_114 ?_
            refine g_isub dX9_after_115 ?_
            refine m_abs ml_X9_112 dX9_after_116 (by decide) ⟨Nat.le_refl _, Nat.le_refl _⟩ (Nat.le_of_ble_eq_true rfl) ?_
            refine g_ic4 dX9_after_119 ?_
            refine g_idiv dX9_after_120 (by decide) ?_
            refine g_iadd dX9_after_121 ?_
            obtain ⟨x15, ex15, h⟩ := g_let h
            refine g_top ex15 ?_
            refine g_istore_8 rfl (Nat.le_of_ble_eq_true rfl) dX9_after_122 ?_
            refine g_iload dX9_after_124 rfl ?_
            refine g_iload dX9_after_126 rfl ?_
            refine g_ic4 dX9_after_128 ?_
            refine g_iload dX9_after_129 rfl ?_
            refine g_imul dX9_after_131 ?_
            refine g_ishl dX9_after_132 ?_
            refine g_iload dX9_after_133 rfl ?_
            refine g_ic4 dX9_after_135 ?_
            refine g_iload dX9_after_136 rfl ?_
            refine g_imul dX9_after_138 ?_
            refine g_ishl dX9_after_139 ?_
            refine g_ior dX9_after_140 ?_
            refine g_ior dX9_after_141 ?_
            obtain ⟨x16, ex16, h⟩ := g_let h
            refine g_top ex16 ?_
            refine g_istore_4 rfl (Nat.le_of_ble_eq_true rfl) dX9_after_142 ?_
            refine g_iinc_6 (v := 1) rfl (by decide) (Nat.le_of_ble_eq_true rfl) dX9_after_144 ?_
            refine g_goto 54 (by decide) dX9_after_147 ?_
            exact g_less _ (g_subS (g_subN (g_subN (g_subN (g_subS (g_subN (g_subS (g_subN (g_subN g_sub0))))))))) (ih _ _ _ _ h hc)
set_option maxRecDepth 100000 in
set_option maxHeartbeats 4000000 in
theorem k_X9_after {D : va_G} {cA : Nat → ClassId} {b b2 k : Nat} {dyn : Nat → Nat} {t s : Nat} {N : Nat} {a1 : Int32} {a2 : Int32} {a3 : Int32} {μ : g_M} {z : Int32 × g_M} (h : f_X9_after N a1 a2 a3 μ = some z) : g_K (g_XX D cA b b2 dyn) yX9_after Y_X9_after 4 0 0 k [.ref 1, .int a1, .int a2, .int a3] (μ, (g_rfX t s)) (fun r1 σ1 => r1 = some (.int z.1) ∧ σ1 = (z.2, (g_rfX t s))) := by
  unfold f_X9_after at h
  refine g_met 5 (by decide) rfl rfl (Nat.le_of_ble_eq_true rfl) ?_
  refine g_aload_n dX9_after_0 rfl ?_
  refine g_iload_n dX9_after_1 rfl ?_
  obtain ⟨x1, q2, h⟩ := g_bind h
  refine m_cV mt_X9_oneLess ml_X9_144 mv_X9_oneLess dX9_after_2 (k_X9_oneLess q2) rfl rfl rfl rfl (by decide) ⟨Nat.le_refl _, Nat.le_refl _⟩ (Nat.le_of_ble_eq_true rfl) ?_
  refine g_istore_4 rfl (Nat.le_of_ble_eq_true rfl) dX9_after_5 ?_
  refine g_aload_n dX9_after_7 rfl ?_
  refine g_iload dX9_after_8 rfl ?_
  refine g_iload_n dX9_after_10 rfl ?_
  refine g_iload_n dX9_after_11 rfl ?_
  obtain ⟨x3, q4, h⟩ := g_bind h
  refine m_cV mt_X9_freeSet ml_X9_147 mv_X9_freeSet dX9_after_12 (k_X9_freeSet q4) rfl rfl rfl rfl (by decide) ⟨Nat.le_refl _, Nat.le_refl _⟩ (Nat.le_of_ble_eq_true rfl) ?_
  refine g_istore_5 rfl (Nat.le_of_ble_eq_true rfl) dX9_after_15 ?_
  refine g_ic0 dX9_after_17 ?_
  refine g_istore_6 rfl (Nat.le_of_ble_eq_true rfl) dX9_after_18 ?_
  obtain ⟨μ5, q6, h⟩ := g_bind h
  refine g_less _ (g_subS (g_subN (g_subS (g_subN (g_subS (g_subS (g_subS (g_subN (g_subN g_sub0))))))))) (k_X9_after_L20 _ _ _ _ _ _ _ q6 ?_)
  refine g_ic0 dX9_after_51 ?_
  refine g_istore_6 rfl (Nat.le_of_ble_eq_true rfl) dX9_after_52 ?_
  obtain ⟨x7, q8, h⟩ := g_bind h
  refine g_less _ (g_subS (g_subN (g_subN (g_subN (g_subS (g_subN (g_subS (g_subN (g_subN g_sub0))))))))) (k_X9_after_L54 _ _ _ _ _ q8 ?_)
  refine g_iload dX9_after_150 rfl ?_
  obtain rfl := Option.some.inj h
  exact g_iret rfl (Nat.le_refl _) rfl dX9_after_152 ⟨rfl, rfl⟩
set_option maxRecDepth 100000 in
set_option maxHeartbeats 4000000 in
theorem k_X9_worthOf_L5 {D : va_G} {cA : Nat → ClassId} {b b2 k : Nat} {dyn : Nat → Nat} {t s : Nat} {Q : Option Value → g_S → Prop} {N : Nat} : ∀ (n : Nat) (x_1 : Int32) (x_2 : Int32) (x_3 : Int32) (x_4 : Int32) (μ : g_M) (z_3 : Int32), f_X9_worthOf_L5 N n x_1 x_2 x_3 x_4 μ = some z_3 → g_V (g_XX D cA b b2 dyn) Y_X9_worthOf 5 0 0 Q k 0 0 40 [none, none, none, some (.int z_3), none] [] (μ, (g_rfX t s)) → g_V (g_XX D cA b b2 dyn) Y_X9_worthOf 5 0 0 Q k 0 0 5 [some (.ref 1), some (.int x_1), some (.int x_2), some (.int x_3), some (.int x_4)] [] (μ, (g_rfX t s)) := by
  intro n
  induction n with
  | zero =>
    intro x_1 x_2 x_3 x_4 μ z_3 h
    rw [f_X9_worthOf_L5] at h
    cases h
  | succ n ih =>
    intro x_1 x_2 x_3 x_4 μ z_3 h hc
    rw [f_X9_worthOf_L5] at h
    refine g_iload dX9_worthOf_5 rfl ?_
    refine g_aload_n dX9_worthOf_7 rfl ?_
    refine m_getI fl_X9_83 rfl rfl dX9_worthOf_8 ?_
    refine g_icmp_ge 40 (by decide) dX9_worthOf_11 (fun c1 => ?_) (fun c1 => ?_)
    · have h := g_ifp c1 h
      obtain rfl := Option.some.inj h
      exact g_less _ (g_subN (g_subN (g_subN (g_subS (g_subN g_sub0))))) hc
    · have h := g_ifn c1 h
      refine g_aload_n dX9_worthOf_14 rfl ?_
      refine g_iload_n dX9_worthOf_15 rfl ?_
      refine g_iload dX9_worthOf_16 rfl ?_
      refine m_cV mt_X9_awayOf ml_X9_101 mv_X9_awayOf dX9_worthOf_18 (k_X9_awayOf rfl) rfl rfl rfl rfl (by decide) ⟨Nat.le_refl _, Nat.le_refl _⟩ (Nat.le_of_ble_eq_true rfl) ?_
      refine g_if_ne 34 (by decide) dX9_worthOf_21 (fun c2 => ?_) (fun c2 => ?_)
      · have h := g_ifn c2 h
        refine g_iinc_4 (v := 1) rfl (by decide) (Nat.le_of_ble_eq_true rfl) dX9_worthOf_34 ?_
        refine g_goto 5 (by decide) dX9_worthOf_37 ?_
        exact g_less _ (g_subS (g_subS (g_subS (g_subS (g_subS g_sub0))))) (ih _ _ _ _ _ _ h hc)
      · have h := g_ifp c2 h
        refine g_iload_n dX9_worthOf_24 rfl ?_
        refine g_aload_n dX9_worthOf_25 rfl ?_
        refine g_iload dX9_worthOf_26 rfl ?_
        refine g_iload_n dX9_worthOf_28 rfl ?_
        obtain ⟨x3, q4, h⟩ := g_bind h
        refine m_cV mt_X9_bakesOf ml_X9_154 mv_X9_bakesOf dX9_worthOf_29 (k_X9_bakesOf q4) rfl rfl rfl rfl (by decide) ⟨Nat.le_refl _, Nat.le_refl _⟩ (Nat.le_of_ble_eq_true rfl) ?_
        refine g_iadd dX9_worthOf_32 ?_
        obtain ⟨x5, ex5, h⟩ := g_let h
        refine g_top ex5 ?_
        refine g_istore_3 rfl (Nat.le_of_ble_eq_true rfl) dX9_worthOf_33 ?_
        refine g_iinc_4 (v := 1) rfl (by decide) (Nat.le_of_ble_eq_true rfl) dX9_worthOf_34 ?_
        refine g_goto 5 (by decide) dX9_worthOf_37 ?_
        exact g_less _ (g_subS (g_subS (g_subS (g_subS (g_subS g_sub0))))) (ih _ _ _ _ _ _ h hc)
set_option maxRecDepth 100000 in
set_option maxHeartbeats 4000000 in
theorem k_X9_worthOf {D : va_G} {cA : Nat → ClassId} {b b2 k : Nat} {dyn : Nat → Nat} {t s : Nat} {N : Nat} {a1 : Int32} {a2 : Int32} {μ : g_M} {z : Int32} (h : f_X9_worthOf N a1 a2 μ = some z) : g_K (g_XX D cA b b2 dyn) yX9_worthOf Y_X9_worthOf 5 0 0 k [.ref 1, .int a1, .int a2] (μ, (g_rfX t s)) (fun r1 σ1 => r1 = some (.int z) ∧ σ1 = (μ, (g_rfX t s))) := by
  unfold f_X9_worthOf at h
  refine g_met 2 (by decide) rfl rfl (Nat.le_of_ble_eq_true rfl) ?_
  refine g_ic0 dX9_worthOf_0 ?_
  refine g_istore_3 rfl (Nat.le_of_ble_eq_true rfl) dX9_worthOf_1 ?_
  refine g_ic0 dX9_worthOf_2 ?_
  refine g_istore_4 rfl (Nat.le_of_ble_eq_true rfl) dX9_worthOf_3 ?_
  obtain ⟨x1, q2, h⟩ := g_bind h
  refine g_less _ (g_subS (g_subS (g_subS (g_subS (g_subS g_sub0))))) (k_X9_worthOf_L5 _ _ _ _ _ _ _ q2 ?_)
  refine g_iload_n dX9_worthOf_40 rfl ?_
  obtain rfl := Option.some.inj h
  exact g_iret rfl (Nat.le_refl _) rfl dX9_worthOf_41 ⟨rfl, rfl⟩
set_option maxRecDepth 100000 in
set_option maxHeartbeats 4000000 in
theorem k_X9_passNight {D : va_G} {cA : Nat → ClassId} {b b2 k : Nat} {dyn : Nat → Nat} {t s : Nat} {N : Nat} {a1 : Int32} {μ : g_M} {z : Int32 × g_M} (h : f_X9_passNight N a1 μ = some z) : g_K (g_XX D cA b b2 dyn) yX9_passNight Y_X9_passNight 6 0 0 k [.ref 1, .int a1] (μ, (g_rfX t s)) (fun r1 σ1 => r1 = some (.int z.1) ∧ σ1 = (z.2, (g_rfX t s))) := by
  unfold f_X9_passNight at h
  refine g_met 1 (by decide) rfl rfl (Nat.le_of_ble_eq_true rfl) ?_
  refine g_aload_n dX9_passNight_0 rfl ?_
  refine g_aload_n dX9_passNight_1 rfl ?_
  refine g_aload_n dX9_passNight_2 rfl ?_
  refine m_getI fl_X9_86 rfl rfl dX9_passNight_3 ?_
  refine g_aload_n dX9_passNight_6 rfl ?_
  refine m_getI fl_X9_89 rfl rfl dX9_passNight_7 ?_
  refine g_iload_n dX9_passNight_10 rfl ?_
  obtain ⟨⟨x1, μ3⟩, q2, h⟩ := g_bind h
  refine m_cV mt_X9_after ml_X9_157 mv_X9_after dX9_passNight_11 (k_X9_after q2) rfl rfl rfl rfl (by decide) ⟨Nat.le_refl _, Nat.le_refl _⟩ (Nat.le_of_ble_eq_true rfl) ?_
  obtain ⟨μ4, eμ4, h⟩ := g_let h
  refine m_putI fl_X9_86 fw_9_12 rfl rfl rfl rfl dX9_passNight_14 eμ4 ?_
  refine g_aload_n dX9_passNight_17 rfl ?_
  refine g_aload_n dX9_passNight_18 rfl ?_
  refine m_getI fl_X9_86 rfl rfl dX9_passNight_19 ?_
  refine g_aload_n dX9_passNight_22 rfl ?_
  refine m_getI fl_X9_89 rfl rfl dX9_passNight_23 ?_
  obtain ⟨x5, q6, h⟩ := g_bind h
  refine m_cV mt_X9_worthOf ml_X9_160 mv_X9_worthOf dX9_passNight_26 (k_X9_worthOf q6) rfl rfl rfl rfl (by decide) ⟨Nat.le_refl _, Nat.le_refl _⟩ (Nat.le_of_ble_eq_true rfl) ?_
  refine g_istore_2 rfl (Nat.le_of_ble_eq_true rfl) dX9_passNight_29 ?_
  refine g_aload_n dX9_passNight_30 rfl ?_
  refine g_dup dX9_passNight_31 rfl ?_
  refine m_getI fl_X9_92 rfl rfl dX9_passNight_32 ?_
  refine g_iload_n dX9_passNight_35 rfl ?_
  refine g_iadd dX9_passNight_36 ?_
  obtain ⟨μ7, eμ7, h⟩ := g_let h
  refine m_putI fl_X9_92 fw_9_15 rfl rfl rfl rfl dX9_passNight_37 eμ7 ?_
  refine g_aload_n dX9_passNight_40 rfl ?_
  refine g_dup dX9_passNight_41 rfl ?_
  refine m_getI fl_X9_89 rfl rfl dX9_passNight_42 ?_
  refine g_ic1 dX9_passNight_45 ?_
  refine g_iadd dX9_passNight_46 ?_
  obtain ⟨μ8, eμ8, h⟩ := g_let h
  refine m_putI fl_X9_89 fw_9_13 rfl rfl rfl rfl dX9_passNight_47 eμ8 ?_
  refine g_iload_n dX9_passNight_50 rfl ?_
  obtain rfl := Option.some.inj h
  exact g_iret rfl (Nat.le_refl _) rfl dX9_passNight_51 ⟨rfl, rfl⟩
set_option maxRecDepth 100000 in
set_option maxHeartbeats 4000000 in
theorem k_X11_night {D : va_G} {cA : Nat → ClassId} {b b2 k : Nat} {dyn : Nat → Nat} {t s : Nat} {N : Nat} {μ : g_M} {z : Int32 × g_M} (h : f_X11_night N μ = some z) : g_K (g_XX D cA b b2 dyn) yX11_night Y_X11_night 7 0 0 k [.ref 0] (μ, (g_rfX t s)) (fun r1 σ1 => r1 = some (.int z.1) ∧ σ1 = (z.2, (g_rfX t s))) := by
  unfold f_X11_night at h
  refine g_met 0 (by decide) rfl rfl (Nat.le_of_ble_eq_true rfl) ?_
  refine g_aload_n dX11_night_0 rfl ?_
  refine m_getR fl_X11_10 rfl rfl rfl dX11_night_1 ?_
  refine m_cV mt_X9_isOver ml_X11_136 mv_X9_isOver dX11_night_4 (k_X9_isOver rfl) rfl rfl rfl rfl (by decide) ⟨Nat.le_refl _, Nat.le_refl _⟩ (Nat.le_of_ble_eq_true rfl) ?_
  refine g_if_eq 15 (by decide) dX11_night_7 (fun c1 => ?_) (fun c1 => ?_)
  · have h := g_ifp c1 h
    refine g_aload_n dX11_night_15 rfl ?_
    refine m_getR fl_X11_10 rfl rfl rfl dX11_night_16 ?_
    refine g_ic0 dX11_night_19 ?_
    obtain ⟨⟨x2, μ4⟩, q3, h⟩ := g_bind h
    refine m_cV mt_X9_passNight ml_X11_165 mv_X9_passNight dX11_night_20 (k_X9_passNight q3) rfl rfl rfl rfl (by decide) ⟨Nat.le_refl _, Nat.le_refl _⟩ (Nat.le_of_ble_eq_true rfl) ?_
    obtain rfl := Option.some.inj h
    exact g_iret rfl (Nat.le_refl _) rfl dX11_night_23 ⟨rfl, rfl⟩
  · have h := g_ifn c1 h
    refine g_bipush (v := (-4)) dX11_night_10 (by decide) ?_
    refine g_goto 23 (by decide) dX11_night_12 ?_
    obtain rfl := Option.some.inj h
    exact g_iret rfl (Nat.le_refl _) rfl dX11_night_23 ⟨rfl, rfl⟩
set_option maxRecDepth 100000 in
set_option maxHeartbeats 4000000 in
theorem k_X9_nightsOf {D : va_G} {cA : Nat → ClassId} {b b2 k : Nat} {dyn : Nat → Nat} {t s : Nat} {a1 : Int32} {μ : g_M} {z : Int32} (h : f_X9_nightsOf a1 μ = z) : g_K (g_XX D cA b b2 dyn) yX9_nightsOf Y_X9_nightsOf 1 0 0 k [.ref 1, .int a1] (μ, (g_rfX t s)) (fun r1 σ1 => r1 = some (.int z) ∧ σ1 = (μ, (g_rfX t s))) := by
  unfold f_X9_nightsOf at h
  refine g_met 0 (by decide) rfl rfl (Nat.le_of_ble_eq_true rfl) ?_
  refine g_ic0 dX9_nightsOf_0 ?_
  refine g_iload_n dX9_nightsOf_1 rfl ?_
  refine g_aload_n dX9_nightsOf_2 rfl ?_
  refine m_getI fl_X9_70 rfl rfl dX9_nightsOf_3 ?_
  refine g_aload_n dX9_nightsOf_6 rfl ?_
  refine m_getI fl_X9_89 rfl rfl dX9_nightsOf_7 ?_
  refine g_isub dX9_nightsOf_10 ?_
  refine m_min ml_X9_126 dX9_nightsOf_11 (by decide) ⟨Nat.le_refl _, Nat.le_refl _⟩ (Nat.le_of_ble_eq_true rfl) ?_
  refine m_max ml_X9_129 dX9_nightsOf_14 (by decide) ⟨Nat.le_refl _, Nat.le_refl _⟩ (Nat.le_of_ble_eq_true rfl) ?_
  subst h
  exact g_iret rfl (Nat.le_refl _) rfl dX9_nightsOf_17 ⟨rfl, rfl⟩
set_option maxRecDepth 100000 in
set_option maxHeartbeats 4000000 in
theorem k_X2_restWorth_L10 {D : va_G} {cA : Nat → ClassId} {b b2 k : Nat} {dyn : Nat → Nat} {t s : Nat} {Q : Option Value → g_S → Prop} {N : Nat} : ∀ (n : Nat) (x_1 : Int32) (x_2 : Int32) (x_3 : Int32) (x_4 : Int32) (μ : g_M) (z_3 : Int32) (z_μ : g_M), f_X2_restWorth_L10 N n x_1 x_2 x_3 x_4 μ = some (z_3, z_μ) → g_V (g_XX D cA b b2 dyn) Y_X2_restWorth 6 0 0 Q k 0 0 55 [none, none, none, some (.int z_3), none] [] (z_μ, (g_rfX t s)) → g_V (g_XX D cA b b2 dyn) Y_X2_restWorth 6 0 0 Q k 0 0 10 [some (.ref 1), some (.int x_1), some (.int x_2), some (.int x_3), some (.int x_4)] [] (μ, (g_rfX t s)) := by
  intro n
  induction n with
  | zero =>
    intro x_1 x_2 x_3 x_4 μ z_3 z_μ h
    rw [f_X2_restWorth_L10] at h
    cases h
  | succ n ih =>
    intro x_1 x_2 x_3 x_4 μ z_3 z_μ h hc
    rw [f_X2_restWorth_L10] at h
    refine g_iload dX2_restWorth_10 rfl ?_
    refine g_aload_n dX2_restWorth_12 rfl ?_
    refine g_iload_n dX2_restWorth_13 rfl ?_
    refine m_cV mt_X9_nightsOf ml_X2_15 mv_X9_nightsOf dX2_restWorth_14 (k_X9_nightsOf rfl) rfl rfl rfl rfl (by decide) ⟨Nat.le_refl _, Nat.le_refl _⟩ (Nat.le_of_ble_eq_true rfl) ?_
    refine g_icmp_ge 55 (by decide) dX2_restWorth_17 (fun c1 => ?_) (fun c1 => ?_)
    · have h := g_ifp c1 h
      obtain ⟨rfl, rfl⟩ := g_inj2 h
      exact g_less _ (g_subN (g_subN (g_subN (g_subS (g_subN g_sub0))))) hc
    · have h := g_ifn c1 h
      refine g_aload_n dX2_restWorth_20 rfl ?_
      refine g_iload_n dX2_restWorth_21 rfl ?_
      refine g_aload_n dX2_restWorth_22 rfl ?_
      refine m_getI fl_X2_19 rfl rfl dX2_restWorth_23 ?_
      refine g_iload dX2_restWorth_26 rfl ?_
      refine g_iadd dX2_restWorth_28 ?_
      refine g_ic0 dX2_restWorth_29 ?_
      obtain ⟨⟨x2, μ4⟩, q3, h⟩ := g_bind h
      refine m_cV mt_X9_after ml_X2_22 mv_X9_after dX2_restWorth_30 (k_X9_after q3) rfl rfl rfl rfl (by decide) ⟨Nat.le_refl _, Nat.le_refl _⟩ (Nat.le_of_ble_eq_true rfl) ?_
      refine g_istore_2 rfl (Nat.le_of_ble_eq_true rfl) dX2_restWorth_33 ?_
      refine g_iload_n dX2_restWorth_34 rfl ?_
      refine g_aload_n dX2_restWorth_35 rfl ?_
      refine g_iload_n dX2_restWorth_36 rfl ?_
      refine g_aload_n dX2_restWorth_37 rfl ?_
      refine m_getI fl_X2_19 rfl rfl dX2_restWorth_38 ?_
      refine g_iload dX2_restWorth_41 rfl ?_
      refine g_iadd dX2_restWorth_43 ?_
      obtain ⟨x5, q6, h⟩ := g_bind h
      refine m_cV mt_X9_worthOf ml_X2_26 mv_X9_worthOf dX2_restWorth_44 (k_X9_worthOf q6) rfl rfl rfl rfl (by decide) ⟨Nat.le_refl _, Nat.le_refl _⟩ (Nat.le_of_ble_eq_true rfl) ?_
      refine g_iadd dX2_restWorth_47 ?_
      obtain ⟨x7, ex7, h⟩ := g_let h
      refine g_top ex7 ?_
      refine g_istore_3 rfl (Nat.le_of_ble_eq_true rfl) dX2_restWorth_48 ?_
      refine g_iinc_4 (v := 1) rfl (by decide) (Nat.le_of_ble_eq_true rfl) dX2_restWorth_49 ?_
      refine g_goto 10 (by decide) dX2_restWorth_52 ?_
      exact g_less _ (g_subS (g_subS (g_subS (g_subS (g_subS g_sub0))))) (ih _ _ _ _ _ _ _ h hc)
set_option maxRecDepth 100000 in
set_option maxHeartbeats 4000000 in
theorem k_X2_restWorth {D : va_G} {cA : Nat → ClassId} {b b2 k : Nat} {dyn : Nat → Nat} {t s : Nat} {N : Nat} {a1 : Int32} {μ : g_M} {z : Int32 × g_M} (h : f_X2_restWorth N a1 μ = some z) : g_K (g_XX D cA b b2 dyn) yX2_restWorth Y_X2_restWorth 6 0 0 k [.ref 1, .int a1] (μ, (g_rfX t s)) (fun r1 σ1 => r1 = some (.int z.1) ∧ σ1 = (z.2, (g_rfX t s))) := by
  unfold f_X2_restWorth at h
  refine g_met 3 (by decide) rfl rfl (Nat.le_of_ble_eq_true rfl) ?_
  refine g_aload_n dX2_restWorth_0 rfl ?_
  refine m_getI fl_X2_9 rfl rfl dX2_restWorth_1 ?_
  refine g_istore_2 rfl (Nat.le_of_ble_eq_true rfl) dX2_restWorth_4 ?_
  refine g_ic0 dX2_restWorth_5 ?_
  refine g_istore_3 rfl (Nat.le_of_ble_eq_true rfl) dX2_restWorth_6 ?_
  refine g_ic0 dX2_restWorth_7 ?_
  refine g_istore_4 rfl (Nat.le_of_ble_eq_true rfl) dX2_restWorth_8 ?_
  obtain ⟨⟨x1, μ2⟩, q3, h⟩ := g_bind h
  refine g_less _ (g_subS (g_subS (g_subS (g_subS (g_subS g_sub0))))) (k_X2_restWorth_L10 _ _ _ _ _ _ _ _ q3 ?_)
  refine g_iload_n dX2_restWorth_55 rfl ?_
  obtain rfl := Option.some.inj h
  exact g_iret rfl (Nat.le_refl _) rfl dX2_restWorth_56 ⟨rfl, rfl⟩
set_option maxRecDepth 100000 in
set_option maxHeartbeats 4000000 in
theorem k_X11_on {D : va_G} {cA : Nat → ClassId} {b b2 k : Nat} {dyn : Nat → Nat} {t s : Nat} {N : Nat} {a1 : Int32} {μ : g_M} {z : Int32 × g_M} (h : f_X11_on N a1 μ = some z) : g_K (g_XX D cA b b2 dyn) yX11_on Y_X11_on 7 0 0 k [.ref 0, .int a1] (μ, (g_rfX t s)) (fun r1 σ1 => r1 = some (.int z.1) ∧ σ1 = (z.2, (g_rfX t s))) := by
  unfold f_X11_on at h
  refine g_met 0 (by decide) rfl rfl (Nat.le_of_ble_eq_true rfl) ?_
  refine g_iload_n dX11_on_0 rfl ?_
  refine g_ic0 dX11_on_1 ?_
  refine g_bipush (v := 16) dX11_on_2 (by decide) ?_
  refine m_cS mt_X11_isBetween ml_X11_120 ms_X11_isBetween dX11_on_4 (k_X11_isBetween rfl) rfl rfl (by decide) ⟨Nat.le_refl _, Nat.le_refl _⟩ (Nat.le_of_ble_eq_true rfl) ?_
  refine g_if_eq 21 (by decide) dX11_on_7 (fun c1 => ?_) (fun c1 => ?_)
  · have h := g_ifp c1 h
    refine g_icm1 dX11_on_21 ?_
    obtain rfl := Option.some.inj h
    exact g_iret rfl (Nat.le_refl _) rfl dX11_on_22 ⟨rfl, rfl⟩
  · have h := g_ifn c1 h
    refine g_aload_n dX11_on_10 rfl ?_
    refine m_getR fl_X11_10 rfl rfl rfl dX11_on_11 ?_
    refine g_iload_n dX11_on_14 rfl ?_
    obtain ⟨⟨x2, μ4⟩, q3, h⟩ := g_bind h
    refine m_cS mt_X2_restWorth ml_X11_168 ms_X2_restWorth dX11_on_15 (k_X2_restWorth q3) rfl rfl (by decide) ⟨Nat.le_refl _, Nat.le_refl _⟩ (Nat.le_of_ble_eq_true rfl) ?_
    refine g_goto 22 (by decide) dX11_on_18 ?_
    obtain rfl := Option.some.inj h
    exact g_iret rfl (Nat.le_refl _) rfl dX11_on_22 ⟨rfl, rfl⟩
set_option maxRecDepth 100000 in
set_option maxHeartbeats 4000000 in
theorem k_X2_went {D : va_G} {cA : Nat → ClassId} {b b2 k : Nat} {dyn : Nat → Nat} {t s : Nat} {a1 : Int32} {a2 : Int32} {a3 : Int32} {μ : g_M} {z : Int32} (h : f_X2_went a1 a2 a3 = z) : g_K (g_XX D cA b b2 dyn) yX2_went Y_X2_went 2 0 0 k [.ref 1, .int a1, .int a2, .int a3] (μ, (g_rfX t s)) (fun r1 σ1 => r1 = some (.int z) ∧ σ1 = (μ, (g_rfX t s))) := by
  unfold f_X2_went at h
  refine g_met 0 (by decide) rfl rfl (Nat.le_of_ble_eq_true rfl) ?_
  refine g_aload_n dX2_went_0 rfl ?_
  refine g_iload_n dX2_went_1 rfl ?_
  refine g_iload_n dX2_went_2 rfl ?_
  refine m_cV mt_X9_awayOf ml_X2_30 mv_X9_awayOf dX2_went_3 (k_X9_awayOf rfl) rfl rfl rfl rfl (by decide) ⟨Nat.le_refl _, Nat.le_refl _⟩ (Nat.le_of_ble_eq_true rfl) ?_
  refine g_aload_n dX2_went_6 rfl ?_
  refine g_iload_n dX2_went_7 rfl ?_
  refine g_iload_n dX2_went_8 rfl ?_
  refine m_cV mt_X9_awayOf ml_X2_30 mv_X9_awayOf dX2_went_9 (k_X9_awayOf rfl) rfl rfl rfl rfl (by decide) ⟨Nat.le_refl _, Nat.le_refl _⟩ (Nat.le_of_ble_eq_true rfl) ?_
  refine g_icmp_le 19 (by decide) dX2_went_12 (fun c1 => ?_) (fun c1 => ?_)
  · have h := g_ifp c1 h
    refine g_ic0 dX2_went_19 ?_
    subst h
    exact g_zret rfl (Nat.le_refl _) rfl rfl dX2_went_20 ⟨rfl, rfl⟩
  · have h := g_ifn c1 h
    refine g_ic1 dX2_went_15 ?_
    refine g_goto 20 (by decide) dX2_went_16 ?_
    subst h
    exact g_zret rfl (Nat.le_refl _) rfl rfl dX2_went_20 ⟨rfl, rfl⟩
set_option maxRecDepth 100000 in
set_option maxHeartbeats 4000000 in
theorem zb_X2_went (a1 : Int32) (a2 : Int32) (a3 : Int32) : narrow .boolean (.int (f_X2_went a1 a2 a3)) = .int (f_X2_went a1 a2 a3) := by
  unfold f_X2_went
  repeat' split
  all_goals first | rfl | rfl
set_option maxRecDepth 100000 in
set_option maxHeartbeats 4000000 in
theorem k_X2_firstGoing_L10 {D : va_G} {cA : Nat → ClassId} {b b2 k : Nat} {dyn : Nat → Nat} {t s : Nat} {Q : Option Value → g_S → Prop} {N : Nat} : ∀ (n : Nat) (x_1 : Int32) (x_2 : Int32) (x_3 : Int32) (μ : g_M) (z : (Int32 × g_M) ⊕ (g_M)), f_X2_firstGoing_L10 N n x_1 x_2 x_3 μ = some z → (∀ q : Int32 × g_M, z = .inl q → Q (some (.int q.1)) (q.2, (g_rfX t s))) → (∀ (z_μ : g_M), z = .inr z_μ → g_V (g_XX D cA b b2 dyn) Y_X2_firstGoing 5 0 0 Q k 0 0 49 [none, none, none, none, none] [] (z_μ, (g_rfX t s))) → g_V (g_XX D cA b b2 dyn) Y_X2_firstGoing 5 0 0 Q k 0 0 10 [some (.ref 1), some (.int x_1), some (.int x_2), some (.int x_3), none] [] (μ, (g_rfX t s)) := by
  intro n
  induction n with
  | zero =>
    intro x_1 x_2 x_3 μ z h
    rw [f_X2_firstGoing_L10] at h
    cases h
  | succ n ih =>
    intro x_1 x_2 x_3 μ z h hr hc
    rw [f_X2_firstGoing_L10] at h
    refine g_iload_n dX2_firstGoing_10 rfl ?_
    refine g_aload_n dX2_firstGoing_11 rfl ?_
    refine m_getI fl_X2_33 rfl rfl dX2_firstGoing_12 ?_
    refine g_icmp_ge 49 (by decide) dX2_firstGoing_15 (fun c1 => ?_) (fun c1 => ?_)
    · have h := g_ifp c1 h
      obtain rfl := Option.some.inj h
      exact g_less _ (g_subN (g_subN (g_subN (g_subN (g_subN g_sub0))))) (hc _ rfl)
    · have h := g_ifn c1 h
      refine g_aload_n dX2_firstGoing_18 rfl ?_
      refine g_iload_n dX2_firstGoing_19 rfl ?_
      refine g_iload_n dX2_firstGoing_20 rfl ?_
      refine g_ic0 dX2_firstGoing_21 ?_
      obtain ⟨⟨x2, μ4⟩, q3, h⟩ := g_bind h
      refine m_cV mt_X9_after ml_X2_22 mv_X9_after dX2_firstGoing_22 (k_X9_after q3) rfl rfl rfl rfl (by decide) ⟨Nat.le_refl _, Nat.le_refl _⟩ (Nat.le_of_ble_eq_true rfl) ?_
      refine g_istore_4 rfl (Nat.le_of_ble_eq_true rfl) dX2_firstGoing_25 ?_
      refine g_aload_n dX2_firstGoing_27 rfl ?_
      refine g_iload_n dX2_firstGoing_28 rfl ?_
      refine g_iload dX2_firstGoing_29 rfl ?_
      refine g_iload_n dX2_firstGoing_31 rfl ?_
      refine m_cS mt_X2_went ml_X2_36 ms_X2_went dX2_firstGoing_32 (k_X2_went rfl) rfl rfl (by decide) ⟨Nat.le_refl _, Nat.le_refl _⟩ (Nat.le_of_ble_eq_true rfl) ?_
      refine g_if_eq 40 (by decide) dX2_firstGoing_35 (fun c5 => ?_) (fun c5 => ?_)
      · have h := g_ifp c5 h
        refine g_iload dX2_firstGoing_40 rfl ?_
        refine g_istore_2 rfl (Nat.le_of_ble_eq_true rfl) dX2_firstGoing_42 ?_
        refine g_iinc_3 (v := 1) rfl (by decide) (Nat.le_of_ble_eq_true rfl) dX2_firstGoing_43 ?_
        refine g_goto 10 (by decide) dX2_firstGoing_46 ?_
        exact g_less _ (g_subS (g_subS (g_subS (g_subS (g_subN g_sub0))))) (ih _ _ _ _ _ h hr hc)
      · have h := g_ifn c5 h
        refine g_iload_n dX2_firstGoing_38 rfl ?_
        obtain rfl := Option.some.inj h
        exact g_iret rfl (Nat.le_refl _) rfl dX2_firstGoing_39 (hr _ rfl)
set_option maxRecDepth 100000 in
set_option maxHeartbeats 4000000 in
theorem k_X2_firstGoing {D : va_G} {cA : Nat → ClassId} {b b2 k : Nat} {dyn : Nat → Nat} {t s : Nat} {N : Nat} {a1 : Int32} {μ : g_M} {z : Int32 × g_M} (h : f_X2_firstGoing N a1 μ = some z) : g_K (g_XX D cA b b2 dyn) yX2_firstGoing Y_X2_firstGoing 5 0 0 k [.ref 1, .int a1] (μ, (g_rfX t s)) (fun r1 σ1 => r1 = some (.int z.1) ∧ σ1 = (z.2, (g_rfX t s))) := by
  unfold f_X2_firstGoing at h
  refine g_met 3 (by decide) rfl rfl (Nat.le_of_ble_eq_true rfl) ?_
  refine g_aload_n dX2_firstGoing_0 rfl ?_
  refine m_getI fl_X2_9 rfl rfl dX2_firstGoing_1 ?_
  refine g_istore_2 rfl (Nat.le_of_ble_eq_true rfl) dX2_firstGoing_4 ?_
  refine g_aload_n dX2_firstGoing_5 rfl ?_
  refine m_getI fl_X2_19 rfl rfl dX2_firstGoing_6 ?_
  refine g_istore_3 rfl (Nat.le_of_ble_eq_true rfl) dX2_firstGoing_9 ?_
  obtain ⟨w3, q2, h⟩ := g_bind h
  refine g_less _ (g_subS (g_subS (g_subS (g_subS (g_subN g_sub0))))) (k_X2_firstGoing_L10 _ _ _ _ _ _ q2 ?_ ?_)
  · intro q0 e0
    subst e0
    cases h
    exact ⟨rfl, rfl⟩
  · intro μ1 e0
    subst e0
    try dsimp only at h
    refine g_bipush (v := (-3)) dX2_firstGoing_49 (by decide) ?_
    obtain rfl := Option.some.inj h
    exact g_iret rfl (Nat.le_refl _) rfl dX2_firstGoing_51 ⟨rfl, rfl⟩
set_option maxRecDepth 100000 in
set_option maxHeartbeats 4000000 in
theorem k_X11_goes {D : va_G} {cA : Nat → ClassId} {b b2 k : Nat} {dyn : Nat → Nat} {t s : Nat} {N : Nat} {a1 : Int32} {μ : g_M} {z : Int32 × g_M} (h : f_X11_goes N a1 μ = some z) : g_K (g_XX D cA b b2 dyn) yX11_goes Y_X11_goes 6 0 0 k [.ref 0, .int a1] (μ, (g_rfX t s)) (fun r1 σ1 => r1 = some (.int z.1) ∧ σ1 = (z.2, (g_rfX t s))) := by
  unfold f_X11_goes at h
  refine g_met 0 (by decide) rfl rfl (Nat.le_of_ble_eq_true rfl) ?_
  refine g_aload_n dX11_goes_0 rfl ?_
  refine g_iload_n dX11_goes_1 rfl ?_
  refine m_cV mt_X11_isOven ml_X11_78 mv_X11_isOven dX11_goes_2 (k_X11_isOven rfl) rfl rfl rfl rfl (by decide) ⟨Nat.le_refl _, Nat.le_refl _⟩ (Nat.le_of_ble_eq_true rfl) ?_
  refine g_if_eq 19 (by decide) dX11_goes_5 (fun c1 => ?_) (fun c1 => ?_)
  · have h := g_ifp c1 h
    refine g_icm1 dX11_goes_19 ?_
    obtain rfl := Option.some.inj h
    exact g_iret rfl (Nat.le_refl _) rfl dX11_goes_20 ⟨rfl, rfl⟩
  · have h := g_ifn c1 h
    refine g_aload_n dX11_goes_8 rfl ?_
    refine m_getR fl_X11_10 rfl rfl rfl dX11_goes_9 ?_
    refine g_iload_n dX11_goes_12 rfl ?_
    obtain ⟨⟨x2, μ4⟩, q3, h⟩ := g_bind h
    refine m_cS mt_X2_firstGoing ml_X11_174 ms_X2_firstGoing dX11_goes_13 (k_X2_firstGoing q3) rfl rfl (by decide) ⟨Nat.le_refl _, Nat.le_refl _⟩ (Nat.le_of_ble_eq_true rfl) ?_
    refine g_goto 20 (by decide) dX11_goes_16 ?_
    obtain rfl := Option.some.inj h
    exact g_iret rfl (Nat.le_refl _) rfl dX11_goes_20 ⟨rfl, rfl⟩
set_option maxRecDepth 100000 in
set_option maxHeartbeats 4000000 in
theorem k_X2_goings_L13 {D : va_G} {cA : Nat → ClassId} {b b2 k : Nat} {dyn : Nat → Nat} {t s : Nat} {Q : Option Value → g_S → Prop} {N : Nat} : ∀ (n : Nat) (x_1 : Int32) (x_2 : Int32) (x_3 : Int32) (x_4 : Int32) (μ : g_M) (z_3 : Int32) (z_μ : g_M), f_X2_goings_L13 N n x_1 x_2 x_3 x_4 μ = some (z_3, z_μ) → g_V (g_XX D cA b b2 dyn) Y_X2_goings 5 0 0 Q k 0 0 55 [none, none, none, some (.int z_3), none, none] [] (z_μ, (g_rfX t s)) → g_V (g_XX D cA b b2 dyn) Y_X2_goings 5 0 0 Q k 0 0 13 [some (.ref 1), some (.int x_1), some (.int x_2), some (.int x_3), some (.int x_4), none] [] (μ, (g_rfX t s)) := by
  intro n
  induction n with
  | zero =>
    intro x_1 x_2 x_3 x_4 μ z_3 z_μ h
    rw [f_X2_goings_L13] at h
    cases h
  | succ n ih =>
    intro x_1 x_2 x_3 x_4 μ z_3 z_μ h hc
    rw [f_X2_goings_L13] at h
    refine g_iload dX2_goings_13 rfl ?_
    refine g_aload_n dX2_goings_15 rfl ?_
    refine m_getI fl_X2_33 rfl rfl dX2_goings_16 ?_
    refine g_icmp_ge 55 (by decide) dX2_goings_19 (fun c1 => ?_) (fun c1 => ?_)
    · have h := g_ifp c1 h
      obtain ⟨rfl, rfl⟩ := g_inj2 h
      exact g_less _ (g_subN (g_subN (g_subN (g_subS (g_subN (g_subN g_sub0)))))) hc
    · have h := g_ifn c1 h
      refine g_aload_n dX2_goings_22 rfl ?_
      refine g_iload_n dX2_goings_23 rfl ?_
      refine g_iload dX2_goings_24 rfl ?_
      refine g_ic0 dX2_goings_26 ?_
      obtain ⟨⟨x2, μ4⟩, q3, h⟩ := g_bind h
      refine m_cV mt_X9_after ml_X2_22 mv_X9_after dX2_goings_27 (k_X9_after q3) rfl rfl rfl rfl (by decide) ⟨Nat.le_refl _, Nat.le_refl _⟩ (Nat.le_of_ble_eq_true rfl) ?_
      refine g_istore_5 rfl (Nat.le_of_ble_eq_true rfl) dX2_goings_30 ?_
      refine g_aload_n dX2_goings_32 rfl ?_
      refine g_iload_n dX2_goings_33 rfl ?_
      refine g_iload dX2_goings_34 rfl ?_
      refine g_iload_n dX2_goings_36 rfl ?_
      refine m_cS mt_X2_went ml_X2_36 ms_X2_went dX2_goings_37 (k_X2_went rfl) rfl rfl (by decide) ⟨Nat.le_refl _, Nat.le_refl _⟩ (Nat.le_of_ble_eq_true rfl) ?_
      refine g_if_eq 46 (by decide) dX2_goings_40 (fun c5 => ?_) (fun c5 => ?_)
      · have h := g_ifp c5 h
        refine g_iload dX2_goings_46 rfl ?_
        refine g_istore_2 rfl (Nat.le_of_ble_eq_true rfl) dX2_goings_48 ?_
        refine g_iinc_4 (v := 1) rfl (by decide) (Nat.le_of_ble_eq_true rfl) dX2_goings_49 ?_
        refine g_goto 13 (by decide) dX2_goings_52 ?_
        exact g_less _ (g_subS (g_subS (g_subS (g_subS (g_subS (g_subN g_sub0)))))) (ih _ _ _ _ _ _ _ h hc)
      · have h := g_ifn c5 h
        refine g_iinc_3 (v := 1) rfl (by decide) (Nat.le_of_ble_eq_true rfl) dX2_goings_43 ?_
        refine g_iload dX2_goings_46 rfl ?_
        refine g_istore_2 rfl (Nat.le_of_ble_eq_true rfl) dX2_goings_48 ?_
        refine g_iinc_4 (v := 1) rfl (by decide) (Nat.le_of_ble_eq_true rfl) dX2_goings_49 ?_
        refine g_goto 13 (by decide) dX2_goings_52 ?_
        exact g_less _ (g_subS (g_subS (g_subS (g_subS (g_subS (g_subN g_sub0)))))) (ih _ _ _ _ _ _ _ h hc)
set_option maxRecDepth 100000 in
set_option maxHeartbeats 4000000 in
theorem k_X2_goings {D : va_G} {cA : Nat → ClassId} {b b2 k : Nat} {dyn : Nat → Nat} {t s : Nat} {N : Nat} {a1 : Int32} {μ : g_M} {z : Int32 × g_M} (h : f_X2_goings N a1 μ = some z) : g_K (g_XX D cA b b2 dyn) yX2_goings Y_X2_goings 5 0 0 k [.ref 1, .int a1] (μ, (g_rfX t s)) (fun r1 σ1 => r1 = some (.int z.1) ∧ σ1 = (z.2, (g_rfX t s))) := by
  unfold f_X2_goings at h
  refine g_met 4 (by decide) rfl rfl (Nat.le_of_ble_eq_true rfl) ?_
  refine g_aload_n dX2_goings_0 rfl ?_
  refine m_getI fl_X2_9 rfl rfl dX2_goings_1 ?_
  refine g_istore_2 rfl (Nat.le_of_ble_eq_true rfl) dX2_goings_4 ?_
  refine g_ic0 dX2_goings_5 ?_
  refine g_istore_3 rfl (Nat.le_of_ble_eq_true rfl) dX2_goings_6 ?_
  refine g_aload_n dX2_goings_7 rfl ?_
  refine m_getI fl_X2_19 rfl rfl dX2_goings_8 ?_
  refine g_istore_4 rfl (Nat.le_of_ble_eq_true rfl) dX2_goings_11 ?_
  obtain ⟨⟨x1, μ2⟩, q3, h⟩ := g_bind h
  refine g_less _ (g_subS (g_subS (g_subS (g_subS (g_subS (g_subN g_sub0)))))) (k_X2_goings_L13 _ _ _ _ _ _ _ _ q3 ?_)
  refine g_iload_n dX2_goings_55 rfl ?_
  obtain rfl := Option.some.inj h
  exact g_iret rfl (Nat.le_refl _) rfl dX2_goings_56 ⟨rfl, rfl⟩
set_option maxRecDepth 100000 in
set_option maxHeartbeats 4000000 in
theorem k_X11_often {D : va_G} {cA : Nat → ClassId} {b b2 k : Nat} {dyn : Nat → Nat} {t s : Nat} {N : Nat} {a1 : Int32} {μ : g_M} {z : Int32 × g_M} (h : f_X11_often N a1 μ = some z) : g_K (g_XX D cA b b2 dyn) yX11_often Y_X11_often 6 0 0 k [.ref 0, .int a1] (μ, (g_rfX t s)) (fun r1 σ1 => r1 = some (.int z.1) ∧ σ1 = (z.2, (g_rfX t s))) := by
  unfold f_X11_often at h
  refine g_met 0 (by decide) rfl rfl (Nat.le_of_ble_eq_true rfl) ?_
  refine g_aload_n dX11_often_0 rfl ?_
  refine g_iload_n dX11_often_1 rfl ?_
  refine m_cV mt_X11_isOven ml_X11_78 mv_X11_isOven dX11_often_2 (k_X11_isOven rfl) rfl rfl rfl rfl (by decide) ⟨Nat.le_refl _, Nat.le_refl _⟩ (Nat.le_of_ble_eq_true rfl) ?_
  refine g_if_eq 19 (by decide) dX11_often_5 (fun c1 => ?_) (fun c1 => ?_)
  · have h := g_ifp c1 h
    refine g_icm1 dX11_often_19 ?_
    obtain rfl := Option.some.inj h
    exact g_iret rfl (Nat.le_refl _) rfl dX11_often_20 ⟨rfl, rfl⟩
  · have h := g_ifn c1 h
    refine g_aload_n dX11_often_8 rfl ?_
    refine m_getR fl_X11_10 rfl rfl rfl dX11_often_9 ?_
    refine g_iload_n dX11_often_12 rfl ?_
    obtain ⟨⟨x2, μ4⟩, q3, h⟩ := g_bind h
    refine m_cS mt_X2_goings ml_X11_177 ms_X2_goings dX11_often_13 (k_X2_goings q3) rfl rfl (by decide) ⟨Nat.le_refl _, Nat.le_refl _⟩ (Nat.le_of_ble_eq_true rfl) ?_
    refine g_goto 20 (by decide) dX11_often_16 ?_
    obtain rfl := Option.some.inj h
    exact g_iret rfl (Nat.le_refl _) rfl dX11_often_20 ⟨rfl, rfl⟩
