set_option maxRecDepth 100000 in
set_option maxHeartbeats 4000000 in
theorem k_X11_trace {D : va_G} {cA : Nat → ClassId} {b b2 k : Nat} {dyn : Nat → Nat} {t s : Nat} {a1 : Int32} {μ : g_M} {z : Int32} (h : f_X11_trace a1 μ = some z) : g_K (g_XX D cA b b2 dyn) yX11_trace Y_X11_trace 2 0 0 k [.ref 0, .int a1] (μ, (g_rfX t s)) (fun r1 σ1 => r1 = some (.int z) ∧ σ1 = (μ, (g_rfX t s))) := by
  unfold f_X11_trace at h
  refine g_met 0 (by decide) rfl rfl (Nat.le_of_ble_eq_true rfl) ?_
  refine g_iload_n dX11_trace_0 rfl ?_
  refine g_ic0 dX11_trace_1 ?_
  refine g_aload_n dX11_trace_2 rfl ?_
  refine m_getR fl_X11_29 rfl rfl rfl dX11_trace_3 ?_
  refine m_getI fl_X11_338 rfl rfl dX11_trace_6 ?_
  refine g_ic1 dX11_trace_9 ?_
  refine g_isub dX11_trace_10 ?_
  refine m_cS mt_X11_isBetween ml_X11_120 ms_X11_isBetween dX11_trace_11 (k_X11_isBetween rfl) rfl rfl (by decide) ⟨Nat.le_refl _, Nat.le_refl _⟩ (Nat.le_of_ble_eq_true rfl) ?_
  refine g_if_eq 29 (by decide) dX11_trace_14 (fun c1 => ?_) (fun c1 => ?_)
  · have h := g_ifp c1 h
    refine g_bipush (v := (-3)) dX11_trace_29 (by decide) ?_
    obtain rfl := Option.some.inj h
    exact g_iret rfl (Nat.le_refl _) rfl dX11_trace_31 ⟨rfl, rfl⟩
  · have h := g_ifn c1 h
    refine g_aload_n dX11_trace_17 rfl ?_
    refine m_getR fl_X11_29 rfl rfl rfl dX11_trace_18 ?_
    refine m_getR fl_X11_339 rfl rfl rfl dX11_trace_21 ?_
    refine g_iload_n dX11_trace_24 rfl ?_
    obtain ⟨x2, qx2, h⟩ := g_bind h
    refine m_iald rfl qx2 dX11_trace_25 ?_
    refine g_goto 31 (by decide) dX11_trace_26 ?_
    obtain rfl := Option.some.inj h
    exact g_iret rfl (Nat.le_refl _) rfl dX11_trace_31 ⟨rfl, rfl⟩
set_option maxRecDepth 100000 in
set_option maxHeartbeats 4000000 in
theorem k_X11_many {D : va_G} {cA : Nat → ClassId} {b b2 k : Nat} {dyn : Nat → Nat} {t s : Nat} {L : Nat} {N : Nat} (hR : g_RO (g_XX D cA b b2 dyn) k (g_rfX t s) t L) {a1 : Int32} {μ : g_M} {z : Int32} (h : f_X11_many N t L a1 μ = some z) : g_K (g_XX D cA b b2 dyn) yX11_many Y_X11_many 3 0 0 k [.ref 0, .int a1] (μ, (g_rfX t s)) (fun r1 σ1 => r1 = some (.int z) ∧ σ1 = (μ, (g_rfX t s))) := by
  unfold f_X11_many at h
  refine g_met 0 (by decide) rfl rfl (Nat.le_of_ble_eq_true rfl) ?_
  refine g_iload_n dX11_many_0 rfl ?_
  by_cases c1 : a1 = 0
  · have h := g_ifp c1 h
    refine m_tab 0 44 c1 dX11_many_1 (by decide) (by decide) rfl (by decide) ?_
    refine g_aload_n dX11_many_44 rfl ?_
    refine m_getR fl_X11_10 rfl rfl rfl dX11_many_45 ?_
    refine m_getI fl_X11_70 rfl rfl dX11_many_48 ?_
    obtain rfl := Option.some.inj h
    exact g_iret rfl (Nat.le_refl _) rfl dX11_many_51 ⟨rfl, rfl⟩
  have h := g_ifn c1 h
  by_cases c2 : a1 = 1
  · have h := g_ifp c2 h
    refine m_tab 1 52 c2 dX11_many_1 (by decide) (by decide) rfl (by decide) ?_
    refine g_aload_n dX11_many_52 rfl ?_
    refine m_getR fl_X11_10 rfl rfl rfl dX11_many_53 ?_
    refine m_getR fl_X11_342 rfl rfl rfl dX11_many_56 ?_
    refine m_getI fl_X11_162 rfl hR.1 dX11_many_59 ?_
    obtain rfl := Option.some.inj h
    exact g_iret rfl (Nat.le_refl _) rfl dX11_many_62 ⟨rfl, rfl⟩
  have h := g_ifn c2 h
  by_cases c3 : a1 = 2
  · have h := g_ifp c3 h
    refine m_tab 2 63 c3 dX11_many_1 (by decide) (by decide) rfl (by decide) ?_
    refine g_aload_n dX11_many_63 rfl ?_
    refine m_getR fl_X11_10 rfl rfl rfl dX11_many_64 ?_
    refine g_aload_n dX11_many_67 rfl ?_
    refine m_getR fl_X11_10 rfl rfl rfl dX11_many_68 ?_
    refine m_getI fl_X11_93 rfl rfl dX11_many_71 ?_
    obtain ⟨x4, q5, h⟩ := g_bind h
    refine m_cV mt_X9_homeSet ml_X11_140 mv_X9_homeSet dX11_many_74 (k_X9_homeSet q5) rfl rfl rfl rfl (by decide) ⟨Nat.le_refl _, Nat.le_refl _⟩ (Nat.le_of_ble_eq_true rfl) ?_
    obtain ⟨x6, q7, h⟩ := g_bind h
    refine m_cS mt_J6_bitCount_0f7a4 ml_X11_198 ms_J6_bitCount_0f7a4 dX11_many_77 (k_J6_bitCount_0f7a4 q7) rfl rfl (by decide) ⟨Nat.le_refl _, Nat.le_refl _⟩ (Nat.le_of_ble_eq_true rfl) ?_
    obtain rfl := Option.some.inj h
    exact g_iret rfl (Nat.le_refl _) rfl dX11_many_80 ⟨rfl, rfl⟩
  have h := g_ifn c3 h
  by_cases c8 : a1 = 3
  · have h := g_ifp c8 h
    refine m_tab 3 81 c8 dX11_many_1 (by decide) (by decide) rfl (by decide) ?_
    refine g_aload_n dX11_many_81 rfl ?_
    refine m_getR fl_X11_10 rfl rfl rfl dX11_many_82 ?_
    refine m_getI fl_X11_250 rfl rfl dX11_many_85 ?_
    obtain rfl := Option.some.inj h
    exact g_iret rfl (Nat.le_refl _) rfl dX11_many_88 ⟨rfl, rfl⟩
  have h := g_ifn c8 h
  by_cases c9 : a1 = 4
  · have h := g_ifp c9 h
    refine m_tab 4 89 c9 dX11_many_1 (by decide) (by decide) rfl (by decide) ?_
    refine g_aload_n dX11_many_89 rfl ?_
    refine m_getI fl_X11_274 rfl rfl dX11_many_90 ?_
    obtain rfl := Option.some.inj h
    exact g_iret rfl (Nat.le_refl _) rfl dX11_many_93 ⟨rfl, rfl⟩
  have h := g_ifn c9 h
  by_cases c10 : a1 = 5
  · have h := g_ifp c10 h
    refine m_tab 5 94 c10 dX11_many_1 (by decide) (by decide) rfl (by decide) ?_
    refine g_aload_n dX11_many_94 rfl ?_
    refine m_getR fl_X11_22 rfl rfl rfl dX11_many_95 ?_
    refine m_getI fl_X11_144 rfl rfl dX11_many_98 ?_
    obtain rfl := Option.some.inj h
    exact g_iret rfl (Nat.le_refl _) rfl dX11_many_101 ⟨rfl, rfl⟩
  have h := g_ifn c10 h
  by_cases c11 : a1 = 6
  · have h := g_ifp c11 h
    refine m_tab 6 102 c11 dX11_many_1 (by decide) (by decide) rfl (by decide) ?_
    refine g_aload_n dX11_many_102 rfl ?_
    refine m_getR fl_X11_29 rfl rfl rfl dX11_many_103 ?_
    refine m_getI fl_X11_338 rfl rfl dX11_many_106 ?_
    obtain rfl := Option.some.inj h
    exact g_iret rfl (Nat.le_refl _) rfl dX11_many_109 ⟨rfl, rfl⟩
  have h := g_ifn c11 h
  refine g_tabOut 110 dX11_many_1 (by have nc1 := m_ne 0 0 c1 (by decide); have nc2 := m_ne 1 1 c2 (by decide); have nc3 := m_ne 2 2 c3 (by decide); have nc8 := m_ne 3 3 c8 (by decide); have nc9 := m_ne 4 4 c9 (by decide); have nc10 := m_ne 5 5 c10 (by decide); have nc11 := m_ne 6 6 c11 (by decide); omega) (by decide) ?_
  refine g_icm1 dX11_many_110 ?_
  obtain rfl := Option.some.inj h
  exact g_iret rfl (Nat.le_refl _) rfl dX11_many_111 ⟨rfl, rfl⟩
set_option maxRecDepth 100000 in
set_option maxHeartbeats 4000000 in
theorem k_X8_isLetter {D : va_G} {cA : Nat → ClassId} {b b2 k : Nat} {dyn : Nat → Nat} {t s : Nat} {a1 : Int32} {μ : g_M} {z : Int32} (h : f_X8_isLetter a1 = z) : g_K (g_XX D cA b b2 dyn) yX8_isLetter Y_X8_isLetter 1 0 0 k [.int a1] (μ, (g_rfX t s)) (fun r1 σ1 => r1 = some (.int z) ∧ σ1 = (μ, (g_rfX t s))) := by
  unfold f_X8_isLetter at h
  refine g_met 0 (by decide) rfl rfl (Nat.le_of_ble_eq_true rfl) ?_
  refine g_iload_n dX8_isLetter_0 rfl ?_
  refine g_bipush (v := 97) dX8_isLetter_1 (by decide) ?_
  refine g_icmp_lt 16 (by decide) dX8_isLetter_3 (fun c1 => ?_) (fun c1 => ?_)
  · have h := g_ifp c1 h
    refine g_ic0 dX8_isLetter_16 ?_
    subst h
    exact g_zret rfl (Nat.le_refl _) rfl rfl dX8_isLetter_17 ⟨rfl, rfl⟩
  · have h := g_ifn c1 h
    refine g_iload_n dX8_isLetter_6 rfl ?_
    refine g_bipush (v := 122) dX8_isLetter_7 (by decide) ?_
    refine g_icmp_gt 16 (by decide) dX8_isLetter_9 (fun c2 => ?_) (fun c2 => ?_)
    · have h := g_ifp c2 h
      refine g_ic0 dX8_isLetter_16 ?_
      subst h
      exact g_zret rfl (Nat.le_refl _) rfl rfl dX8_isLetter_17 ⟨rfl, rfl⟩
    · have h := g_ifn c2 h
      refine g_ic1 dX8_isLetter_12 ?_
      refine g_goto 17 (by decide) dX8_isLetter_13 ?_
      subst h
      exact g_zret rfl (Nat.le_refl _) rfl rfl dX8_isLetter_17 ⟨rfl, rfl⟩
set_option maxRecDepth 100000 in
set_option maxHeartbeats 4000000 in
theorem zb_X8_isLetter (a1 : Int32) : narrow .boolean (.int (f_X8_isLetter a1)) = .int (f_X8_isLetter a1) := by
  unfold f_X8_isLetter
  repeat' split
  all_goals first | rfl | rfl
set_option maxRecDepth 100000 in
set_option maxHeartbeats 4000000 in
theorem k_X8_isDigit {D : va_G} {cA : Nat → ClassId} {b b2 k : Nat} {dyn : Nat → Nat} {t s : Nat} {a1 : Int32} {μ : g_M} {z : Int32} (h : f_X8_isDigit a1 = z) : g_K (g_XX D cA b b2 dyn) yX8_isDigit Y_X8_isDigit 1 0 0 k [.int a1] (μ, (g_rfX t s)) (fun r1 σ1 => r1 = some (.int z) ∧ σ1 = (μ, (g_rfX t s))) := by
  unfold f_X8_isDigit at h
  refine g_met 0 (by decide) rfl rfl (Nat.le_of_ble_eq_true rfl) ?_
  refine g_iload_n dX8_isDigit_0 rfl ?_
  refine g_bipush (v := 48) dX8_isDigit_1 (by decide) ?_
  refine g_icmp_lt 16 (by decide) dX8_isDigit_3 (fun c1 => ?_) (fun c1 => ?_)
  · have h := g_ifp c1 h
    refine g_ic0 dX8_isDigit_16 ?_
    subst h
    exact g_zret rfl (Nat.le_refl _) rfl rfl dX8_isDigit_17 ⟨rfl, rfl⟩
  · have h := g_ifn c1 h
    refine g_iload_n dX8_isDigit_6 rfl ?_
    refine g_bipush (v := 57) dX8_isDigit_7 (by decide) ?_
    refine g_icmp_gt 16 (by decide) dX8_isDigit_9 (fun c2 => ?_) (fun c2 => ?_)
    · have h := g_ifp c2 h
      refine g_ic0 dX8_isDigit_16 ?_
      subst h
      exact g_zret rfl (Nat.le_refl _) rfl rfl dX8_isDigit_17 ⟨rfl, rfl⟩
    · have h := g_ifn c2 h
      refine g_ic1 dX8_isDigit_12 ?_
      refine g_goto 17 (by decide) dX8_isDigit_13 ?_
      subst h
      exact g_zret rfl (Nat.le_refl _) rfl rfl dX8_isDigit_17 ⟨rfl, rfl⟩
set_option maxRecDepth 100000 in
set_option maxHeartbeats 4000000 in
theorem zb_X8_isDigit (a1 : Int32) : narrow .boolean (.int (f_X8_isDigit a1)) = .int (f_X8_isDigit a1) := by
  unfold f_X8_isDigit
  repeat' split
  all_goals first | rfl | rfl
set_option maxRecDepth 100000 in
set_option maxHeartbeats 4000000 in
theorem k_X8_wordEnd_L54 {D : va_G} {cA : Nat → ClassId} {b b2 k : Nat} {dyn : Nat → Nat} {t s : Nat} {Q : Option Value → g_S → Prop} {N : Nat} : ∀ (n : Nat) (x_2 : Int32) (μ : g_M) (z_2 : Int32), f_X8_wordEnd_L54 N n x_2 μ = some z_2 → g_V (g_XX D cA b b2 dyn) Y_X8_wordEnd 2 0 0 Q k 0 0 80 [none, none, some (.int z_2)] [] (μ, (g_rfX t s)) → g_V (g_XX D cA b b2 dyn) Y_X8_wordEnd 2 0 0 Q k 0 0 54 [some (.ref 45), none, some (.int x_2)] [] (μ, (g_rfX t s)) := by
  intro n
  induction n with
  | zero =>
    intro x_2 μ z_2 h
    rw [f_X8_wordEnd_L54] at h
    cases h
  | succ n ih =>
    intro x_2 μ z_2 h hc
    rw [f_X8_wordEnd_L54] at h
    refine g_iload_n dX8_wordEnd_54 rfl ?_
    refine g_aload_n dX8_wordEnd_55 rfl ?_
    refine m_getI fl_X8_24 rfl rfl dX8_wordEnd_56 ?_
    refine g_icmp_ge 80 (by decide) dX8_wordEnd_59 (fun c6 => ?_) (fun c6 => ?_)
    · have h := g_ifp c6 h
      obtain rfl := Option.some.inj h
      exact g_less _ (g_subN (g_subN (g_subS g_sub0))) hc
    · have h := g_ifn c6 h
      refine g_aload_n dX8_wordEnd_62 rfl ?_
      refine m_getR fl_X8_9 rfl rfl rfl dX8_wordEnd_63 ?_
      refine g_iload_n dX8_wordEnd_66 rfl ?_
      obtain ⟨x7, qx7, h⟩ := g_bind h
      refine m_iald rfl qx7 dX8_wordEnd_67 ?_
      refine m_cS mt_X8_isDigit ml_X8_69 ms_X8_isDigit dX8_wordEnd_68 (k_X8_isDigit rfl) rfl rfl (by decide) ⟨Nat.le_refl _, Nat.le_refl _⟩ (Nat.le_of_ble_eq_true rfl) ?_
      refine g_if_eq 80 (by decide) dX8_wordEnd_71 (fun c8 => ?_) (fun c8 => ?_)
      · have h := g_ifp c8 h
        obtain rfl := Option.some.inj h
        exact g_less _ (g_subN (g_subN (g_subS g_sub0))) hc
      · have h := g_ifn c8 h
        refine g_iinc_2 (v := 1) rfl (by decide) (Nat.le_of_ble_eq_true rfl) dX8_wordEnd_74 ?_
        refine g_goto 54 (by decide) dX8_wordEnd_77 ?_
        exact g_less _ (g_subS (g_subN (g_subS g_sub0))) (ih _ _ _ h hc)
set_option maxRecDepth 100000 in
set_option maxHeartbeats 4000000 in
theorem k_X8_wordEnd_L16 {D : va_G} {cA : Nat → ClassId} {b b2 k : Nat} {dyn : Nat → Nat} {t s : Nat} {Q : Option Value → g_S → Prop} {N : Nat} : ∀ (n : Nat) (x_2 : Int32) (μ : g_M) (z_2 : Int32), f_X8_wordEnd_L16 N n x_2 μ = some z_2 → g_V (g_XX D cA b b2 dyn) Y_X8_wordEnd 2 0 0 Q k 0 0 80 [none, none, some (.int z_2)] [] (μ, (g_rfX t s)) → g_V (g_XX D cA b b2 dyn) Y_X8_wordEnd 2 0 0 Q k 0 0 16 [some (.ref 45), none, some (.int x_2)] [] (μ, (g_rfX t s)) := by
  intro n
  induction n with
  | zero =>
    intro x_2 μ z_2 h
    rw [f_X8_wordEnd_L16] at h
    cases h
  | succ n ih =>
    intro x_2 μ z_2 h hc
    rw [f_X8_wordEnd_L16] at h
    refine g_iload_n dX8_wordEnd_16 rfl ?_
    refine g_aload_n dX8_wordEnd_17 rfl ?_
    refine m_getI fl_X8_24 rfl rfl dX8_wordEnd_18 ?_
    refine g_icmp_ge 80 (by decide) dX8_wordEnd_21 (fun c8 => ?_) (fun c8 => ?_)
    · have h := g_ifp c8 h
      obtain rfl := Option.some.inj h
      exact g_less _ (g_subN (g_subN (g_subS g_sub0))) hc
    · have h := g_ifn c8 h
      refine g_aload_n dX8_wordEnd_24 rfl ?_
      refine m_getR fl_X8_9 rfl rfl rfl dX8_wordEnd_25 ?_
      refine g_iload_n dX8_wordEnd_28 rfl ?_
      obtain ⟨x9, qx9, h⟩ := g_bind h
      refine m_iald rfl qx9 dX8_wordEnd_29 ?_
      refine m_cS mt_X8_isLetter ml_X8_65 ms_X8_isLetter dX8_wordEnd_30 (k_X8_isLetter rfl) rfl rfl (by decide) ⟨Nat.le_refl _, Nat.le_refl _⟩ (Nat.le_of_ble_eq_true rfl) ?_
      refine g_if_eq 80 (by decide) dX8_wordEnd_33 (fun c10 => ?_) (fun c10 => ?_)
      · have h := g_ifp c10 h
        obtain rfl := Option.some.inj h
        exact g_less _ (g_subN (g_subN (g_subS g_sub0))) hc
      · have h := g_ifn c10 h
        refine g_iinc_2 (v := 1) rfl (by decide) (Nat.le_of_ble_eq_true rfl) dX8_wordEnd_36 ?_
        refine g_goto 16 (by decide) dX8_wordEnd_39 ?_
        exact g_less _ (g_subS (g_subN (g_subS g_sub0))) (ih _ _ _ h hc)
set_option maxRecDepth 100000 in
set_option maxHeartbeats 4000000 in
theorem k_X8_wordEnd {D : va_G} {cA : Nat → ClassId} {b b2 k : Nat} {dyn : Nat → Nat} {t s : Nat} {N : Nat} {a1 : Int32} {μ : g_M} {z : Int32} (h : f_X8_wordEnd N a1 μ = some z) : g_K (g_XX D cA b b2 dyn) yX8_wordEnd Y_X8_wordEnd 2 0 0 k [.ref 45, .int a1] (μ, (g_rfX t s)) (fun r1 σ1 => r1 = some (.int z) ∧ σ1 = (μ, (g_rfX t s))) := by
  unfold f_X8_wordEnd at h
  refine g_met 1 (by decide) rfl rfl (Nat.le_of_ble_eq_true rfl) ?_
  refine g_iload_n dX8_wordEnd_0 rfl ?_
  refine g_ic1 dX8_wordEnd_1 ?_
  refine g_iadd dX8_wordEnd_2 ?_
  obtain ⟨x1, ex1, h⟩ := g_let h
  refine g_top ex1 ?_
  refine g_istore_2 rfl (Nat.le_of_ble_eq_true rfl) dX8_wordEnd_3 ?_
  refine g_aload_n dX8_wordEnd_4 rfl ?_
  refine m_getR fl_X8_9 rfl rfl rfl dX8_wordEnd_5 ?_
  refine g_iload_n dX8_wordEnd_8 rfl ?_
  obtain ⟨x2, qx2, h⟩ := g_bind h
  refine m_iald rfl qx2 dX8_wordEnd_9 ?_
  refine m_cS mt_X8_isLetter ml_X8_65 ms_X8_isLetter dX8_wordEnd_10 (k_X8_isLetter rfl) rfl rfl (by decide) ⟨Nat.le_refl _, Nat.le_refl _⟩ (Nat.le_of_ble_eq_true rfl) ?_
  refine g_if_eq 42 (by decide) dX8_wordEnd_13 (fun c3 => ?_) (fun c3 => ?_)
  · have h := g_ifp c3 h
    refine g_aload_n dX8_wordEnd_42 rfl ?_
    refine m_getR fl_X8_9 rfl rfl rfl dX8_wordEnd_43 ?_
    refine g_iload_n dX8_wordEnd_46 rfl ?_
    obtain ⟨x4, qx4, h⟩ := g_bind h
    refine m_iald rfl qx4 dX8_wordEnd_47 ?_
    refine m_cS mt_X8_isDigit ml_X8_69 ms_X8_isDigit dX8_wordEnd_48 (k_X8_isDigit rfl) rfl rfl (by decide) ⟨Nat.le_refl _, Nat.le_refl _⟩ (Nat.le_of_ble_eq_true rfl) ?_
    refine g_if_eq 80 (by decide) dX8_wordEnd_51 (fun c5 => ?_) (fun c5 => ?_)
    · have h := g_ifp c5 h
      refine g_iload_n dX8_wordEnd_80 rfl ?_
      obtain rfl := Option.some.inj h
      exact g_iret rfl (Nat.le_refl _) rfl dX8_wordEnd_81 ⟨rfl, rfl⟩
    · have h := g_ifn c5 h
      obtain ⟨x6, q7, h⟩ := g_bind h
      refine g_less _ (g_subS (g_subN (g_subS g_sub0))) (k_X8_wordEnd_L54 _ _ _ _ q7 ?_)
      refine g_iload_n dX8_wordEnd_80 rfl ?_
      obtain rfl := Option.some.inj h
      exact g_iret rfl (Nat.le_refl _) rfl dX8_wordEnd_81 ⟨rfl, rfl⟩
  · have h := g_ifn c3 h
    obtain ⟨x8, q9, h⟩ := g_bind h
    refine g_less _ (g_subS (g_subN (g_subS g_sub0))) (k_X8_wordEnd_L16 _ _ _ _ q9 ?_)
    refine g_iload_n dX8_wordEnd_80 rfl ?_
    obtain rfl := Option.some.inj h
    exact g_iret rfl (Nat.le_refl _) rfl dX8_wordEnd_81 ⟨rfl, rfl⟩
set_option maxRecDepth 100000 in
set_option maxHeartbeats 4000000 in
theorem k_X8_isName_L11 {D : va_G} {cA : Nat → ClassId} {b b2 k : Nat} {dyn : Nat → Nat} {t s : Nat} {Q : Option Value → g_S → Prop} {N : Nat} : ∀ (n : Nat) (x_1 : Int32) (x_2 : Int32) (x_3 : Int32) (x_4 : Int32) (μ : g_M) (z : (Int32) ⊕ (Unit)), f_X8_isName_L11 N n x_1 x_2 x_3 x_4 μ = some z → (∀ q : Int32, z = .inl q → Q (some (.int q)) (μ, (g_rfX t s))) → (z = .inr () → g_V (g_XX D cA b b2 dyn) Y_X8_isName 6 0 0 Q k 0 0 65 [none, none, none, none, none, none] [] (μ, (g_rfX t s))) → g_V (g_XX D cA b b2 dyn) Y_X8_isName 6 0 0 Q k 0 0 11 [some (.ref 45), some (.int x_1), some (.int x_2), some (.int x_3), some (.int x_4), none] [] (μ, (g_rfX t s)) := by
  intro n
  induction n with
  | zero =>
    intro x_1 x_2 x_3 x_4 μ z h
    rw [f_X8_isName_L11] at h
    cases h
  | succ n ih =>
    intro x_1 x_2 x_3 x_4 μ z h hr hc
    rw [f_X8_isName_L11] at h
    refine g_iload dX8_isName_11 rfl ?_
    refine g_bipush (v := 8) dX8_isName_13 (by decide) ?_
    refine g_icmp_ge 65 (by decide) dX8_isName_15 (fun c2 => ?_) (fun c2 => ?_)
    · have h := g_ifp c2 h
      obtain rfl := Option.some.inj h
      exact g_less _ (g_subN (g_subN (g_subN (g_subN (g_subN (g_subN g_sub0)))))) (hc  rfl)
    · have h := g_ifn c2 h
      refine g_iload dX8_isName_18 rfl ?_
      refine g_iload_n dX8_isName_20 rfl ?_
      refine g_icmp_ge 36 (by decide) dX8_isName_21 (fun c3 => ?_) (fun c3 => ?_)
      · have h := g_ifp c3 h
        refine g_bipush (v := 32) dX8_isName_36 (by decide) ?_
        refine g_istore_5 rfl (Nat.le_of_ble_eq_true rfl) dX8_isName_38 ?_
        obtain ⟨x4, qx4, h⟩ := g_bind h
        refine m_chr (by decide) rfl rfl qx4 ?_
        refine g_iload dX8_isName_52 rfl ?_
        refine g_icmp_eq 59 (by decide) dX8_isName_54 (fun c5 => ?_) (fun c5 => ?_)
        · have h := g_ifp c5 h
          refine g_iinc_4 (v := 1) rfl (by decide) (Nat.le_of_ble_eq_true rfl) dX8_isName_59 ?_
          refine g_goto 11 (by decide) dX8_isName_62 ?_
          exact g_less _ (g_subS (g_subS (g_subS (g_subS (g_subS (g_subN g_sub0)))))) (ih _ _ _ _ _ _ h hr hc)
        · have h := g_ifn c5 h
          refine g_ic0 dX8_isName_57 ?_
          obtain rfl := Option.some.inj h
          exact g_zret rfl (Nat.le_refl _) rfl rfl dX8_isName_58 (hr _ rfl)
      · have h := g_ifn c3 h
        refine g_aload_n dX8_isName_24 rfl ?_
        refine m_getR fl_X8_9 rfl rfl rfl dX8_isName_25 ?_
        refine g_iload_n dX8_isName_28 rfl ?_
        refine g_iload dX8_isName_29 rfl ?_
        refine g_iadd dX8_isName_31 ?_
        obtain ⟨x6, qx6, h⟩ := g_bind h
        refine m_iald rfl qx6 dX8_isName_32 ?_
        refine g_goto 38 (by decide) dX8_isName_33 ?_
        refine g_istore_5 rfl (Nat.le_of_ble_eq_true rfl) dX8_isName_38 ?_
        obtain ⟨x7, qx7, h⟩ := g_bind h
        refine m_chr (by decide) rfl rfl qx7 ?_
        refine g_iload dX8_isName_52 rfl ?_
        refine g_icmp_eq 59 (by decide) dX8_isName_54 (fun c8 => ?_) (fun c8 => ?_)
        · have h := g_ifp c8 h
          refine g_iinc_4 (v := 1) rfl (by decide) (Nat.le_of_ble_eq_true rfl) dX8_isName_59 ?_
          refine g_goto 11 (by decide) dX8_isName_62 ?_
          exact g_less _ (g_subS (g_subS (g_subS (g_subS (g_subS (g_subN g_sub0)))))) (ih _ _ _ _ _ _ h hr hc)
        · have h := g_ifn c8 h
          refine g_ic0 dX8_isName_57 ?_
          obtain rfl := Option.some.inj h
          exact g_zret rfl (Nat.le_refl _) rfl rfl dX8_isName_58 (hr _ rfl)
set_option maxRecDepth 100000 in
set_option maxHeartbeats 4000000 in
theorem k_X8_isName {D : va_G} {cA : Nat → ClassId} {b b2 k : Nat} {dyn : Nat → Nat} {t s : Nat} {N : Nat} {a1 : Int32} {a2 : Int32} {a3 : Int32} {μ : g_M} {z : Int32} (h : f_X8_isName N a1 a2 a3 μ = some z) : g_K (g_XX D cA b b2 dyn) yX8_isName Y_X8_isName 6 0 0 k [.ref 45, .int a1, .int a2, .int a3] (μ, (g_rfX t s)) (fun r1 σ1 => r1 = some (.int z) ∧ σ1 = (μ, (g_rfX t s))) := by
  unfold f_X8_isName at h
  refine g_met 2 (by decide) rfl rfl (Nat.le_of_ble_eq_true rfl) ?_
  refine g_iload_n dX8_isName_0 rfl ?_
  refine g_bipush (v := 8) dX8_isName_1 (by decide) ?_
  refine g_icmp_le 8 (by decide) dX8_isName_3 (fun c1 => ?_) (fun c1 => ?_)
  · have h := g_ifp c1 h
    refine g_ic0 dX8_isName_8 ?_
    refine g_istore_4 rfl (Nat.le_of_ble_eq_true rfl) dX8_isName_9 ?_
    obtain ⟨w3, q2, h⟩ := g_bind h
    refine g_less _ (g_subS (g_subS (g_subS (g_subS (g_subS (g_subN g_sub0)))))) (k_X8_isName_L11 _ _ _ _ _ _ _ q2 ?_ ?_)
    · intro q0 e0
      subst e0
      cases h
      exact ⟨rfl, rfl⟩
    · intro  e0
      subst e0
      try dsimp only at h
      refine g_ic1 dX8_isName_65 ?_
      obtain rfl := Option.some.inj h
      exact g_zret rfl (Nat.le_refl _) rfl rfl dX8_isName_66 ⟨rfl, rfl⟩
  · have h := g_ifn c1 h
    refine g_ic0 dX8_isName_6 ?_
    obtain rfl := Option.some.inj h
    exact g_zret rfl (Nat.le_refl _) rfl rfl dX8_isName_7 ⟨rfl, rfl⟩
set_option maxRecDepth 100000 in
set_option maxHeartbeats 4000000 in
theorem k_X8_nameCode_L2 {D : va_G} {cA : Nat → ClassId} {b b2 k : Nat} {dyn : Nat → Nat} {t s : Nat} {Q : Option Value → g_S → Prop} {N : Nat} : ∀ (n : Nat) (x_1 : Int32) (x_2 : Int32) (x_3 : Int32) (μ : g_M) (z : (Int32) ⊕ (Unit)), f_X8_nameCode_L2 N n x_1 x_2 x_3 μ = some z → (∀ q : Int32, z = .inl q → Q (some (.int q)) (μ, (g_rfX t s))) → (z = .inr () → g_V (g_XX D cA b b2 dyn) Y_X8_nameCode 7 0 0 Q k 0 0 26 [none, none, none, none] [] (μ, (g_rfX t s))) → g_V (g_XX D cA b b2 dyn) Y_X8_nameCode 7 0 0 Q k 0 0 2 [some (.ref 45), some (.int x_1), some (.int x_2), some (.int x_3)] [] (μ, (g_rfX t s)) := by
  intro n
  induction n with
  | zero =>
    intro x_1 x_2 x_3 μ z h
    rw [f_X8_nameCode_L2] at h
    cases h
  | succ n ih =>
    intro x_1 x_2 x_3 μ z h hr hc
    rw [f_X8_nameCode_L2] at h
    refine g_iload_n dX8_nameCode_2 rfl ?_
    refine g_bipush (v := 18) dX8_nameCode_3 (by decide) ?_
    refine g_icmp_ge 26 (by decide) dX8_nameCode_5 (fun c1 => ?_) (fun c1 => ?_)
    · have h := g_ifp c1 h
      obtain rfl := Option.some.inj h
      exact g_less _ (g_subN (g_subN (g_subN (g_subN g_sub0)))) (hc  rfl)
    · have h := g_ifn c1 h
      refine g_aload_n dX8_nameCode_8 rfl ?_
      refine g_iload_n dX8_nameCode_9 rfl ?_
      refine g_iload_n dX8_nameCode_10 rfl ?_
      refine g_iload_n dX8_nameCode_11 rfl ?_
      obtain ⟨x2, q3, h⟩ := g_bind h
      refine m_cV mt_X8_isName ml_X8_75 mv_X8_isName dX8_nameCode_12 (k_X8_isName q3) rfl rfl rfl rfl (by decide) ⟨Nat.le_refl _, Nat.le_refl _⟩ (Nat.le_of_ble_eq_true rfl) ?_
      refine g_if_eq 20 (by decide) dX8_nameCode_15 (fun c4 => ?_) (fun c4 => ?_)
      · have h := g_ifp c4 h
        refine g_iinc_3 (v := 1) rfl (by decide) (Nat.le_of_ble_eq_true rfl) dX8_nameCode_20 ?_
        refine g_goto 2 (by decide) dX8_nameCode_23 ?_
        exact g_less _ (g_subS (g_subS (g_subS (g_subS g_sub0)))) (ih _ _ _ _ _ h hr hc)
      · have h := g_ifn c4 h
        refine g_iload_n dX8_nameCode_18 rfl ?_
        obtain rfl := Option.some.inj h
        exact g_iret rfl (Nat.le_refl _) rfl dX8_nameCode_19 (hr _ rfl)
set_option maxRecDepth 100000 in
set_option maxHeartbeats 4000000 in
theorem k_X8_nameCode {D : va_G} {cA : Nat → ClassId} {b b2 k : Nat} {dyn : Nat → Nat} {t s : Nat} {N : Nat} {a1 : Int32} {a2 : Int32} {μ : g_M} {z : Int32} (h : f_X8_nameCode N a1 a2 μ = some z) : g_K (g_XX D cA b b2 dyn) yX8_nameCode Y_X8_nameCode 7 0 0 k [.ref 45, .int a1, .int a2] (μ, (g_rfX t s)) (fun r1 σ1 => r1 = some (.int z) ∧ σ1 = (μ, (g_rfX t s))) := by
  unfold f_X8_nameCode at h
  refine g_met 1 (by decide) rfl rfl (Nat.le_of_ble_eq_true rfl) ?_
  refine g_ic0 dX8_nameCode_0 ?_
  refine g_istore_3 rfl (Nat.le_of_ble_eq_true rfl) dX8_nameCode_1 ?_
  obtain ⟨w2, q1, h⟩ := g_bind h
  refine g_less _ (g_subS (g_subS (g_subS (g_subS g_sub0)))) (k_X8_nameCode_L2 _ _ _ _ _ _ q1 ?_ ?_)
  · intro q0 e0
    subst e0
    cases h
    exact ⟨rfl, rfl⟩
  · intro  e0
    subst e0
    try dsimp only at h
    refine g_bipush (v := 25) dX8_nameCode_26 (by decide) ?_
    obtain rfl := Option.some.inj h
    exact g_iret rfl (Nat.le_refl _) rfl dX8_nameCode_28 ⟨rfl, rfl⟩
set_option maxRecDepth 100000 in
set_option maxHeartbeats 4000000 in
theorem k_X8_codeOf {D : va_G} {cA : Nat → ClassId} {b b2 k : Nat} {dyn : Nat → Nat} {t s : Nat} {N : Nat} {a1 : Int32} {a2 : Int32} {μ : g_M} {z : Int32} (h : f_X8_codeOf N a1 a2 μ = some z) : g_K (g_XX D cA b b2 dyn) yX8_codeOf Y_X8_codeOf 8 0 0 k [.ref 45, .int a1, .int a2] (μ, (g_rfX t s)) (fun r1 σ1 => r1 = some (.int z) ∧ σ1 = (μ, (g_rfX t s))) := by
  unfold f_X8_codeOf at h
  refine g_met 0 (by decide) rfl rfl (Nat.le_of_ble_eq_true rfl) ?_
  refine g_aload_n dX8_codeOf_0 rfl ?_
  refine m_getR fl_X8_9 rfl rfl rfl dX8_codeOf_1 ?_
  refine g_iload_n dX8_codeOf_4 rfl ?_
  obtain ⟨x1, qx1, h⟩ := g_bind h
  refine m_iald rfl qx1 dX8_codeOf_5 ?_
  refine m_cS mt_X8_isLetter ml_X8_65 ms_X8_isLetter dX8_codeOf_6 (k_X8_isLetter rfl) rfl rfl (by decide) ⟨Nat.le_refl _, Nat.le_refl _⟩ (Nat.le_of_ble_eq_true rfl) ?_
  refine g_if_eq 21 (by decide) dX8_codeOf_9 (fun c2 => ?_) (fun c2 => ?_)
  · have h := g_ifp c2 h
    refine g_aload_n dX8_codeOf_21 rfl ?_
    refine m_getR fl_X8_9 rfl rfl rfl dX8_codeOf_22 ?_
    refine g_iload_n dX8_codeOf_25 rfl ?_
    obtain ⟨x3, qx3, h⟩ := g_bind h
    refine m_iald rfl qx3 dX8_codeOf_26 ?_
    refine m_cS mt_X8_isDigit ml_X8_69 ms_X8_isDigit dX8_codeOf_27 (k_X8_isDigit rfl) rfl rfl (by decide) ⟨Nat.le_refl _, Nat.le_refl _⟩ (Nat.le_of_ble_eq_true rfl) ?_
    refine g_if_eq 48 (by decide) dX8_codeOf_30 (fun c4 => ?_) (fun c4 => ?_)
    · have h := g_ifp c4 h
      refine g_aload_n dX8_codeOf_48 rfl ?_
      refine m_getR fl_X8_9 rfl rfl rfl dX8_codeOf_49 ?_
      refine g_iload_n dX8_codeOf_52 rfl ?_
      obtain ⟨x5, qx5, h⟩ := g_bind h
      refine m_iald rfl qx5 dX8_codeOf_53 ?_
      by_cases c6 : x5 = 40
      · have h := g_ifp c6 h
        refine m_look (off := 70) 40 124 c6 dX8_codeOf_54 (by decide) (by decide) (by decide) ?_
        refine g_bipush (v := 23) dX8_codeOf_124 (by decide) ?_
        obtain rfl := Option.some.inj h
        exact g_iret rfl (Nat.le_refl _) rfl dX8_codeOf_126 ⟨rfl, rfl⟩
      have h := g_ifn c6 h
      by_cases c7 : x5 = 41
      · have h := g_ifp c7 h
        refine m_look (off := 73) 41 127 c7 dX8_codeOf_54 (by decide) (by decide) (by decide) ?_
        refine g_bipush (v := 24) dX8_codeOf_127 (by decide) ?_
        obtain rfl := Option.some.inj h
        exact g_iret rfl (Nat.le_refl _) rfl dX8_codeOf_129 ⟨rfl, rfl⟩
      have h := g_ifn c7 h
      by_cases c8 : x5 = 59
      · have h := g_ifp c8 h
        refine m_look (off := 58) 59 112 c8 dX8_codeOf_54 (by decide) (by decide) (by decide) ?_
        refine g_bipush (v := 19) dX8_codeOf_112 (by decide) ?_
        obtain rfl := Option.some.inj h
        exact g_iret rfl (Nat.le_refl _) rfl dX8_codeOf_114 ⟨rfl, rfl⟩
      have h := g_ifn c8 h
      by_cases c9 : x5 = 60
      · have h := g_ifp c9 h
        refine m_look (off := 61) 60 115 c9 dX8_codeOf_54 (by decide) (by decide) (by decide) ?_
        refine g_bipush (v := 20) dX8_codeOf_115 (by decide) ?_
        obtain rfl := Option.some.inj h
        exact g_iret rfl (Nat.le_refl _) rfl dX8_codeOf_117 ⟨rfl, rfl⟩
      have h := g_ifn c9 h
      by_cases c10 : x5 = 61
      · have h := g_ifp c10 h
        refine m_look (off := 64) 61 118 c10 dX8_codeOf_54 (by decide) (by decide) (by decide) ?_
        refine g_bipush (v := 21) dX8_codeOf_118 (by decide) ?_
        obtain rfl := Option.some.inj h
        exact g_iret rfl (Nat.le_refl _) rfl dX8_codeOf_120 ⟨rfl, rfl⟩
      have h := g_ifn c10 h
      by_cases c11 : x5 = 62
      · have h := g_ifp c11 h
        refine m_look (off := 67) 62 121 c11 dX8_codeOf_54 (by decide) (by decide) (by decide) ?_
        refine g_bipush (v := 22) dX8_codeOf_121 (by decide) ?_
        obtain rfl := Option.some.inj h
        exact g_iret rfl (Nat.le_refl _) rfl dX8_codeOf_123 ⟨rfl, rfl⟩
      have h := g_ifn c11 h
      refine g_lookup (off := 76) 130 dX8_codeOf_54 (by decide) (by have nc6 := m_ne 40 40 c6 (by decide); have nc7 := m_ne 41 41 c7 (by decide); have nc8 := m_ne 59 59 c8 (by decide); have nc9 := m_ne 60 60 c9 (by decide); have nc10 := m_ne 61 61 c10 (by decide); have nc11 := m_ne 62 62 c11 (by decide); simp [Op.lookupswitch.offset, List.find?, Ne.symm nc6, Ne.symm nc7, Ne.symm nc8, Ne.symm nc9, Ne.symm nc10, Ne.symm nc11]) (by decide) ?_
      refine g_bipush (v := 25) dX8_codeOf_130 (by decide) ?_
      obtain rfl := Option.some.inj h
      exact g_iret rfl (Nat.le_refl _) rfl dX8_codeOf_132 ⟨rfl, rfl⟩
    · have h := g_ifn c4 h
      refine g_iload_n dX8_codeOf_33 rfl ?_
      refine g_iload_n dX8_codeOf_34 rfl ?_
      refine g_isub dX8_codeOf_35 ?_
      refine g_ic4 dX8_codeOf_36 ?_
      refine g_icmp_gt 45 (by decide) dX8_codeOf_37 (fun c12 => ?_) (fun c12 => ?_)
      · have h := g_ifp c12 h
        refine g_bipush (v := 25) dX8_codeOf_45 (by decide) ?_
        obtain rfl := Option.some.inj h
        exact g_iret rfl (Nat.le_refl _) rfl dX8_codeOf_47 ⟨rfl, rfl⟩
      · have h := g_ifn c12 h
        refine g_bipush (v := 18) dX8_codeOf_40 (by decide) ?_
        refine g_goto 47 (by decide) dX8_codeOf_42 ?_
        obtain rfl := Option.some.inj h
        exact g_iret rfl (Nat.le_refl _) rfl dX8_codeOf_47 ⟨rfl, rfl⟩
  · have h := g_ifn c2 h
    refine g_aload_n dX8_codeOf_12 rfl ?_
    refine g_iload_n dX8_codeOf_13 rfl ?_
    refine g_iload_n dX8_codeOf_14 rfl ?_
    refine g_iload_n dX8_codeOf_15 rfl ?_
    refine g_isub dX8_codeOf_16 ?_
    obtain ⟨x13, q14, h⟩ := g_bind h
    refine m_cV mt_X8_nameCode ml_X8_72 mv_X8_nameCode dX8_codeOf_17 (k_X8_nameCode q14) rfl rfl rfl rfl (by decide) ⟨Nat.le_refl _, Nat.le_refl _⟩ (Nat.le_of_ble_eq_true rfl) ?_
    obtain rfl := Option.some.inj h
    exact g_iret rfl (Nat.le_refl _) rfl dX8_codeOf_20 ⟨rfl, rfl⟩
set_option maxRecDepth 100000 in
set_option maxHeartbeats 4000000 in
theorem k_X8_numberOf_L5 {D : va_G} {cA : Nat → ClassId} {b b2 k : Nat} {dyn : Nat → Nat} {t s : Nat} {Q : Option Value → g_S → Prop} {N : Nat} : ∀ (n : Nat) (x_2 : Int32) (x_3 : Int32) (x_4 : Int32) (μ : g_M) (z_3 : Int32), f_X8_numberOf_L5 N n x_2 x_3 x_4 μ = some z_3 → g_V (g_XX D cA b b2 dyn) Y_X8_numberOf 1 0 0 Q k 0 0 33 [none, none, none, some (.int z_3), none] [] (μ, (g_rfX t s)) → g_V (g_XX D cA b b2 dyn) Y_X8_numberOf 1 0 0 Q k 0 0 5 [some (.ref 45), none, some (.int x_2), some (.int x_3), some (.int x_4)] [] (μ, (g_rfX t s)) := by
  intro n
  induction n with
  | zero =>
    intro x_2 x_3 x_4 μ z_3 h
    rw [f_X8_numberOf_L5] at h
    cases h
  | succ n ih =>
    intro x_2 x_3 x_4 μ z_3 h hc
    rw [f_X8_numberOf_L5] at h
    refine g_iload dX8_numberOf_5 rfl ?_
    refine g_iload_n dX8_numberOf_7 rfl ?_
    refine g_icmp_ge 33 (by decide) dX8_numberOf_8 (fun c1 => ?_) (fun c1 => ?_)
    · have h := g_ifp c1 h
      obtain rfl := Option.some.inj h
      exact g_less _ (g_subN (g_subN (g_subN (g_subS (g_subN g_sub0))))) hc
    · have h := g_ifn c1 h
      refine g_iload_n dX8_numberOf_11 rfl ?_
      refine g_bipush (v := 10) dX8_numberOf_12 (by decide) ?_
      refine g_imul dX8_numberOf_14 ?_
      refine g_aload_n dX8_numberOf_15 rfl ?_
      refine m_getR fl_X8_9 rfl rfl rfl dX8_numberOf_16 ?_
      refine g_iload dX8_numberOf_19 rfl ?_
      obtain ⟨x2, qx2, h⟩ := g_bind h
      refine m_iald rfl qx2 dX8_numberOf_21 ?_
      refine g_iadd dX8_numberOf_22 ?_
      refine g_bipush (v := 48) dX8_numberOf_23 (by decide) ?_
      refine g_isub dX8_numberOf_25 ?_
      obtain ⟨x3, ex3, h⟩ := g_let h
      refine g_top ex3 ?_
      refine g_istore_3 rfl (Nat.le_of_ble_eq_true rfl) dX8_numberOf_26 ?_
      refine g_iinc_4 (v := 1) rfl (by decide) (Nat.le_of_ble_eq_true rfl) dX8_numberOf_27 ?_
      refine g_goto 5 (by decide) dX8_numberOf_30 ?_
      exact g_less _ (g_subS (g_subN (g_subS (g_subS (g_subS g_sub0))))) (ih _ _ _ _ _ h hc)
set_option maxRecDepth 100000 in
set_option maxHeartbeats 4000000 in
theorem k_X8_numberOf {D : va_G} {cA : Nat → ClassId} {b b2 k : Nat} {dyn : Nat → Nat} {t s : Nat} {N : Nat} {a1 : Int32} {a2 : Int32} {μ : g_M} {z : Int32} (h : f_X8_numberOf N a1 a2 μ = some z) : g_K (g_XX D cA b b2 dyn) yX8_numberOf Y_X8_numberOf 1 0 0 k [.ref 45, .int a1, .int a2] (μ, (g_rfX t s)) (fun r1 σ1 => r1 = some (.int z) ∧ σ1 = (μ, (g_rfX t s))) := by
  unfold f_X8_numberOf at h
  refine g_met 2 (by decide) rfl rfl (Nat.le_of_ble_eq_true rfl) ?_
  refine g_ic0 dX8_numberOf_0 ?_
  refine g_istore_3 rfl (Nat.le_of_ble_eq_true rfl) dX8_numberOf_1 ?_
  refine g_iload_n dX8_numberOf_2 rfl ?_
  refine g_istore_4 rfl (Nat.le_of_ble_eq_true rfl) dX8_numberOf_3 ?_
  obtain ⟨x1, q2, h⟩ := g_bind h
  refine g_less _ (g_subS (g_subN (g_subS (g_subS (g_subS g_sub0))))) (k_X8_numberOf_L5 _ _ _ _ _ _ q2 ?_)
  refine g_iload_n dX8_numberOf_33 rfl ?_
  obtain rfl := Option.some.inj h
  exact g_iret rfl (Nat.le_refl _) rfl dX8_numberOf_34 ⟨rfl, rfl⟩
set_option maxRecDepth 100000 in
set_option maxHeartbeats 4000000 in
theorem k_X8_splitTape_L9 {D : va_G} {cA : Nat → ClassId} {b b2 k : Nat} {dyn : Nat → Nat} {t s : Nat} {Q : Option Value → g_S → Prop} {N : Nat} : ∀ (n : Nat) (x_2 : Int32) (μ : g_M) (z_μ : g_M), f_X8_splitTape_L9 N n x_2 μ = some z_μ → g_V (g_XX D cA b b2 dyn) Y_X8_splitTape 9 0 0 Q k 0 0 113 [some (.ref 45), none, none] [] (z_μ, (g_rfX t s)) → g_V (g_XX D cA b b2 dyn) Y_X8_splitTape 9 0 0 Q k 0 0 9 [some (.ref 45), none, some (.int x_2)] [] (μ, (g_rfX t s)) := by
  intro n
  induction n with
  | zero =>
    intro x_2 μ z_μ h
    rw [f_X8_splitTape_L9] at h
    cases h
  | succ n ih =>
    intro x_2 μ z_μ h hc
    rw [f_X8_splitTape_L9] at h
    refine g_iload_n dX8_splitTape_9 rfl ?_
    refine g_aload_n dX8_splitTape_10 rfl ?_
    refine m_getI fl_X8_24 rfl rfl dX8_splitTape_11 ?_
    refine g_icmp_ge 113 (by decide) dX8_splitTape_14 (fun c2 => ?_) (fun c2 => ?_)
    · have h := g_ifp c2 h
      obtain rfl := Option.some.inj h
      exact g_less _ (g_subS (g_subN (g_subN g_sub0))) hc
    · have h := g_ifn c2 h
      refine g_aload_n dX8_splitTape_17 rfl ?_
      refine g_iload_n dX8_splitTape_18 rfl ?_
      obtain ⟨x3, q4, h⟩ := g_bind h
      refine m_cV mt_X8_wordEnd ml_X8_49 mv_X8_wordEnd dX8_splitTape_19 (k_X8_wordEnd q4) rfl rfl rfl rfl (by decide) ⟨Nat.le_refl _, Nat.le_refl _⟩ (Nat.le_of_ble_eq_true rfl) ?_
      refine g_istore_1 rfl (Nat.le_of_ble_eq_true rfl) dX8_splitTape_22 ?_
      refine g_aload_n dX8_splitTape_23 rfl ?_
      refine m_getR fl_X8_9 rfl rfl rfl dX8_splitTape_24 ?_
      refine g_iload_n dX8_splitTape_27 rfl ?_
      obtain ⟨x5, qx5, h⟩ := g_bind h
      refine m_iald rfl qx5 dX8_splitTape_28 ?_
      refine g_bipush (v := 32) dX8_splitTape_29 (by decide) ?_
      refine g_icmp_eq 102 (by decide) dX8_splitTape_31 (fun c6 => ?_) (fun c6 => ?_)
      · have h := g_ifp c6 h
        refine g_iload_n dX8_splitTape_102 rfl ?_
        refine g_ic1 dX8_splitTape_103 ?_
        refine g_iadd dX8_splitTape_104 ?_
        refine g_iload_n dX8_splitTape_105 rfl ?_
        refine m_max ml_X8_60 dX8_splitTape_106 (by decide) ⟨Nat.le_refl _, Nat.le_refl _⟩ (Nat.le_of_ble_eq_true rfl) ?_
        obtain ⟨x7, ex7, h⟩ := g_let h
        refine g_top ex7 ?_
        refine g_istore_2 rfl (Nat.le_of_ble_eq_true rfl) dX8_splitTape_109 ?_
        refine g_goto 9 (by decide) dX8_splitTape_110 ?_
        exact g_less _ (g_subS (g_subN (g_subS g_sub0))) (ih _ _ _ h hc)
      · have h := g_ifn c6 h
        refine g_aload_n dX8_splitTape_34 rfl ?_
        refine m_getR fl_X8_15 rfl rfl rfl dX8_splitTape_35 ?_
        refine g_aload_n dX8_splitTape_38 rfl ?_
        refine m_getI fl_X8_36 rfl rfl dX8_splitTape_39 ?_
        refine g_aload_n dX8_splitTape_42 rfl ?_
        refine g_iload_n dX8_splitTape_43 rfl ?_
        refine g_iload_n dX8_splitTape_44 rfl ?_
        obtain ⟨x8, q9, h⟩ := g_bind h
        refine m_cV mt_X8_codeOf ml_X8_53 mv_X8_codeOf dX8_splitTape_45 (k_X8_codeOf q9) rfl rfl rfl rfl (by decide) ⟨Nat.le_refl _, Nat.le_refl _⟩ (Nat.le_of_ble_eq_true rfl) ?_
        obtain ⟨μ10, qμ10, h⟩ := g_bind h
        refine m_iast rfl qμ10 dX8_splitTape_48 ?_
        refine g_aload_n dX8_splitTape_49 rfl ?_
        refine m_getR fl_X8_18 rfl rfl rfl dX8_splitTape_50 ?_
        refine g_aload_n dX8_splitTape_53 rfl ?_
        refine m_getI fl_X8_36 rfl rfl dX8_splitTape_54 ?_
        refine g_iload_n dX8_splitTape_57 rfl ?_
        obtain ⟨μ11, qμ11, h⟩ := g_bind h
        refine m_iast rfl qμ11 dX8_splitTape_58 ?_
        refine g_aload_n dX8_splitTape_59 rfl ?_
        refine m_getR fl_X8_21 rfl rfl rfl dX8_splitTape_60 ?_
        refine g_aload_n dX8_splitTape_63 rfl ?_
        refine m_getI fl_X8_36 rfl rfl dX8_splitTape_64 ?_
        refine g_aload_n dX8_splitTape_67 rfl ?_
        refine m_getR fl_X8_15 rfl rfl rfl dX8_splitTape_68 ?_
        refine g_aload_n dX8_splitTape_71 rfl ?_
        refine m_getI fl_X8_36 rfl rfl dX8_splitTape_72 ?_
        obtain ⟨x12, qx12, h⟩ := g_bind h
        refine m_iald rfl qx12 dX8_splitTape_75 ?_
        refine g_bipush (v := 18) dX8_splitTape_76 (by decide) ?_
        refine g_icmp_ne 90 (by decide) dX8_splitTape_78 (fun c13 => ?_) (fun c13 => ?_)
        · have h := g_ifn c13 h
          refine g_ic0 dX8_splitTape_90 ?_
          obtain ⟨μ14, qμ14, h⟩ := g_bind h
          refine m_iast rfl qμ14 dX8_splitTape_91 ?_
          refine g_aload_n dX8_splitTape_92 rfl ?_
          refine g_dup dX8_splitTape_93 rfl ?_
          refine m_getI fl_X8_36 rfl rfl dX8_splitTape_94 ?_
          refine g_ic1 dX8_splitTape_97 ?_
          refine g_iadd dX8_splitTape_98 ?_
          obtain ⟨μ15, eμ15, h⟩ := g_let h
          refine m_putI fl_X8_36 fw_8_4 rfl rfl rfl rfl dX8_splitTape_99 eμ15 ?_
          refine g_iload_n dX8_splitTape_102 rfl ?_
          refine g_ic1 dX8_splitTape_103 ?_
          refine g_iadd dX8_splitTape_104 ?_
          refine g_iload_n dX8_splitTape_105 rfl ?_
          refine m_max ml_X8_60 dX8_splitTape_106 (by decide) ⟨Nat.le_refl _, Nat.le_refl _⟩ (Nat.le_of_ble_eq_true rfl) ?_
          obtain ⟨x16, ex16, h⟩ := g_let h
          refine g_top ex16 ?_
          refine g_istore_2 rfl (Nat.le_of_ble_eq_true rfl) dX8_splitTape_109 ?_
          refine g_goto 9 (by decide) dX8_splitTape_110 ?_
          exact g_less _ (g_subS (g_subN (g_subS g_sub0))) (ih _ _ _ h hc)
        · have h := g_ifp c13 h
          refine g_aload_n dX8_splitTape_81 rfl ?_
          refine g_iload_n dX8_splitTape_82 rfl ?_
          refine g_iload_n dX8_splitTape_83 rfl ?_
          obtain ⟨x17, q18, h⟩ := g_bind h
          refine m_cV mt_X8_numberOf ml_X8_57 mv_X8_numberOf dX8_splitTape_84 (k_X8_numberOf q18) rfl rfl rfl rfl (by decide) ⟨Nat.le_refl _, Nat.le_refl _⟩ (Nat.le_of_ble_eq_true rfl) ?_
          refine g_goto 91 (by decide) dX8_splitTape_87 ?_
          obtain ⟨μ19, qμ19, h⟩ := g_bind h
          refine m_iast rfl qμ19 dX8_splitTape_91 ?_
          refine g_aload_n dX8_splitTape_92 rfl ?_
          refine g_dup dX8_splitTape_93 rfl ?_
          refine m_getI fl_X8_36 rfl rfl dX8_splitTape_94 ?_
          refine g_ic1 dX8_splitTape_97 ?_
          refine g_iadd dX8_splitTape_98 ?_
          obtain ⟨μ20, eμ20, h⟩ := g_let h
          refine m_putI fl_X8_36 fw_8_4 rfl rfl rfl rfl dX8_splitTape_99 eμ20 ?_
          refine g_iload_n dX8_splitTape_102 rfl ?_
          refine g_ic1 dX8_splitTape_103 ?_
          refine g_iadd dX8_splitTape_104 ?_
          refine g_iload_n dX8_splitTape_105 rfl ?_
          refine m_max ml_X8_60 dX8_splitTape_106 (by decide) ⟨Nat.le_refl _, Nat.le_refl _⟩ (Nat.le_of_ble_eq_true rfl) ?_
          obtain ⟨x21, ex21, h⟩ := g_let h
          refine g_top ex21 ?_
          refine g_istore_2 rfl (Nat.le_of_ble_eq_true rfl) dX8_splitTape_109 ?_
          refine g_goto 9 (by decide) dX8_splitTape_110 ?_
          exact g_less _ (g_subS (g_subN (g_subS g_sub0))) (ih _ _ _ h hc)
set_option maxRecDepth 100000 in
set_option maxHeartbeats 4000000 in
theorem k_X8_splitTape {D : va_G} {cA : Nat → ClassId} {b b2 k : Nat} {dyn : Nat → Nat} {t s : Nat} {N : Nat} {μ : g_M} {z : g_M} (h : f_X8_splitTape N μ = some z) : g_K (g_XX D cA b b2 dyn) yX8_splitTape Y_X8_splitTape 9 0 0 k [.ref 45] (μ, (g_rfX t s)) (fun r1 σ1 => r1 = none ∧ σ1 = (z, (g_rfX t s))) := by
  unfold f_X8_splitTape at h
  refine g_met 2 (by decide) rfl rfl (Nat.le_of_ble_eq_true rfl) ?_
  refine g_aload_n dX8_splitTape_0 rfl ?_
  refine g_ic0 dX8_splitTape_1 ?_
  obtain ⟨μ1, eμ1, h⟩ := g_let h
  refine m_putI fl_X8_36 fw_8_4 rfl rfl rfl rfl dX8_splitTape_2 eμ1 ?_
  refine g_ic0 dX8_splitTape_5 ?_
  refine g_istore_1 rfl (Nat.le_of_ble_eq_true rfl) dX8_splitTape_6 ?_
  refine g_ic0 dX8_splitTape_7 ?_
  refine g_istore_2 rfl (Nat.le_of_ble_eq_true rfl) dX8_splitTape_8 ?_
  obtain ⟨μ2, q3, h⟩ := g_bind h
  refine g_less _ (g_subS (g_subN (g_subS g_sub0))) (k_X8_splitTape_L9 _ _ _ _ q3 ?_)
  refine g_aload_n dX8_splitTape_113 rfl ?_
  refine m_getR fl_X8_15 rfl rfl rfl dX8_splitTape_114 ?_
  refine g_aload_n dX8_splitTape_117 rfl ?_
  refine m_getI fl_X8_36 rfl rfl dX8_splitTape_118 ?_
  refine g_bipush (v := 26) dX8_splitTape_121 (by decide) ?_
  obtain ⟨μ4, qμ4, h⟩ := g_bind h
  refine m_iast rfl qμ4 dX8_splitTape_123 ?_
  refine g_aload_n dX8_splitTape_124 rfl ?_
  refine m_getR fl_X8_18 rfl rfl rfl dX8_splitTape_125 ?_
  refine g_aload_n dX8_splitTape_128 rfl ?_
  refine m_getI fl_X8_36 rfl rfl dX8_splitTape_129 ?_
  refine g_aload_n dX8_splitTape_132 rfl ?_
  refine m_getI fl_X8_24 rfl rfl dX8_splitTape_133 ?_
  obtain ⟨μ5, qμ5, h⟩ := g_bind h
  refine m_iast rfl qμ5 dX8_splitTape_136 ?_
  obtain rfl := Option.some.inj h
  exact g_vret rfl (Nat.le_refl _) rfl dX8_splitTape_137 ⟨rfl, rfl⟩
set_option maxRecDepth 100000 in
set_option maxHeartbeats 4000000 in
theorem k_X8_pass {D : va_G} {cA : Nat → ClassId} {b b2 k : Nat} {dyn : Nat → Nat} {t s : Nat} {a1 : Int32} {a2 : Int32} {μ : g_M} {z : Int32 × g_M} (h : f_X8_pass a1 a2 μ = some z) : g_K (g_XX D cA b b2 dyn) yX8_pass Y_X8_pass 1 0 0 k [.ref 45, .int a1, .int a2] (μ, (g_rfX t s)) (fun r1 σ1 => r1 = some (.int z.1) ∧ σ1 = (z.2, (g_rfX t s))) := by
  unfold f_X8_pass at h
  refine g_met 1 (by decide) rfl rfl (Nat.le_of_ble_eq_true rfl) ?_
  refine g_aload_n dX8_pass_0 rfl ?_
  refine m_getI fl_X8_31 rfl rfl dX8_pass_1 ?_
  refine g_aload_n dX8_pass_4 rfl ?_
  refine m_getI fl_X8_36 rfl rfl dX8_pass_5 ?_
  refine g_icmp_ge 41 (by decide) dX8_pass_8 (fun c1 => ?_) (fun c1 => ?_)
  · have h := g_ifp c1 h
    refine g_ic0 dX8_pass_41 ?_
    refine g_istore_3 rfl (Nat.le_of_ble_eq_true rfl) dX8_pass_42 ?_
    refine g_iload_n dX8_pass_43 rfl ?_
    refine g_if_eq 57 (by decide) dX8_pass_44 (fun c9 => ?_) (fun cd => absurd (by decide) cd)
    refine g_iload_n dX8_pass_57 rfl ?_
    obtain rfl := Option.some.inj h
    exact g_zret rfl (Nat.le_refl _) rfl rfl dX8_pass_58 ⟨rfl, rfl⟩
  · have h := g_ifn c1 h
    refine g_aload_n dX8_pass_11 rfl ?_
    refine m_getR fl_X8_15 rfl rfl rfl dX8_pass_12 ?_
    refine g_aload_n dX8_pass_15 rfl ?_
    refine m_getI fl_X8_31 rfl rfl dX8_pass_16 ?_
    obtain ⟨x2, qx2, h⟩ := g_bind h
    refine m_iald rfl qx2 dX8_pass_19 ?_
    refine g_iload_n dX8_pass_20 rfl ?_
    refine g_icmp_lt 41 (by decide) dX8_pass_21 (fun c3 => ?_) (fun c3 => ?_)
    · have h := g_ifp c3 h
      refine g_ic0 dX8_pass_41 ?_
      refine g_istore_3 rfl (Nat.le_of_ble_eq_true rfl) dX8_pass_42 ?_
      refine g_iload_n dX8_pass_43 rfl ?_
      refine g_if_eq 57 (by decide) dX8_pass_44 (fun c9 => ?_) (fun cd => absurd (by decide) cd)
      refine g_iload_n dX8_pass_57 rfl ?_
      obtain rfl := Option.some.inj h
      exact g_zret rfl (Nat.le_refl _) rfl rfl dX8_pass_58 ⟨rfl, rfl⟩
    · have h := g_ifn c3 h
      refine g_aload_n dX8_pass_24 rfl ?_
      refine m_getR fl_X8_15 rfl rfl rfl dX8_pass_25 ?_
      refine g_aload_n dX8_pass_28 rfl ?_
      refine m_getI fl_X8_31 rfl rfl dX8_pass_29 ?_
      obtain ⟨x4, qx4, h⟩ := g_bind h
      refine m_iald rfl qx4 dX8_pass_32 ?_
      refine g_iload_n dX8_pass_33 rfl ?_
      refine g_icmp_gt 41 (by decide) dX8_pass_34 (fun c5 => ?_) (fun c5 => ?_)
      · have h := g_ifp c5 h
        refine g_ic0 dX8_pass_41 ?_
        refine g_istore_3 rfl (Nat.le_of_ble_eq_true rfl) dX8_pass_42 ?_
        refine g_iload_n dX8_pass_43 rfl ?_
        refine g_if_eq 57 (by decide) dX8_pass_44 (fun c9 => ?_) (fun cd => absurd (by decide) cd)
        refine g_iload_n dX8_pass_57 rfl ?_
        obtain rfl := Option.some.inj h
        exact g_zret rfl (Nat.le_refl _) rfl rfl dX8_pass_58 ⟨rfl, rfl⟩
      · have h := g_ifn c5 h
        refine g_ic1 dX8_pass_37 ?_
        refine g_goto 42 (by decide) dX8_pass_38 ?_
        refine g_istore_3 rfl (Nat.le_of_ble_eq_true rfl) dX8_pass_42 ?_
        refine g_iload_n dX8_pass_43 rfl ?_
        refine g_if_eq 57 (by decide) dX8_pass_44 (fun cd => absurd cd (by decide)) (fun c9 => ?_)
        refine g_aload_n dX8_pass_47 rfl ?_
        refine g_dup dX8_pass_48 rfl ?_
        refine m_getI fl_X8_31 rfl rfl dX8_pass_49 ?_
        refine g_ic1 dX8_pass_52 ?_
        refine g_iadd dX8_pass_53 ?_
        obtain ⟨μ6, eμ6, h⟩ := g_let h
        refine m_putI fl_X8_31 fw_8_5 rfl rfl rfl rfl dX8_pass_54 eμ6 ?_
        refine g_iload_n dX8_pass_57 rfl ?_
        obtain rfl := Option.some.inj h
        exact g_zret rfl (Nat.le_refl _) rfl rfl dX8_pass_58 ⟨rfl, rfl⟩
set_option maxRecDepth 100000 in
set_option maxHeartbeats 4000000 in
theorem k_X8_readBracket_R {D : va_G} {cA : Nat → ClassId} {b b2 k : Nat} {dyn : Nat → Nat} {t s : Nat} {r : Nat} {L : Nat} (F : Int32 → g_M → Option (Int32 × g_M)) {d0 : Nat} (hF : ∀ (a1 : Int32) (μ : g_M) (z : Int32 × g_M), F a1 μ = some z → g_K (g_XX D cA b b2 dyn) yX8_readCondition Y_X8_readCondition d0 0 0 k [.ref 45, .ref r, .int a1] (μ, (g_rfX t s)) (fun r1 σ1 => r1 = some (.int z.1) ∧ σ1 = (z.2, (g_rfX t s)))) {N : Nat} (hR : g_RO (g_XX D cA b b2 dyn) k (g_rfX t s) r L) {a1 : Int32} {μ : g_M} {z : Int32 × g_M} (h : f_X8_readBracket_R F N r L a1 μ = some z) : g_K (g_XX D cA b b2 dyn) yX8_readBracket Y_X8_readBracket (d0 + 2) 0 0 k [.ref 45, .ref r, .int a1] (μ, (g_rfX t s)) (fun r1 σ1 => r1 = some (.int z.1) ∧ σ1 = (z.2, (g_rfX t s))) := by
  unfold f_X8_readBracket_R at h
  refine g_met 0 (by decide) rfl rfl (Nat.le_of_ble_eq_true rfl) ?_
  refine g_iload_n dX8_readBracket_0 rfl ?_
  refine g_ic3 dX8_readBracket_1 ?_
  refine g_icmp_ge 42 (by decide) dX8_readBracket_2 (fun c1 => ?_) (fun c1 => ?_)
  · have h := g_ifp c1 h
    refine g_ic0 dX8_readBracket_42 ?_
    obtain rfl := Option.some.inj h
    exact g_zret rfl (Nat.le_refl _) rfl rfl dX8_readBracket_43 ⟨rfl, rfl⟩
  · have h := g_ifn c1 h
    refine g_aload_n dX8_readBracket_5 rfl ?_
    refine g_bipush (v := 23) dX8_readBracket_6 (by decide) ?_
    refine g_bipush (v := 23) dX8_readBracket_8 (by decide) ?_
    obtain ⟨⟨x2, μ4⟩, q3, h⟩ := g_bind h
    refine m_cV mt_X8_pass ml_X8_87 mv_X8_pass dX8_readBracket_10 (k_X8_pass q3) rfl rfl rfl rfl (by omega) ⟨Nat.le_refl _, Nat.le_refl _⟩ (Nat.le_of_ble_eq_true rfl) ?_
    refine g_if_eq 42 (by decide) dX8_readBracket_13 (fun c5 => ?_) (fun c5 => ?_)
    · have h := g_ifp c5 h
      refine g_ic0 dX8_readBracket_42 ?_
      obtain rfl := Option.some.inj h
      exact g_zret rfl (Nat.le_refl _) rfl rfl dX8_readBracket_43 ⟨rfl, rfl⟩
    · have h := g_ifn c5 h
      refine g_aload_n dX8_readBracket_16 rfl ?_
      refine g_aload_n dX8_readBracket_17 rfl ?_
      refine g_iload_n dX8_readBracket_18 rfl ?_
      refine g_ic1 dX8_readBracket_19 ?_
      refine g_iadd dX8_readBracket_20 ?_
      obtain ⟨⟨x6, μ8⟩, q7, h⟩ := g_bind h
      refine m_cV mt_X8_readCondition ml_X8_91 mv_X8_readCondition dX8_readBracket_21 (hF _ _ _ q7) rfl rfl rfl rfl (by omega) ⟨Nat.le_refl _, Nat.le_refl _⟩ (Nat.le_of_ble_eq_true rfl) ?_
      refine g_if_eq 42 (by decide) dX8_readBracket_24 (fun c9 => ?_) (fun c9 => ?_)
      · have h := g_ifp c9 h
        refine g_ic0 dX8_readBracket_42 ?_
        obtain rfl := Option.some.inj h
        exact g_zret rfl (Nat.le_refl _) rfl rfl dX8_readBracket_43 ⟨rfl, rfl⟩
      · have h := g_ifn c9 h
        refine g_aload_n dX8_readBracket_27 rfl ?_
        refine g_bipush (v := 24) dX8_readBracket_28 (by decide) ?_
        refine g_bipush (v := 24) dX8_readBracket_30 (by decide) ?_
        obtain ⟨⟨x10, μ12⟩, q11, h⟩ := g_bind h
        refine m_cV mt_X8_pass ml_X8_87 mv_X8_pass dX8_readBracket_32 (k_X8_pass q11) rfl rfl rfl rfl (by omega) ⟨Nat.le_refl _, Nat.le_refl _⟩ (Nat.le_of_ble_eq_true rfl) ?_
        refine g_if_eq 42 (by decide) dX8_readBracket_35 (fun c13 => ?_) (fun c13 => ?_)
        · have h := g_ifp c13 h
          refine g_ic0 dX8_readBracket_42 ?_
          obtain rfl := Option.some.inj h
          exact g_zret rfl (Nat.le_refl _) rfl rfl dX8_readBracket_43 ⟨rfl, rfl⟩
        · have h := g_ifn c13 h
          refine g_ic1 dX8_readBracket_38 ?_
          refine g_goto 43 (by decide) dX8_readBracket_39 ?_
          obtain rfl := Option.some.inj h
          exact g_zret rfl (Nat.le_refl _) rfl rfl dX8_readBracket_43 ⟨rfl, rfl⟩
set_option maxRecDepth 100000 in
set_option maxHeartbeats 4000000 in
theorem k_X7_addStep {D : va_G} {cA : Nat → ClassId} {b b2 k : Nat} {dyn : Nat → Nat} {t s : Nat} {r : Nat} {L : Nat} (hR : g_RO (g_XX D cA b b2 dyn) k (g_rfX t s) r L) {a1 : Int32} {a2 : Int32} {a3 : Int32} {μ : g_M} {z : g_M} (h : f_X7_addStep r L a1 a2 a3 μ = some z) : g_K (g_XX D cA b b2 dyn) yX7_addStep Y_X7_addStep 1 0 0 k [.ref r, .int a1, .int a2, .int a3] (μ, (g_rfX t s)) (fun r1 σ1 => r1 = none ∧ σ1 = (z, (g_rfX t s))) := by
  unfold f_X7_addStep at h
  refine g_met 1 (by decide) rfl rfl (Nat.le_of_ble_eq_true rfl) ?_
  refine g_aload_n dX7_addStep_0 rfl ?_
  refine m_getI fl_X7_34 rfl hR.1 dX7_addStep_1 ?_
  refine g_ic3 dX7_addStep_4 ?_
  refine g_imul dX7_addStep_5 ?_
  obtain ⟨x1, ex1, h⟩ := g_let h
  refine g_top ex1 ?_
  refine g_istore_4 rfl (Nat.le_of_ble_eq_true rfl) dX7_addStep_6 ?_
  refine g_iload dX7_addStep_8 rfl ?_
  refine g_ic3 dX7_addStep_10 ?_
  refine g_iadd dX7_addStep_11 ?_
  refine g_aload_n dX7_addStep_12 rfl ?_
  refine m_getR fl_X7_27 rfl hR.1 hR.2.2.2.2.2.2.2.2 dX7_addStep_13 ?_
  refine g_alen hR.2.2.2.2.1 dX7_addStep_16 ?_
  refine g_icmp_gt 58 (by decide) dX7_addStep_17 (fun c2 => ?_) (fun c2 => ?_)
  · have h := g_ifp c2 h
    obtain rfl := Option.some.inj h
    exact g_vret rfl (Nat.le_refl _) rfl dX7_addStep_58 ⟨rfl, rfl⟩
  · have h := g_ifn c2 h
    refine g_aload_n dX7_addStep_20 rfl ?_
    refine m_getR fl_X7_27 rfl hR.1 hR.2.2.2.2.2.2.2.2 dX7_addStep_21 ?_
    refine g_iload dX7_addStep_24 rfl ?_
    refine g_iload_n dX7_addStep_26 rfl ?_
    obtain ⟨μ3, qμ3, h⟩ := g_bind h
    refine m_iast hR.2.2.2.2.1 qμ3 dX7_addStep_27 ?_
    refine g_aload_n dX7_addStep_28 rfl ?_
    refine m_getR fl_X7_27 rfl hR.1 hR.2.2.2.2.2.2.2.2 dX7_addStep_29 ?_
    refine g_iload dX7_addStep_32 rfl ?_
    refine g_ic1 dX7_addStep_34 ?_
    refine g_iadd dX7_addStep_35 ?_
    refine g_iload_n dX7_addStep_36 rfl ?_
    obtain ⟨μ4, qμ4, h⟩ := g_bind h
    refine m_iast hR.2.2.2.2.1 qμ4 dX7_addStep_37 ?_
    refine g_aload_n dX7_addStep_38 rfl ?_
    refine m_getR fl_X7_27 rfl hR.1 hR.2.2.2.2.2.2.2.2 dX7_addStep_39 ?_
    refine g_iload dX7_addStep_42 rfl ?_
    refine g_ic2 dX7_addStep_44 ?_
    refine g_iadd dX7_addStep_45 ?_
    refine g_iload_n dX7_addStep_46 rfl ?_
    obtain ⟨μ5, qμ5, h⟩ := g_bind h
    refine m_iast hR.2.2.2.2.1 qμ5 dX7_addStep_47 ?_
    refine g_aload_n dX7_addStep_48 rfl ?_
    refine g_dup dX7_addStep_49 rfl ?_
    refine m_getI fl_X7_34 rfl hR.1 dX7_addStep_50 ?_
    refine g_ic1 dX7_addStep_53 ?_
    refine g_iadd dX7_addStep_54 ?_
    obtain ⟨μ6, eμ6, h⟩ := g_let h
    refine m_putI fl_X7_34 fw_7_5 rfl rfl rfl hR.1 dX7_addStep_55 eμ6 ?_
    obtain rfl := Option.some.inj h
    exact g_vret rfl (Nat.le_refl _) rfl dX7_addStep_58 ⟨rfl, rfl⟩
set_option maxRecDepth 100000 in
set_option maxHeartbeats 4000000 in
theorem k_X8_valueHere {D : va_G} {cA : Nat → ClassId} {b b2 k : Nat} {dyn : Nat → Nat} {t s : Nat} {μ : g_M} {z : Int32} (h : f_X8_valueHere μ = some z) : g_K (g_XX D cA b b2 dyn) yX8_valueHere Y_X8_valueHere 1 0 0 k [.ref 45] (μ, (g_rfX t s)) (fun r1 σ1 => r1 = some (.int z) ∧ σ1 = (μ, (g_rfX t s))) := by
  unfold f_X8_valueHere at h
  refine g_met 1 (by decide) rfl rfl (Nat.le_of_ble_eq_true rfl) ?_
  refine g_aload_n dX8_valueHere_0 rfl ?_
  refine m_getR fl_X8_15 rfl rfl rfl dX8_valueHere_1 ?_
  refine g_aload_n dX8_valueHere_4 rfl ?_
  refine m_getI fl_X8_31 rfl rfl dX8_valueHere_5 ?_
  obtain ⟨x1, qx1, h⟩ := g_bind h
  refine m_iald rfl qx1 dX8_valueHere_8 ?_
  refine g_bipush (v := 13) dX8_valueHere_9 (by decide) ?_
  refine g_icmp_lt 32 (by decide) dX8_valueHere_11 (fun c2 => ?_) (fun c2 => ?_)
  · have h := g_ifp c2 h
    refine g_ic0 dX8_valueHere_32 ?_
    refine g_istore_1 rfl (Nat.le_of_ble_eq_true rfl) dX8_valueHere_33 ?_
    refine g_iload_n dX8_valueHere_34 rfl ?_
    refine g_if_eq 57 (by decide) dX8_valueHere_35 (fun c9 => ?_) (fun cd => absurd (by decide) cd)
    refine g_aload_n dX8_valueHere_57 rfl ?_
    refine m_getR fl_X8_21 rfl rfl rfl dX8_valueHere_58 ?_
    refine g_aload_n dX8_valueHere_61 rfl ?_
    refine m_getI fl_X8_31 rfl rfl dX8_valueHere_62 ?_
    obtain ⟨x3, qx3, h⟩ := g_bind h
    refine m_iald rfl qx3 dX8_valueHere_65 ?_
    obtain rfl := Option.some.inj h
    exact g_iret rfl (Nat.le_refl _) rfl dX8_valueHere_66 ⟨rfl, rfl⟩
  · have h := g_ifn c2 h
    refine g_aload_n dX8_valueHere_14 rfl ?_
    refine m_getR fl_X8_15 rfl rfl rfl dX8_valueHere_15 ?_
    refine g_aload_n dX8_valueHere_18 rfl ?_
    refine m_getI fl_X8_31 rfl rfl dX8_valueHere_19 ?_
    obtain ⟨x4, qx4, h⟩ := g_bind h
    refine m_iald rfl qx4 dX8_valueHere_22 ?_
    refine g_bipush (v := 17) dX8_valueHere_23 (by decide) ?_
    refine g_icmp_gt 32 (by decide) dX8_valueHere_25 (fun c5 => ?_) (fun c5 => ?_)
    · have h := g_ifp c5 h
      refine g_ic0 dX8_valueHere_32 ?_
      refine g_istore_1 rfl (Nat.le_of_ble_eq_true rfl) dX8_valueHere_33 ?_
      refine g_iload_n dX8_valueHere_34 rfl ?_
      refine g_if_eq 57 (by decide) dX8_valueHere_35 (fun c9 => ?_) (fun cd => absurd (by decide) cd)
      refine g_aload_n dX8_valueHere_57 rfl ?_
      refine m_getR fl_X8_21 rfl rfl rfl dX8_valueHere_58 ?_
      refine g_aload_n dX8_valueHere_61 rfl ?_
      refine m_getI fl_X8_31 rfl rfl dX8_valueHere_62 ?_
      obtain ⟨x6, qx6, h⟩ := g_bind h
      refine m_iald rfl qx6 dX8_valueHere_65 ?_
      obtain rfl := Option.some.inj h
      exact g_iret rfl (Nat.le_refl _) rfl dX8_valueHere_66 ⟨rfl, rfl⟩
    · have h := g_ifn c5 h
      refine g_ic1 dX8_valueHere_28 ?_
      refine g_goto 33 (by decide) dX8_valueHere_29 ?_
      refine g_istore_1 rfl (Nat.le_of_ble_eq_true rfl) dX8_valueHere_33 ?_
      refine g_iload_n dX8_valueHere_34 rfl ?_
      refine g_if_eq 57 (by decide) dX8_valueHere_35 (fun cd => absurd cd (by decide)) (fun c9 => ?_)
      refine g_sipush (v := 10000) dX8_valueHere_38 (by decide) ?_
      refine g_aload_n dX8_valueHere_41 rfl ?_
      refine m_getR fl_X8_15 rfl rfl rfl dX8_valueHere_42 ?_
      refine g_aload_n dX8_valueHere_45 rfl ?_
      refine m_getI fl_X8_31 rfl rfl dX8_valueHere_46 ?_
      obtain ⟨x7, qx7, h⟩ := g_bind h
      refine m_iald rfl qx7 dX8_valueHere_49 ?_
      refine g_iadd dX8_valueHere_50 ?_
      refine g_bipush (v := 13) dX8_valueHere_51 (by decide) ?_
      refine g_isub dX8_valueHere_53 ?_
      refine g_goto 66 (by decide) dX8_valueHere_54 ?_
      obtain rfl := Option.some.inj h
      exact g_iret rfl (Nat.le_refl _) rfl dX8_valueHere_66 ⟨rfl, rfl⟩
set_option maxRecDepth 100000 in
set_option maxHeartbeats 4000000 in
theorem k_X8_readSign_R {D : va_G} {cA : Nat → ClassId} {b b2 k : Nat} {dyn : Nat → Nat} {t s : Nat} {r : Nat} {L : Nat} (hR : g_RO (g_XX D cA b b2 dyn) k (g_rfX t s) r L) {μ : g_M} {z : Int32 × g_M} (h : f_X8_readSign_R r L μ = some z) : g_K (g_XX D cA b b2 dyn) yX8_readSign Y_X8_readSign 2 0 0 k [.ref 45, .ref r] (μ, (g_rfX t s)) (fun r1 σ1 => r1 = some (.int z.1) ∧ σ1 = (z.2, (g_rfX t s))) := by
  unfold f_X8_readSign_R at h
  refine g_met 3 (by decide) rfl rfl (Nat.le_of_ble_eq_true rfl) ?_
  refine g_aload_n dX8_readSign_0 rfl ?_
  obtain ⟨x1, q2, h⟩ := g_bind h
  refine m_cV mt_X8_valueHere ml_X8_115 mv_X8_valueHere dX8_readSign_1 (k_X8_valueHere q2) rfl rfl rfl rfl (by decide) ⟨Nat.le_refl _, Nat.le_refl _⟩ (Nat.le_of_ble_eq_true rfl) ?_
  refine g_istore_2 rfl (Nat.le_of_ble_eq_true rfl) dX8_readSign_4 ?_
  refine g_aload_n dX8_readSign_5 rfl ?_
  refine g_bipush (v := 13) dX8_readSign_6 (by decide) ?_
  refine g_bipush (v := 18) dX8_readSign_8 (by decide) ?_
  obtain ⟨⟨x3, μ5⟩, q4, h⟩ := g_bind h
  refine m_cV mt_X8_pass ml_X8_87 mv_X8_pass dX8_readSign_10 (k_X8_pass q4) rfl rfl rfl rfl (by decide) ⟨Nat.le_refl _, Nat.le_refl _⟩ (Nat.le_of_ble_eq_true rfl) ?_
  refine g_if_ne 18 (by decide) dX8_readSign_13 (fun c6 => ?_) (fun c6 => ?_)
  · have h := g_ifn c6 h
    refine g_aload_n dX8_readSign_18 rfl ?_
    refine m_getR fl_X8_15 rfl rfl rfl dX8_readSign_19 ?_
    refine g_aload_n dX8_readSign_22 rfl ?_
    refine m_getI fl_X8_31 rfl rfl dX8_readSign_23 ?_
    obtain ⟨x7, qx7, h⟩ := g_bind h
    refine m_iald rfl qx7 dX8_readSign_26 ?_
    refine g_bipush (v := 20) dX8_readSign_27 (by decide) ?_
    refine g_isub dX8_readSign_29 ?_
    obtain ⟨x8, ex8, h⟩ := g_let h
    refine g_top ex8 ?_
    refine g_istore_3 rfl (Nat.le_of_ble_eq_true rfl) dX8_readSign_30 ?_
    refine g_aload_n dX8_readSign_31 rfl ?_
    refine g_bipush (v := 20) dX8_readSign_32 (by decide) ?_
    refine g_bipush (v := 22) dX8_readSign_34 (by decide) ?_
    obtain ⟨⟨x9, μ11⟩, q10, h⟩ := g_bind h
    refine m_cV mt_X8_pass ml_X8_87 mv_X8_pass dX8_readSign_36 (k_X8_pass q10) rfl rfl rfl rfl (by decide) ⟨Nat.le_refl _, Nat.le_refl _⟩ (Nat.le_of_ble_eq_true rfl) ?_
    refine g_if_ne 44 (by decide) dX8_readSign_39 (fun c12 => ?_) (fun c12 => ?_)
    · have h := g_ifn c12 h
      refine g_aload_n dX8_readSign_44 rfl ?_
      obtain ⟨x13, q14, h⟩ := g_bind h
      refine m_cV mt_X8_valueHere ml_X8_115 mv_X8_valueHere dX8_readSign_45 (k_X8_valueHere q14) rfl rfl rfl rfl (by decide) ⟨Nat.le_refl _, Nat.le_refl _⟩ (Nat.le_of_ble_eq_true rfl) ?_
      refine g_istore_4 rfl (Nat.le_of_ble_eq_true rfl) dX8_readSign_48 ?_
      refine g_aload_n dX8_readSign_50 rfl ?_
      refine g_bipush (v := 13) dX8_readSign_51 (by decide) ?_
      refine g_bipush (v := 18) dX8_readSign_53 (by decide) ?_
      obtain ⟨⟨x15, μ17⟩, q16, h⟩ := g_bind h
      refine m_cV mt_X8_pass ml_X8_87 mv_X8_pass dX8_readSign_55 (k_X8_pass q16) rfl rfl rfl rfl (by decide) ⟨Nat.le_refl _, Nat.le_refl _⟩ (Nat.le_of_ble_eq_true rfl) ?_
      refine g_if_ne 63 (by decide) dX8_readSign_58 (fun c18 => ?_) (fun c18 => ?_)
      · have h := g_ifn c18 h
        refine g_aload_n dX8_readSign_63 rfl ?_
        refine g_iload_n dX8_readSign_64 rfl ?_
        refine g_iload_n dX8_readSign_65 rfl ?_
        refine g_iload dX8_readSign_66 rfl ?_
        obtain ⟨μ21, q20, h⟩ := g_bind h
        refine m_cVv mt_X7_addStep ml_X8_102 mv_X7_addStep dX8_readSign_68 (k_X7_addStep hR q20) rfl hR.1 rfl rfl (by decide) ⟨Nat.le_refl _, Nat.le_refl _⟩ (Nat.le_of_ble_eq_true rfl) ?_
        refine g_ic1 dX8_readSign_71 ?_
        obtain rfl := Option.some.inj h
        exact g_zret rfl (Nat.le_refl _) rfl rfl dX8_readSign_72 ⟨rfl, rfl⟩
      · have h := g_ifp c18 h
        refine g_ic0 dX8_readSign_61 ?_
        obtain rfl := Option.some.inj h
        exact g_zret rfl (Nat.le_refl _) rfl rfl dX8_readSign_62 ⟨rfl, rfl⟩
    · have h := g_ifp c12 h
      refine g_ic0 dX8_readSign_42 ?_
      obtain rfl := Option.some.inj h
      exact g_zret rfl (Nat.le_refl _) rfl rfl dX8_readSign_43 ⟨rfl, rfl⟩
  · have h := g_ifp c6 h
    refine g_ic0 dX8_readSign_16 ?_
    obtain rfl := Option.some.inj h
    exact g_zret rfl (Nat.le_refl _) rfl rfl dX8_readSign_17 ⟨rfl, rfl⟩
set_option maxRecDepth 100000 in
set_option maxHeartbeats 4000000 in
theorem k_X8_readOne_R_L5 {D : va_G} {cA : Nat → ClassId} {b b2 k : Nat} {dyn : Nat → Nat} {t s : Nat} {r : Nat} {L : Nat} {Q : Option Value → g_S → Prop} {F : Int32 → g_M → Option (Int32 × g_M)} {d0 : Nat} (hF : ∀ (a1 : Int32) (μ : g_M) (z : Int32 × g_M), F a1 μ = some z → g_K (g_XX D cA b b2 dyn) yX8_readCondition Y_X8_readCondition d0 0 0 k [.ref 45, .ref r, .int a1] (μ, (g_rfX t s)) (fun r1 σ1 => r1 = some (.int z.1) ∧ σ1 = (z.2, (g_rfX t s)))) {N : Nat} (hR : g_RO (g_XX D cA b b2 dyn) k (g_rfX t s) r L) : ∀ (n : Nat) (x_2 : Int32) (x_3 : Int32) (x_4 : Int32) (μ : g_M) (z_3 : Int32) (z_μ : g_M), f_X8_readOne_R_L5 F N r L n x_2 x_3 x_4 μ = some (z_3, z_μ) → g_V (g_XX D cA b b2 dyn) Y_X8_readOne (d0 + 3) 0 0 Q k 0 0 40 [some (.ref 45), some (.ref r), some (.int x_2), some (.int z_3), none] [] (z_μ, (g_rfX t s)) → g_V (g_XX D cA b b2 dyn) Y_X8_readOne (d0 + 3) 0 0 Q k 0 0 5 [some (.ref 45), some (.ref r), some (.int x_2), some (.int x_3), some (.int x_4)] [] (μ, (g_rfX t s)) := by
  intro n
  induction n with
  | zero =>
    intro x_2 x_3 x_4 μ z_3 z_μ h
    rw [f_X8_readOne_R_L5] at h
    cases h
  | succ n ih =>
    intro x_2 x_3 x_4 μ z_3 z_μ h hc
    rw [f_X8_readOne_R_L5] at h
    refine g_iload dX8_readOne_5 rfl ?_
    refine g_sipush (v := 200) dX8_readOne_7 (by decide) ?_
    refine g_icmp_ge 40 (by decide) dX8_readOne_10 (fun c1 => ?_) (fun c1 => ?_)
    · have h := g_ifp c1 h
      obtain ⟨rfl, rfl⟩ := g_inj2 h
      exact g_less _ (g_subS (g_subS (g_subS (g_subS (g_subN g_sub0))))) hc
    · have h := g_ifn c1 h
      refine g_aload_n dX8_readOne_13 rfl ?_
      refine g_bipush (v := 12) dX8_readOne_14 (by decide) ?_
      refine g_bipush (v := 12) dX8_readOne_16 (by decide) ?_
      obtain ⟨⟨x2, μ4⟩, q3, h⟩ := g_bind h
      refine m_cV mt_X8_pass ml_X8_87 mv_X8_pass dX8_readOne_18 (k_X8_pass q3) rfl rfl rfl rfl (by omega) ⟨Nat.le_refl _, Nat.le_refl _⟩ (Nat.le_of_ble_eq_true rfl) ?_
      refine g_if_eq 40 (by decide) dX8_readOne_21 (fun c5 => ?_) (fun c5 => ?_)
      · have h := g_ifp c5 h
        obtain ⟨rfl, rfl⟩ := g_inj2 h
        exact g_less _ (g_subS (g_subS (g_subS (g_subS (g_subN g_sub0))))) hc
      · have h := g_ifn c5 h
        refine g_iload_n dX8_readOne_24 rfl ?_
        refine g_if_ne 32 (by decide) dX8_readOne_25 (fun c6 => ?_) (fun c6 => ?_)
        · have h := g_ifn c6 h
          refine g_ic0 dX8_readOne_32 ?_
          refine g_istore_3 rfl (Nat.le_of_ble_eq_true rfl) dX8_readOne_33 ?_
          refine g_iinc_4 (v := 1) rfl (by decide) (Nat.le_of_ble_eq_true rfl) dX8_readOne_34 ?_
          refine g_goto 5 (by decide) dX8_readOne_37 ?_
          exact g_less _ (g_subS (g_subS (g_subS (g_subS (g_subS g_sub0))))) (ih _ _ _ _ _ _ h hc)
        · have h := g_ifp c6 h
          refine g_ic1 dX8_readOne_28 ?_
          refine g_goto 33 (by decide) dX8_readOne_29 ?_
          refine g_istore_3 rfl (Nat.le_of_ble_eq_true rfl) dX8_readOne_33 ?_
          refine g_iinc_4 (v := 1) rfl (by decide) (Nat.le_of_ble_eq_true rfl) dX8_readOne_34 ?_
          refine g_goto 5 (by decide) dX8_readOne_37 ?_
          exact g_less _ (g_subS (g_subS (g_subS (g_subS (g_subS g_sub0))))) (ih _ _ _ _ _ _ h hc)
set_option maxRecDepth 100000 in
set_option maxHeartbeats 4000000 in
theorem k_X8_readOne_R {D : va_G} {cA : Nat → ClassId} {b b2 k : Nat} {dyn : Nat → Nat} {t s : Nat} {r : Nat} {L : Nat} (F : Int32 → g_M → Option (Int32 × g_M)) {d0 : Nat} (hF : ∀ (a1 : Int32) (μ : g_M) (z : Int32 × g_M), F a1 μ = some z → g_K (g_XX D cA b b2 dyn) yX8_readCondition Y_X8_readCondition d0 0 0 k [.ref 45, .ref r, .int a1] (μ, (g_rfX t s)) (fun r1 σ1 => r1 = some (.int z.1) ∧ σ1 = (z.2, (g_rfX t s)))) {N : Nat} (hR : g_RO (g_XX D cA b b2 dyn) k (g_rfX t s) r L) {a1 : Int32} {μ : g_M} {z : Int32 × g_M} (h : f_X8_readOne_R F N r L a1 μ = some z) : g_K (g_XX D cA b b2 dyn) yX8_readOne Y_X8_readOne (d0 + 3) 0 0 k [.ref 45, .ref r, .int a1] (μ, (g_rfX t s)) (fun r1 σ1 => r1 = some (.int z.1) ∧ σ1 = (z.2, (g_rfX t s))) := by
  unfold f_X8_readOne_R at h
  refine g_met 2 (by decide) rfl rfl (Nat.le_of_ble_eq_true rfl) ?_
  refine g_ic0 dX8_readOne_0 ?_
  refine g_istore_3 rfl (Nat.le_of_ble_eq_true rfl) dX8_readOne_1 ?_
  refine g_ic0 dX8_readOne_2 ?_
  refine g_istore_4 rfl (Nat.le_of_ble_eq_true rfl) dX8_readOne_3 ?_
  obtain ⟨⟨x1, μ2⟩, q3, h⟩ := g_bind h
  refine g_less _ (g_subS (g_subS (g_subS (g_subS (g_subS g_sub0))))) (k_X8_readOne_R_L5 hF hR _ _ _ _ _ _ _ q3 ?_)
  refine g_aload_n dX8_readOne_40 rfl ?_
  refine m_getR fl_X8_15 rfl rfl rfl dX8_readOne_41 ?_
  refine g_aload_n dX8_readOne_44 rfl ?_
  refine m_getI fl_X8_31 rfl rfl dX8_readOne_45 ?_
  obtain ⟨x4, qx4, h⟩ := g_bind h
  refine m_iald rfl qx4 dX8_readOne_48 ?_
  refine g_bipush (v := 23) dX8_readOne_49 (by decide) ?_
  refine g_icmp_ne 63 (by decide) dX8_readOne_51 (fun c5 => ?_) (fun c5 => ?_)
  · have h := g_ifn c5 h
    refine g_aload_n dX8_readOne_63 rfl ?_
    refine g_aload_n dX8_readOne_64 rfl ?_
    obtain ⟨⟨x6, μ8⟩, q7, h⟩ := g_bind h
    refine m_cV mt_X8_readSign ml_X8_112 mv_X8_readSign dX8_readOne_65 (k_X8_readSign_R hR q7) rfl rfl rfl rfl (by omega) ⟨Nat.le_refl _, Nat.le_refl _⟩ (Nat.le_of_ble_eq_true rfl) ?_
    refine g_istore_4 rfl (Nat.le_of_ble_eq_true rfl) dX8_readOne_68 ?_
    refine g_iload dX8_readOne_70 rfl ?_
    refine g_if_eq 86 (by decide) dX8_readOne_72 (fun c9 => ?_) (fun c9 => ?_)
    · have h := g_ifp c9 h
      refine g_iload dX8_readOne_86 rfl ?_
      obtain ⟨x10, qx10, h⟩ := g_bind h
      obtain ⟨rfl, nx10⟩ := g_zc_n qx10
      obtain rfl := Option.some.inj h
      exact g_zret rfl (Nat.le_refl _) rfl nx10 dX8_readOne_88 ⟨rfl, rfl⟩
    · have h := g_ifn c9 h
      refine g_iload_n dX8_readOne_75 rfl ?_
      refine g_if_eq 86 (by decide) dX8_readOne_76 (fun c11 => ?_) (fun c11 => ?_)
      · have h := g_ifp c11 h
        refine g_iload dX8_readOne_86 rfl ?_
        obtain ⟨x12, qx12, h⟩ := g_bind h
        obtain ⟨rfl, nx12⟩ := g_zc_n qx12
        obtain rfl := Option.some.inj h
        exact g_zret rfl (Nat.le_refl _) rfl nx12 dX8_readOne_88 ⟨rfl, rfl⟩
      · have h := g_ifn c11 h
        refine g_aload_n dX8_readOne_79 rfl ?_
        refine g_ic3 dX8_readOne_80 ?_
        refine g_ic0 dX8_readOne_81 ?_
        refine g_ic0 dX8_readOne_82 ?_
        obtain ⟨μ15, q14, h⟩ := g_bind h
        refine m_cVv mt_X7_addStep ml_X8_102 mv_X7_addStep dX8_readOne_83 (k_X7_addStep hR q14) rfl hR.1 rfl rfl (by omega) ⟨Nat.le_refl _, Nat.le_refl _⟩ (Nat.le_of_ble_eq_true rfl) ?_
        refine g_iload dX8_readOne_86 rfl ?_
        obtain ⟨x16, qx16, h⟩ := g_bind h
        obtain ⟨rfl, nx16⟩ := g_zc_n qx16
        obtain rfl := Option.some.inj h
        exact g_zret rfl (Nat.le_refl _) rfl nx16 dX8_readOne_88 ⟨rfl, rfl⟩
  · have h := g_ifp c5 h
    refine g_aload_n dX8_readOne_54 rfl ?_
    refine g_aload_n dX8_readOne_55 rfl ?_
    refine g_iload_n dX8_readOne_56 rfl ?_
    obtain ⟨⟨x17, μ19⟩, q18, h⟩ := g_bind h
    refine m_cV mt_X8_readBracket ml_X8_109 mv_X8_readBracket dX8_readOne_57 (k_X8_readBracket_R F hF hR q18) rfl rfl rfl rfl (by omega) ⟨Nat.le_refl _, Nat.le_refl _⟩ (Nat.le_of_ble_eq_true rfl) ?_
    refine g_goto 68 (by decide) dX8_readOne_60 ?_
    refine g_istore_4 rfl (Nat.le_of_ble_eq_true rfl) dX8_readOne_68 ?_
    refine g_iload dX8_readOne_70 rfl ?_
    refine g_if_eq 86 (by decide) dX8_readOne_72 (fun c20 => ?_) (fun c20 => ?_)
    · have h := g_ifp c20 h
      refine g_iload dX8_readOne_86 rfl ?_
      obtain ⟨x21, qx21, h⟩ := g_bind h
      obtain ⟨rfl, nx21⟩ := g_zc_n qx21
      obtain rfl := Option.some.inj h
      exact g_zret rfl (Nat.le_refl _) rfl nx21 dX8_readOne_88 ⟨rfl, rfl⟩
    · have h := g_ifn c20 h
      refine g_iload_n dX8_readOne_75 rfl ?_
      refine g_if_eq 86 (by decide) dX8_readOne_76 (fun c22 => ?_) (fun c22 => ?_)
      · have h := g_ifp c22 h
        refine g_iload dX8_readOne_86 rfl ?_
        obtain ⟨x23, qx23, h⟩ := g_bind h
        obtain ⟨rfl, nx23⟩ := g_zc_n qx23
        obtain rfl := Option.some.inj h
        exact g_zret rfl (Nat.le_refl _) rfl nx23 dX8_readOne_88 ⟨rfl, rfl⟩
      · have h := g_ifn c22 h
        refine g_aload_n dX8_readOne_79 rfl ?_
        refine g_ic3 dX8_readOne_80 ?_
        refine g_ic0 dX8_readOne_81 ?_
        refine g_ic0 dX8_readOne_82 ?_
        obtain ⟨μ26, q25, h⟩ := g_bind h
        refine m_cVv mt_X7_addStep ml_X8_102 mv_X7_addStep dX8_readOne_83 (k_X7_addStep hR q25) rfl hR.1 rfl rfl (by omega) ⟨Nat.le_refl _, Nat.le_refl _⟩ (Nat.le_of_ble_eq_true rfl) ?_
        refine g_iload dX8_readOne_86 rfl ?_
        obtain ⟨x27, qx27, h⟩ := g_bind h
        obtain ⟨rfl, nx27⟩ := g_zc_n qx27
        obtain rfl := Option.some.inj h
        exact g_zret rfl (Nat.le_refl _) rfl nx27 dX8_readOne_88 ⟨rfl, rfl⟩
set_option maxRecDepth 100000 in
set_option maxHeartbeats 4000000 in
theorem k_X8_readAll_R_L13 {D : va_G} {cA : Nat → ClassId} {b b2 k : Nat} {dyn : Nat → Nat} {t s : Nat} {r : Nat} {L : Nat} {Q : Option Value → g_S → Prop} {F : Int32 → g_M → Option (Int32 × g_M)} {d0 : Nat} (hF : ∀ (a1 : Int32) (μ : g_M) (z : Int32 × g_M), F a1 μ = some z → g_K (g_XX D cA b b2 dyn) yX8_readCondition Y_X8_readCondition d0 0 0 k [.ref 45, .ref r, .int a1] (μ, (g_rfX t s)) (fun r1 σ1 => r1 = some (.int z.1) ∧ σ1 = (z.2, (g_rfX t s)))) {N : Nat} (hR : g_RO (g_XX D cA b b2 dyn) k (g_rfX t s) r L) : ∀ (n : Nat) (x_2 : Int32) (x_3 : Int32) (μ : g_M) (z : (Int32 × g_M) ⊕ (g_M)), f_X8_readAll_R_L13 F N r L n x_2 x_3 μ = some z → (∀ q : Int32 × g_M, z = .inl q → Q (some (.int q.1)) (q.2, (g_rfX t s))) → (∀ (z_μ : g_M), z = .inr z_μ → g_V (g_XX D cA b b2 dyn) Y_X8_readAll (d0 + 4) 0 0 Q k 0 0 55 [none, none, none, none] [] (z_μ, (g_rfX t s))) → g_V (g_XX D cA b b2 dyn) Y_X8_readAll (d0 + 4) 0 0 Q k 0 0 13 [some (.ref 45), some (.ref r), some (.int x_2), some (.int x_3)] [] (μ, (g_rfX t s)) := by
  intro n
  induction n with
  | zero =>
    intro x_2 x_3 μ z h
    rw [f_X8_readAll_R_L13] at h
    cases h
  | succ n ih =>
    intro x_2 x_3 μ z h hr hc
    rw [f_X8_readAll_R_L13] at h
    refine g_iload_n dX8_readAll_13 rfl ?_
    refine g_sipush (v := 200) dX8_readAll_14 (by decide) ?_
    refine g_icmp_ge 55 (by decide) dX8_readAll_17 (fun c5 => ?_) (fun c5 => ?_)
    · have h := g_ifp c5 h
      obtain rfl := Option.some.inj h
      exact g_less _ (g_subN (g_subN (g_subN (g_subN g_sub0)))) (hc _ rfl)
    · have h := g_ifn c5 h
      refine g_aload_n dX8_readAll_20 rfl ?_
      refine g_bipush (v := 11) dX8_readAll_21 (by decide) ?_
      refine g_bipush (v := 11) dX8_readAll_23 (by decide) ?_
      obtain ⟨⟨x6, μ8⟩, q7, h⟩ := g_bind h
      refine m_cV mt_X8_pass ml_X8_87 mv_X8_pass dX8_readAll_25 (k_X8_pass q7) rfl rfl rfl rfl (by omega) ⟨Nat.le_refl _, Nat.le_refl _⟩ (Nat.le_of_ble_eq_true rfl) ?_
      refine g_if_eq 55 (by decide) dX8_readAll_28 (fun c9 => ?_) (fun c9 => ?_)
      · have h := g_ifp c9 h
        obtain rfl := Option.some.inj h
        exact g_less _ (g_subN (g_subN (g_subN (g_subN g_sub0)))) (hc _ rfl)
      · have h := g_ifn c9 h
        refine g_aload_n dX8_readAll_31 rfl ?_
        refine g_aload_n dX8_readAll_32 rfl ?_
        refine g_iload_n dX8_readAll_33 rfl ?_
        obtain ⟨⟨x10, μ12⟩, q11, h⟩ := g_bind h
        refine m_cV mt_X8_readOne ml_X8_106 mv_X8_readOne dX8_readAll_34 (k_X8_readOne_R F hF hR q11) rfl rfl rfl rfl (by omega) ⟨Nat.le_refl _, Nat.le_refl _⟩ (Nat.le_of_ble_eq_true rfl) ?_
        refine g_if_ne 42 (by decide) dX8_readAll_37 (fun c13 => ?_) (fun c13 => ?_)
        · have h := g_ifn c13 h
          refine g_aload_n dX8_readAll_42 rfl ?_
          refine g_ic4 dX8_readAll_43 ?_
          refine g_ic0 dX8_readAll_44 ?_
          refine g_ic0 dX8_readAll_45 ?_
          obtain ⟨μ16, q15, h⟩ := g_bind h
          refine m_cVv mt_X7_addStep ml_X8_102 mv_X7_addStep dX8_readAll_46 (k_X7_addStep hR q15) rfl hR.1 rfl rfl (by omega) ⟨Nat.le_refl _, Nat.le_refl _⟩ (Nat.le_of_ble_eq_true rfl) ?_
          refine g_iinc_3 (v := 1) rfl (by decide) (Nat.le_of_ble_eq_true rfl) dX8_readAll_49 ?_
          refine g_goto 13 (by decide) dX8_readAll_52 ?_
          exact g_less _ (g_subS (g_subS (g_subS (g_subS g_sub0)))) (ih _ _ _ _ h hr hc)
        · have h := g_ifp c13 h
          refine g_ic0 dX8_readAll_40 ?_
          obtain rfl := Option.some.inj h
          exact g_zret rfl (Nat.le_refl _) rfl rfl dX8_readAll_41 (hr _ rfl)
set_option maxRecDepth 100000 in
set_option maxHeartbeats 4000000 in
theorem k_X8_readAll_R {D : va_G} {cA : Nat → ClassId} {b b2 k : Nat} {dyn : Nat → Nat} {t s : Nat} {r : Nat} {L : Nat} (F : Int32 → g_M → Option (Int32 × g_M)) {d0 : Nat} (hF : ∀ (a1 : Int32) (μ : g_M) (z : Int32 × g_M), F a1 μ = some z → g_K (g_XX D cA b b2 dyn) yX8_readCondition Y_X8_readCondition d0 0 0 k [.ref 45, .ref r, .int a1] (μ, (g_rfX t s)) (fun r1 σ1 => r1 = some (.int z.1) ∧ σ1 = (z.2, (g_rfX t s)))) {N : Nat} (hR : g_RO (g_XX D cA b b2 dyn) k (g_rfX t s) r L) {a1 : Int32} {μ : g_M} {z : Int32 × g_M} (h : f_X8_readAll_R F N r L a1 μ = some z) : g_K (g_XX D cA b b2 dyn) yX8_readAll Y_X8_readAll (d0 + 4) 0 0 k [.ref 45, .ref r, .int a1] (μ, (g_rfX t s)) (fun r1 σ1 => r1 = some (.int z.1) ∧ σ1 = (z.2, (g_rfX t s))) := by
  unfold f_X8_readAll_R at h
  refine g_met 1 (by decide) rfl rfl (Nat.le_of_ble_eq_true rfl) ?_
  refine g_aload_n dX8_readAll_0 rfl ?_
  refine g_aload_n dX8_readAll_1 rfl ?_
  refine g_iload_n dX8_readAll_2 rfl ?_
  obtain ⟨⟨x1, μ3⟩, q2, h⟩ := g_bind h
  refine m_cV mt_X8_readOne ml_X8_106 mv_X8_readOne dX8_readAll_3 (k_X8_readOne_R F hF hR q2) rfl rfl rfl rfl (by omega) ⟨Nat.le_refl _, Nat.le_refl _⟩ (Nat.le_of_ble_eq_true rfl) ?_
  refine g_if_ne 11 (by decide) dX8_readAll_6 (fun c4 => ?_) (fun c4 => ?_)
  · have h := g_ifn c4 h
    refine g_ic0 dX8_readAll_11 ?_
    refine g_istore_3 rfl (Nat.le_of_ble_eq_true rfl) dX8_readAll_12 ?_
    obtain ⟨w7, q6, h⟩ := g_bind h
    refine g_less _ (g_subS (g_subS (g_subS (g_subS g_sub0)))) (k_X8_readAll_R_L13 hF hR _ _ _ _ _ q6 ?_ ?_)
    · intro q0 e0
      subst e0
      cases h
      exact ⟨rfl, rfl⟩
    · intro μ5 e0
      subst e0
      try dsimp only at h
      refine g_ic1 dX8_readAll_55 ?_
      obtain rfl := Option.some.inj h
      exact g_zret rfl (Nat.le_refl _) rfl rfl dX8_readAll_56 ⟨rfl, rfl⟩
  · have h := g_ifp c4 h
    refine g_ic0 dX8_readAll_9 ?_
    obtain rfl := Option.some.inj h
    exact g_zret rfl (Nat.le_refl _) rfl rfl dX8_readAll_10 ⟨rfl, rfl⟩
set_option maxRecDepth 100000 in
set_option maxHeartbeats 4000000 in
theorem k_X8_readCondition_R_L13 {D : va_G} {cA : Nat → ClassId} {b b2 k : Nat} {dyn : Nat → Nat} {t s : Nat} {r : Nat} {L : Nat} {Q : Option Value → g_S → Prop} {F : Int32 → g_M → Option (Int32 × g_M)} {d0 : Nat} (hF : ∀ (a1 : Int32) (μ : g_M) (z : Int32 × g_M), F a1 μ = some z → g_K (g_XX D cA b b2 dyn) yX8_readCondition Y_X8_readCondition d0 0 0 k [.ref 45, .ref r, .int a1] (μ, (g_rfX t s)) (fun r1 σ1 => r1 = some (.int z.1) ∧ σ1 = (z.2, (g_rfX t s)))) {N : Nat} (hR : g_RO (g_XX D cA b b2 dyn) k (g_rfX t s) r L) : ∀ (n : Nat) (x_2 : Int32) (x_3 : Int32) (μ : g_M) (z : (Int32 × g_M) ⊕ (g_M)), f_X8_readCondition_R_L13 F N r L n x_2 x_3 μ = some z → (∀ q : Int32 × g_M, z = .inl q → Q (some (.int q.1)) (q.2, (g_rfX t s))) → (∀ (z_μ : g_M), z = .inr z_μ → g_V (g_XX D cA b b2 dyn) Y_X8_readCondition (d0 + 5) 0 0 Q k 0 0 55 [none, none, none, none] [] (z_μ, (g_rfX t s))) → g_V (g_XX D cA b b2 dyn) Y_X8_readCondition (d0 + 5) 0 0 Q k 0 0 13 [some (.ref 45), some (.ref r), some (.int x_2), some (.int x_3)] [] (μ, (g_rfX t s)) := by
  intro n
  induction n with
  | zero =>
    intro x_2 x_3 μ z h
    rw [f_X8_readCondition_R_L13] at h
    cases h
  | succ n ih =>
    intro x_2 x_3 μ z h hr hc
    rw [f_X8_readCondition_R_L13] at h
    refine g_iload_n dX8_readCondition_13 rfl ?_
    refine g_sipush (v := 200) dX8_readCondition_14 (by decide) ?_
    refine g_icmp_ge 55 (by decide) dX8_readCondition_17 (fun c5 => ?_) (fun c5 => ?_)
    · have h := g_ifp c5 h
      obtain rfl := Option.some.inj h
      exact g_less _ (g_subN (g_subN (g_subN (g_subN g_sub0)))) (hc _ rfl)
    · have h := g_ifn c5 h
      refine g_aload_n dX8_readCondition_20 rfl ?_
      refine g_bipush (v := 10) dX8_readCondition_21 (by decide) ?_
      refine g_bipush (v := 10) dX8_readCondition_23 (by decide) ?_
      obtain ⟨⟨x6, μ8⟩, q7, h⟩ := g_bind h
      refine m_cV mt_X8_pass ml_X8_87 mv_X8_pass dX8_readCondition_25 (k_X8_pass q7) rfl rfl rfl rfl (by omega) ⟨Nat.le_refl _, Nat.le_refl _⟩ (Nat.le_of_ble_eq_true rfl) ?_
      refine g_if_eq 55 (by decide) dX8_readCondition_28 (fun c9 => ?_) (fun c9 => ?_)
      · have h := g_ifp c9 h
        obtain rfl := Option.some.inj h
        exact g_less _ (g_subN (g_subN (g_subN (g_subN g_sub0)))) (hc _ rfl)
      · have h := g_ifn c9 h
        refine g_aload_n dX8_readCondition_31 rfl ?_
        refine g_aload_n dX8_readCondition_32 rfl ?_
        refine g_iload_n dX8_readCondition_33 rfl ?_
        obtain ⟨⟨x10, μ12⟩, q11, h⟩ := g_bind h
        refine m_cV mt_X8_readAll ml_X8_99 mv_X8_readAll dX8_readCondition_34 (k_X8_readAll_R F hF hR q11) rfl rfl rfl rfl (by omega) ⟨Nat.le_refl _, Nat.le_refl _⟩ (Nat.le_of_ble_eq_true rfl) ?_
        refine g_if_ne 42 (by decide) dX8_readCondition_37 (fun c13 => ?_) (fun c13 => ?_)
        · have h := g_ifn c13 h
          refine g_aload_n dX8_readCondition_42 rfl ?_
          refine g_ic5 dX8_readCondition_43 ?_
          refine g_ic0 dX8_readCondition_44 ?_
          refine g_ic0 dX8_readCondition_45 ?_
          obtain ⟨μ16, q15, h⟩ := g_bind h
          refine m_cVv mt_X7_addStep ml_X8_102 mv_X7_addStep dX8_readCondition_46 (k_X7_addStep hR q15) rfl hR.1 rfl rfl (by omega) ⟨Nat.le_refl _, Nat.le_refl _⟩ (Nat.le_of_ble_eq_true rfl) ?_
          refine g_iinc_3 (v := 1) rfl (by decide) (Nat.le_of_ble_eq_true rfl) dX8_readCondition_49 ?_
          refine g_goto 13 (by decide) dX8_readCondition_52 ?_
          exact g_less _ (g_subS (g_subS (g_subS (g_subS g_sub0)))) (ih _ _ _ _ h hr hc)
        · have h := g_ifp c13 h
          refine g_ic0 dX8_readCondition_40 ?_
          obtain rfl := Option.some.inj h
          exact g_zret rfl (Nat.le_refl _) rfl rfl dX8_readCondition_41 (hr _ rfl)
set_option maxRecDepth 100000 in
set_option maxHeartbeats 4000000 in
theorem k_X8_readCondition_R {D : va_G} {cA : Nat → ClassId} {b b2 k : Nat} {dyn : Nat → Nat} {t s : Nat} {N : Nat} {r : Nat} {L : Nat} (hR : g_RO (g_XX D cA b b2 dyn) k (g_rfX t s) r L) : ∀ (n : Nat) (a1 : Int32) (μ : g_M) (z : Int32 × g_M), f_X8_readCondition_R N r L n a1 μ = some z → g_K (g_XX D cA b b2 dyn) yX8_readCondition Y_X8_readCondition (5 * n) 0 0 k [.ref 45, .ref r, .int a1] (μ, (g_rfX t s)) (fun r1 σ1 => r1 = some (.int z.1) ∧ σ1 = (z.2, (g_rfX t s))) := by
  intro n
  induction n with
  | zero =>
    intro a1 μ z h
    rw [f_X8_readCondition_R] at h
    cases h
  | succ n hF =>
    intro a1 μ z h
    rw [f_X8_readCondition_R] at h
    refine g_met (d := 5 * n + 5) 1 (by decide) rfl rfl (Nat.le_of_ble_eq_true rfl) ?_
    refine g_aload_n dX8_readCondition_0 rfl ?_
    refine g_aload_n dX8_readCondition_1 rfl ?_
    refine g_iload_n dX8_readCondition_2 rfl ?_
    obtain ⟨⟨x1, μ3⟩, q2, h⟩ := g_bind h
    refine m_cV mt_X8_readAll ml_X8_99 mv_X8_readAll dX8_readCondition_3 (k_X8_readAll_R _ hF hR q2) rfl rfl rfl rfl (by omega) ⟨Nat.le_refl _, Nat.le_refl _⟩ (Nat.le_of_ble_eq_true rfl) ?_
    refine g_if_ne 11 (by decide) dX8_readCondition_6 (fun c4 => ?_) (fun c4 => ?_)
    · have h := g_ifn c4 h
      refine g_ic0 dX8_readCondition_11 ?_
      refine g_istore_3 rfl (Nat.le_of_ble_eq_true rfl) dX8_readCondition_12 ?_
      obtain ⟨w7, q6, h⟩ := g_bind h
      refine g_less _ (g_subS (g_subS (g_subS (g_subS g_sub0)))) (k_X8_readCondition_R_L13 hF hR _ _ _ _ _ q6 ?_ ?_)
      · intro q0 e0
        subst e0
        cases h
        exact ⟨rfl, rfl⟩
      · intro μ5 e0
        subst e0
        try dsimp only at h
        refine g_ic1 dX8_readCondition_55 ?_
        obtain rfl := Option.some.inj h
        exact g_zret rfl (Nat.le_refl _) rfl rfl dX8_readCondition_56 ⟨rfl, rfl⟩
    · have h := g_ifp c4 h
      refine g_ic0 dX8_readCondition_9 ?_
      obtain rfl := Option.some.inj h
      exact g_zret rfl (Nat.le_refl _) rfl rfl dX8_readCondition_10 ⟨rfl, rfl⟩
set_option maxRecDepth 100000 in
set_option maxHeartbeats 4000000 in
theorem k_X7_addRule {D : va_G} {cA : Nat → ClassId} {b b2 k : Nat} {dyn : Nat → Nat} {t s : Nat} {r : Nat} {L : Nat} (hR : g_RO (g_XX D cA b b2 dyn) k (g_rfX t s) r L) {a1 : Int32} {a2 : Int32} {μ : g_M} {z : g_M} (h : f_X7_addRule r L a1 a2 μ = some z) : g_K (g_XX D cA b b2 dyn) yX7_addRule Y_X7_addRule 1 0 0 k [.ref r, .int a1, .int a2] (μ, (g_rfX t s)) (fun r1 σ1 => r1 = none ∧ σ1 = (z, (g_rfX t s))) := by
  unfold f_X7_addRule at h
  refine g_met 0 (by decide) rfl rfl (Nat.le_of_ble_eq_true rfl) ?_
  refine g_aload_n dX7_addRule_0 rfl ?_
  refine m_getI fl_X7_30 rfl hR.1 dX7_addRule_1 ?_
  refine g_bipush (v := 8) dX7_addRule_4 (by decide) ?_
  refine g_icmp_ge 52 (by decide) dX7_addRule_6 (fun c1 => ?_) (fun c1 => ?_)
  · have h := g_ifp c1 h
    obtain rfl := Option.some.inj h
    exact g_vret rfl (Nat.le_refl _) rfl dX7_addRule_52 ⟨rfl, rfl⟩
  · have h := g_ifn c1 h
    refine g_aload_n dX7_addRule_9 rfl ?_
    refine m_getR fl_X7_9 rfl hR.1 hR.2.2.2.2.2.1 dX7_addRule_10 ?_
    refine g_aload_n dX7_addRule_13 rfl ?_
    refine m_getI fl_X7_30 rfl hR.1 dX7_addRule_14 ?_
    refine g_iload_n dX7_addRule_17 rfl ?_
    obtain ⟨μ2, qμ2, h⟩ := g_bind h
    refine m_iast hR.2.1 qμ2 dX7_addRule_18 ?_
    refine g_aload_n dX7_addRule_19 rfl ?_
    refine m_getR fl_X7_15 rfl hR.1 hR.2.2.2.2.2.2.1 dX7_addRule_20 ?_
    refine g_aload_n dX7_addRule_23 rfl ?_
    refine m_getI fl_X7_30 rfl hR.1 dX7_addRule_24 ?_
    refine g_iload_n dX7_addRule_27 rfl ?_
    obtain ⟨μ3, qμ3, h⟩ := g_bind h
    refine m_iast hR.2.2.1 qμ3 dX7_addRule_28 ?_
    refine g_aload_n dX7_addRule_29 rfl ?_
    refine m_getR fl_X7_18 rfl hR.1 hR.2.2.2.2.2.2.2.1 dX7_addRule_30 ?_
    refine g_aload_n dX7_addRule_33 rfl ?_
    refine m_getI fl_X7_30 rfl hR.1 dX7_addRule_34 ?_
    refine g_aload_n dX7_addRule_37 rfl ?_
    refine m_getI fl_X7_34 rfl hR.1 dX7_addRule_38 ?_
    obtain ⟨μ4, qμ4, h⟩ := g_bind h
    refine m_iast hR.2.2.2.1 qμ4 dX7_addRule_41 ?_
    refine g_aload_n dX7_addRule_42 rfl ?_
    refine g_dup dX7_addRule_43 rfl ?_
    refine m_getI fl_X7_30 rfl hR.1 dX7_addRule_44 ?_
    refine g_ic1 dX7_addRule_47 ?_
    refine g_iadd dX7_addRule_48 ?_
    obtain ⟨μ5, eμ5, h⟩ := g_let h
    refine m_putI fl_X7_30 fw_7_4 rfl rfl rfl hR.1 dX7_addRule_49 eμ5 ?_
    obtain rfl := Option.some.inj h
    exact g_vret rfl (Nat.le_refl _) rfl dX7_addRule_52 ⟨rfl, rfl⟩
set_option maxRecDepth 100000 in
set_option maxHeartbeats 4000000 in
theorem k_X8_readRule_R {D : va_G} {cA : Nat → ClassId} {b b2 k : Nat} {dyn : Nat → Nat} {t s : Nat} {r : Nat} {L : Nat} {N : Nat} (hR : g_RO (g_XX D cA b b2 dyn) k (g_rfX t s) r L) {μ : g_M} {z : Int32 × g_M} (h : f_X8_readRule_R N r L μ = some z) : g_K (g_XX D cA b b2 dyn) yX8_readRule Y_X8_readRule 26 0 0 k [.ref 45, .ref r] (μ, (g_rfX t s)) (fun r1 σ1 => r1 = some (.int z.1) ∧ σ1 = (z.2, (g_rfX t s))) := by
  unfold f_X8_readRule_R at h
  refine g_met 2 (by decide) rfl rfl (Nat.le_of_ble_eq_true rfl) ?_
  refine g_aload_n dX8_readRule_0 rfl ?_
  refine m_getR fl_X8_15 rfl rfl rfl dX8_readRule_1 ?_
  refine g_aload_n dX8_readRule_4 rfl ?_
  refine m_getI fl_X8_31 rfl rfl dX8_readRule_5 ?_
  obtain ⟨x1, qx1, h⟩ := g_bind h
  refine m_iald rfl qx1 dX8_readRule_8 ?_
  refine g_istore_2 rfl (Nat.le_of_ble_eq_true rfl) dX8_readRule_9 ?_
  refine g_aload_n dX8_readRule_10 rfl ?_
  refine g_ic0 dX8_readRule_11 ?_
  refine g_ic5 dX8_readRule_12 ?_
  obtain ⟨⟨x2, μ4⟩, q3, h⟩ := g_bind h
  refine m_cV mt_X8_pass ml_X8_87 mv_X8_pass dX8_readRule_13 (k_X8_pass q3) rfl rfl rfl rfl (by decide) ⟨Nat.le_refl _, Nat.le_refl _⟩ (Nat.le_of_ble_eq_true rfl) ?_
  refine g_if_ne 21 (by decide) dX8_readRule_16 (fun c5 => ?_) (fun c5 => ?_)
  · have h := g_ifn c5 h
    refine g_aload_n dX8_readRule_21 rfl ?_
    refine g_bipush (v := 9) dX8_readRule_22 (by decide) ?_
    refine g_bipush (v := 9) dX8_readRule_24 (by decide) ?_
    obtain ⟨⟨x6, μ8⟩, q7, h⟩ := g_bind h
    refine m_cV mt_X8_pass ml_X8_87 mv_X8_pass dX8_readRule_26 (k_X8_pass q7) rfl rfl rfl rfl (by decide) ⟨Nat.le_refl _, Nat.le_refl _⟩ (Nat.le_of_ble_eq_true rfl) ?_
    refine g_if_eq 43 (by decide) dX8_readRule_29 (fun c9 => ?_) (fun c9 => ?_)
    · have h := g_ifp c9 h
      refine g_aload_n dX8_readRule_43 rfl ?_
      refine m_getR fl_X8_15 rfl rfl rfl dX8_readRule_44 ?_
      refine g_aload_n dX8_readRule_47 rfl ?_
      refine m_getI fl_X8_31 rfl rfl dX8_readRule_48 ?_
      obtain ⟨x10, qx10, h⟩ := g_bind h
      refine m_iald rfl qx10 dX8_readRule_51 ?_
      refine g_bipush (v := 6) dX8_readRule_52 (by decide) ?_
      refine g_isub dX8_readRule_54 ?_
      obtain ⟨x11, ex11, h⟩ := g_let h
      refine g_top ex11 ?_
      refine g_istore_3 rfl (Nat.le_of_ble_eq_true rfl) dX8_readRule_55 ?_
      refine g_aload_n dX8_readRule_56 rfl ?_
      refine g_bipush (v := 6) dX8_readRule_57 (by decide) ?_
      refine g_bipush (v := 8) dX8_readRule_59 (by decide) ?_
      obtain ⟨⟨x12, μ14⟩, q13, h⟩ := g_bind h
      refine m_cV mt_X8_pass ml_X8_87 mv_X8_pass dX8_readRule_61 (k_X8_pass q13) rfl rfl rfl rfl (by decide) ⟨Nat.le_refl _, Nat.le_refl _⟩ (Nat.le_of_ble_eq_true rfl) ?_
      refine g_if_eq 78 (by decide) dX8_readRule_64 (fun c15 => ?_) (fun c15 => ?_)
      · have h := g_ifp c15 h
        refine g_ic0 dX8_readRule_78 ?_
        obtain rfl := Option.some.inj h
        exact g_zret rfl (Nat.le_refl _) rfl rfl dX8_readRule_79 ⟨rfl, rfl⟩
      · have h := g_ifn c15 h
        refine g_aload_n dX8_readRule_67 rfl ?_
        refine g_bipush (v := 19) dX8_readRule_68 (by decide) ?_
        refine g_bipush (v := 19) dX8_readRule_70 (by decide) ?_
        obtain ⟨⟨x16, μ18⟩, q17, h⟩ := g_bind h
        refine m_cV mt_X8_pass ml_X8_87 mv_X8_pass dX8_readRule_72 (k_X8_pass q17) rfl rfl rfl rfl (by decide) ⟨Nat.le_refl _, Nat.le_refl _⟩ (Nat.le_of_ble_eq_true rfl) ?_
        refine g_if_ne 80 (by decide) dX8_readRule_75 (fun c19 => ?_) (fun c19 => ?_)
        · have h := g_ifn c19 h
          refine g_aload_n dX8_readRule_80 rfl ?_
          refine g_iload_n dX8_readRule_81 rfl ?_
          refine g_iload_n dX8_readRule_82 rfl ?_
          obtain ⟨μ22, q21, h⟩ := g_bind h
          refine m_cVv mt_X7_addRule ml_X8_95 mv_X7_addRule dX8_readRule_83 (k_X7_addRule hR q21) rfl hR.1 rfl rfl (by decide) ⟨Nat.le_refl _, Nat.le_refl _⟩ (Nat.le_of_ble_eq_true rfl) ?_
          refine g_ic1 dX8_readRule_86 ?_
          obtain rfl := Option.some.inj h
          exact g_zret rfl (Nat.le_refl _) rfl rfl dX8_readRule_87 ⟨rfl, rfl⟩
        · have h := g_ifp c19 h
          refine g_ic0 dX8_readRule_78 ?_
          obtain rfl := Option.some.inj h
          exact g_zret rfl (Nat.le_refl _) rfl rfl dX8_readRule_79 ⟨rfl, rfl⟩
    · have h := g_ifn c9 h
      refine g_aload_n dX8_readRule_32 rfl ?_
      refine g_aload_n dX8_readRule_33 rfl ?_
      refine g_ic0 dX8_readRule_34 ?_
      obtain ⟨⟨x23, μ25⟩, q24, h⟩ := g_bind h
      refine m_cV mt_X8_readCondition ml_X8_91 mv_X8_readCondition dX8_readRule_35 (k_X8_readCondition_R hR _ _ _ _ q24) rfl rfl rfl rfl (by decide) ⟨Nat.le_refl _, Nat.le_refl _⟩ (Nat.le_of_ble_eq_true rfl) ?_
      refine g_if_ne 43 (by decide) dX8_readRule_38 (fun c26 => ?_) (fun c26 => ?_)
      · have h := g_ifn c26 h
        refine g_aload_n dX8_readRule_43 rfl ?_
        refine m_getR fl_X8_15 rfl rfl rfl dX8_readRule_44 ?_
        refine g_aload_n dX8_readRule_47 rfl ?_
        refine m_getI fl_X8_31 rfl rfl dX8_readRule_48 ?_
        obtain ⟨x27, qx27, h⟩ := g_bind h
        refine m_iald rfl qx27 dX8_readRule_51 ?_
        refine g_bipush (v := 6) dX8_readRule_52 (by decide) ?_
        refine g_isub dX8_readRule_54 ?_
        obtain ⟨x28, ex28, h⟩ := g_let h
        refine g_top ex28 ?_
        refine g_istore_3 rfl (Nat.le_of_ble_eq_true rfl) dX8_readRule_55 ?_
        refine g_aload_n dX8_readRule_56 rfl ?_
        refine g_bipush (v := 6) dX8_readRule_57 (by decide) ?_
        refine g_bipush (v := 8) dX8_readRule_59 (by decide) ?_
        obtain ⟨⟨x29, μ31⟩, q30, h⟩ := g_bind h
        refine m_cV mt_X8_pass ml_X8_87 mv_X8_pass dX8_readRule_61 (k_X8_pass q30) rfl rfl rfl rfl (by decide) ⟨Nat.le_refl _, Nat.le_refl _⟩ (Nat.le_of_ble_eq_true rfl) ?_
        refine g_if_eq 78 (by decide) dX8_readRule_64 (fun c32 => ?_) (fun c32 => ?_)
        · have h := g_ifp c32 h
          refine g_ic0 dX8_readRule_78 ?_
          obtain rfl := Option.some.inj h
          exact g_zret rfl (Nat.le_refl _) rfl rfl dX8_readRule_79 ⟨rfl, rfl⟩
        · have h := g_ifn c32 h
          refine g_aload_n dX8_readRule_67 rfl ?_
          refine g_bipush (v := 19) dX8_readRule_68 (by decide) ?_
          refine g_bipush (v := 19) dX8_readRule_70 (by decide) ?_
          obtain ⟨⟨x33, μ35⟩, q34, h⟩ := g_bind h
          refine m_cV mt_X8_pass ml_X8_87 mv_X8_pass dX8_readRule_72 (k_X8_pass q34) rfl rfl rfl rfl (by decide) ⟨Nat.le_refl _, Nat.le_refl _⟩ (Nat.le_of_ble_eq_true rfl) ?_
          refine g_if_ne 80 (by decide) dX8_readRule_75 (fun c36 => ?_) (fun c36 => ?_)
          · have h := g_ifn c36 h
            refine g_aload_n dX8_readRule_80 rfl ?_
            refine g_iload_n dX8_readRule_81 rfl ?_
            refine g_iload_n dX8_readRule_82 rfl ?_
            obtain ⟨μ39, q38, h⟩ := g_bind h
            refine m_cVv mt_X7_addRule ml_X8_95 mv_X7_addRule dX8_readRule_83 (k_X7_addRule hR q38) rfl hR.1 rfl rfl (by decide) ⟨Nat.le_refl _, Nat.le_refl _⟩ (Nat.le_of_ble_eq_true rfl) ?_
            refine g_ic1 dX8_readRule_86 ?_
            obtain rfl := Option.some.inj h
            exact g_zret rfl (Nat.le_refl _) rfl rfl dX8_readRule_87 ⟨rfl, rfl⟩
          · have h := g_ifp c36 h
            refine g_ic0 dX8_readRule_78 ?_
            obtain rfl := Option.some.inj h
            exact g_zret rfl (Nat.le_refl _) rfl rfl dX8_readRule_79 ⟨rfl, rfl⟩
      · have h := g_ifp c26 h
        refine g_ic0 dX8_readRule_41 ?_
        obtain rfl := Option.some.inj h
        exact g_zret rfl (Nat.le_refl _) rfl rfl dX8_readRule_42 ⟨rfl, rfl⟩
  · have h := g_ifp c5 h
    refine g_ic0 dX8_readRule_19 ?_
    obtain rfl := Option.some.inj h
    exact g_zret rfl (Nat.le_refl _) rfl rfl dX8_readRule_20 ⟨rfl, rfl⟩
