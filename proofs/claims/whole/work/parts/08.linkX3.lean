set_option maxRecDepth 100000 in
set_option maxHeartbeats 4000000 in
theorem k_X11_trace {D : va_G} {cA : Nat → ClassId} {b b2 k : Nat} {dyn : Nat → Nat} {t s : Nat} {a1 : Int32} {μ : g_M} {z : Int32} (h : f_X11_trace a1 μ = some z) : g_K (g_XX D cA b b2 dyn) yX11_trace Y_X11_trace 2 0 0 k [.ref 0, .int a1] (μ, (g_rfX t s)) (fun r1 σ1 => r1 = some (.int z) ∧ σ1 = (μ, (g_rfX t s))) := by
  unfold f_X11_trace at h
  refine g_met 0 (by decide) rfl rfl (Nat.le_of_ble_eq_true rfl) ?_
  refine g_iload_n dX11_trace_0 rfl ?_
  refine g_ic0 dX11_trace_1 ?_
  refine g_aload_n dX11_trace_2 rfl ?_
  refine m_getR fl_X11_38 rfl rfl rfl dX11_trace_3 ?_
  refine m_getI fl_X11_345 rfl rfl dX11_trace_6 ?_
  refine g_ic1 dX11_trace_9 ?_
  refine g_isub dX11_trace_10 ?_
  refine m_cS mt_X11_isBetween ml_X11_129 ms_X11_isBetween dX11_trace_11 (k_X11_isBetween rfl) rfl rfl (by decide) ⟨Nat.le_refl _, Nat.le_refl _⟩ (Nat.le_of_ble_eq_true rfl) ?_
  refine g_if_eq 29 (by decide) dX11_trace_14 (fun c1 => ?_) (fun c1 => ?_)
  · have h := g_ifp c1 h
    refine g_bipush (v := (-3)) dX11_trace_29 (by decide) ?_
    obtain rfl := Option.some.inj h
    exact g_iret rfl (Nat.le_refl _) rfl dX11_trace_31 ⟨rfl, rfl⟩
  · have h := g_ifn c1 h
    refine g_aload_n dX11_trace_17 rfl ?_
    refine m_getR fl_X11_38 rfl rfl rfl dX11_trace_18 ?_
    refine m_getR fl_X11_346 rfl rfl rfl dX11_trace_21 ?_
    refine g_iload_n dX11_trace_24 rfl ?_
    obtain ⟨x2, qx2, h⟩ := g_bind h
    refine m_iald rfl qx2 dX11_trace_25 ?_
    refine g_goto 31 (by decide) dX11_trace_26 ?_
    obtain rfl := Option.some.inj h
    exact g_iret rfl (Nat.le_refl _) rfl dX11_trace_31 ⟨rfl, rfl⟩
set_option maxRecDepth 100000 in
set_option maxHeartbeats 4000000 in
theorem k_X11_many {D : va_G} {cA : Nat → ClassId} {b b2 k : Nat} {dyn : Nat → Nat} {t s : Nat} {N : Nat} {L : Nat} (hR : g_RO (g_XX D cA b b2 dyn) k (g_rfX t s) t L) {a1 : Int32} {μ : g_M} {z : Int32} (h : f_X11_many N t L a1 μ = some z) : g_K (g_XX D cA b b2 dyn) yX11_many Y_X11_many 3 0 0 k [.ref 0, .int a1] (μ, (g_rfX t s)) (fun r1 σ1 => r1 = some (.int z) ∧ σ1 = (μ, (g_rfX t s))) := by
  unfold f_X11_many at h
  refine g_met 0 (by decide) rfl rfl (Nat.le_of_ble_eq_true rfl) ?_
  refine g_iload_n dX11_many_0 rfl ?_
  by_cases c1 : a1 = 0
  · have h := g_ifp c1 h
    refine m_tab 0 44 c1 dX11_many_1 (by decide) (by decide) rfl (by decide) ?_
    refine g_aload_n dX11_many_44 rfl ?_
    refine m_getR fl_X11_10 rfl rfl rfl dX11_many_45 ?_
    refine m_getI fl_X11_79 rfl rfl dX11_many_48 ?_
    obtain rfl := Option.some.inj h
    exact g_iret rfl (Nat.le_refl _) rfl dX11_many_51 ⟨rfl, rfl⟩
  have h := g_ifn c1 h
  by_cases c2 : a1 = 1
  · have h := g_ifp c2 h
    refine m_tab 1 52 c2 dX11_many_1 (by decide) (by decide) rfl (by decide) ?_
    refine g_aload_n dX11_many_52 rfl ?_
    refine m_getR fl_X11_10 rfl rfl rfl dX11_many_53 ?_
    refine m_getR fl_X11_349 rfl rfl rfl dX11_many_56 ?_
    refine m_getI fl_X11_171 rfl hR.1 dX11_many_59 ?_
    obtain rfl := Option.some.inj h
    exact g_iret rfl (Nat.le_refl _) rfl dX11_many_62 ⟨rfl, rfl⟩
  have h := g_ifn c2 h
  by_cases c3 : a1 = 2
  · have h := g_ifp c3 h
    refine m_tab 2 63 c3 dX11_many_1 (by decide) (by decide) rfl (by decide) ?_
    refine g_aload_n dX11_many_63 rfl ?_
    refine m_getR fl_X11_10 rfl rfl rfl dX11_many_64 ?_
    refine g_aload_n dX11_many_67 rfl ?_
    refine m_getR fl_X11_10 rfl rfl rfl dX11_many_68 ?_
    refine m_getI fl_X11_102 rfl rfl dX11_many_71 ?_
    obtain ⟨x4, q5, h⟩ := g_bind h
    refine m_cV mt_X9_homeSet ml_X11_149 mv_X9_homeSet dX11_many_74 (k_X9_homeSet q5) rfl rfl rfl rfl (by decide) ⟨Nat.le_refl _, Nat.le_refl _⟩ (Nat.le_of_ble_eq_true rfl) ?_
    obtain ⟨x6, q7, h⟩ := g_bind h
    refine m_cS mt_J6_bitCount_0f7a4 ml_X11_206 ms_J6_bitCount_0f7a4 dX11_many_77 (k_J6_bitCount_0f7a4 q7) rfl rfl (by decide) ⟨Nat.le_refl _, Nat.le_refl _⟩ (Nat.le_of_ble_eq_true rfl) ?_
    obtain rfl := Option.some.inj h
    exact g_iret rfl (Nat.le_refl _) rfl dX11_many_80 ⟨rfl, rfl⟩
  have h := g_ifn c3 h
  by_cases c8 : a1 = 3
  · have h := g_ifp c8 h
    refine m_tab 3 81 c8 dX11_many_1 (by decide) (by decide) rfl (by decide) ?_
    refine g_aload_n dX11_many_81 rfl ?_
    refine m_getR fl_X11_10 rfl rfl rfl dX11_many_82 ?_
    refine m_getI fl_X11_257 rfl rfl dX11_many_85 ?_
    obtain rfl := Option.some.inj h
    exact g_iret rfl (Nat.le_refl _) rfl dX11_many_88 ⟨rfl, rfl⟩
  have h := g_ifn c8 h
  by_cases c9 : a1 = 4
  · have h := g_ifp c9 h
    refine m_tab 4 89 c9 dX11_many_1 (by decide) (by decide) rfl (by decide) ?_
    refine g_aload_n dX11_many_89 rfl ?_
    refine m_getI fl_X11_281 rfl rfl dX11_many_90 ?_
    obtain rfl := Option.some.inj h
    exact g_iret rfl (Nat.le_refl _) rfl dX11_many_93 ⟨rfl, rfl⟩
  have h := g_ifn c9 h
  by_cases c10 : a1 = 5
  · have h := g_ifp c10 h
    refine m_tab 5 94 c10 dX11_many_1 (by decide) (by decide) rfl (by decide) ?_
    refine g_aload_n dX11_many_94 rfl ?_
    refine m_getR fl_X11_31 rfl rfl rfl dX11_many_95 ?_
    refine m_getI fl_X11_153 rfl rfl dX11_many_98 ?_
    obtain rfl := Option.some.inj h
    exact g_iret rfl (Nat.le_refl _) rfl dX11_many_101 ⟨rfl, rfl⟩
  have h := g_ifn c10 h
  by_cases c11 : a1 = 6
  · have h := g_ifp c11 h
    refine m_tab 6 102 c11 dX11_many_1 (by decide) (by decide) rfl (by decide) ?_
    refine g_aload_n dX11_many_102 rfl ?_
    refine m_getR fl_X11_38 rfl rfl rfl dX11_many_103 ?_
    refine m_getI fl_X11_345 rfl rfl dX11_many_106 ?_
    obtain rfl := Option.some.inj h
    exact g_iret rfl (Nat.le_refl _) rfl dX11_many_109 ⟨rfl, rfl⟩
  have h := g_ifn c11 h
  refine g_tabOut 110 dX11_many_1 (by have nc1 := m_ne 0 0 c1 (by decide); have nc2 := m_ne 1 1 c2 (by decide); have nc3 := m_ne 2 2 c3 (by decide); have nc8 := m_ne 3 3 c8 (by decide); have nc9 := m_ne 4 4 c9 (by decide); have nc10 := m_ne 5 5 c10 (by decide); have nc11 := m_ne 6 6 c11 (by decide); omega) (by decide) ?_
  refine g_icm1 dX11_many_110 ?_
  obtain rfl := Option.some.inj h
  exact g_iret rfl (Nat.le_refl _) rfl dX11_many_111 ⟨rfl, rfl⟩
set_option maxRecDepth 100000 in
set_option maxHeartbeats 4000000 in
theorem k_X8_isLetter {D : va_G} {cA : Nat → ClassId} {b b2 k : Nat} {dyn : Nat → Nat} {t s : Nat} {a1 : Int32} {μ : g_M} {z : Int32} (h : f_X8_isLetter a1 = z) : g_K (g_XX D cA b b2 dyn) yX8_isLetter Y_X8_isLetter 1 0 0 k [.int a1] (μ, (g_rfX t s)) (fun r1 σ1 => r1 = some (.int z) ∧ σ1 = (μ, (g_rfX t s))) := by
  unfold f_X8_isLetter at h
  refine g_met 0 (by decide) rfl rfl (Nat.le_of_ble_eq_true rfl) ?_
  refine g_iload_n dX8_isLetter_0 rfl ?_
  refine g_bipush (v := 97) dX8_isLetter_1 (by decide) ?_
  refine g_icmp_lt 16 (by decide) dX8_isLetter_3 (fun c1 => ?_) (fun c1 => ?_)
  · have h := g_ifp c1 h
    refine g_ic0 dX8_isLetter_16 ?_
    subst h
    exact g_zret rfl (Nat.le_refl _) rfl rfl dX8_isLetter_17 ⟨rfl, rfl⟩
  · have h := g_ifn c1 h
    refine g_iload_n dX8_isLetter_6 rfl ?_
    refine g_bipush (v := 122) dX8_isLetter_7 (by decide) ?_
    refine g_icmp_gt 16 (by decide) dX8_isLetter_9 (fun c2 => ?_) (fun c2 => ?_)
    · have h := g_ifp c2 h
      refine g_ic0 dX8_isLetter_16 ?_
      subst h
      exact g_zret rfl (Nat.le_refl _) rfl rfl dX8_isLetter_17 ⟨rfl, rfl⟩
    · have h := g_ifn c2 h
      refine g_ic1 dX8_isLetter_12 ?_
      refine g_goto 17 (by decide) dX8_isLetter_13 ?_
      subst h
      exact g_zret rfl (Nat.le_refl _) rfl rfl dX8_isLetter_17 ⟨rfl, rfl⟩
set_option maxRecDepth 100000 in
set_option maxHeartbeats 4000000 in
theorem zb_X8_isLetter (a1 : Int32) : narrow .boolean (.int (f_X8_isLetter a1)) = .int (f_X8_isLetter a1) := by
  unfold f_X8_isLetter
  repeat' split
  all_goals first | rfl | rfl
set_option maxRecDepth 100000 in
set_option maxHeartbeats 4000000 in
theorem k_X8_isDigit {D : va_G} {cA : Nat → ClassId} {b b2 k : Nat} {dyn : Nat → Nat} {t s : Nat} {a1 : Int32} {μ : g_M} {z : Int32} (h : f_X8_isDigit a1 = z) : g_K (g_XX D cA b b2 dyn) yX8_isDigit Y_X8_isDigit 1 0 0 k [.int a1] (μ, (g_rfX t s)) (fun r1 σ1 => r1 = some (.int z) ∧ σ1 = (μ, (g_rfX t s))) := by
  unfold f_X8_isDigit at h
  refine g_met 0 (by decide) rfl rfl (Nat.le_of_ble_eq_true rfl) ?_
  refine g_iload_n dX8_isDigit_0 rfl ?_
  refine g_bipush (v := 48) dX8_isDigit_1 (by decide) ?_
  refine g_icmp_lt 16 (by decide) dX8_isDigit_3 (fun c1 => ?_) (fun c1 => ?_)
  · have h := g_ifp c1 h
    refine g_ic0 dX8_isDigit_16 ?_
    subst h
    exact g_zret rfl (Nat.le_refl _) rfl rfl dX8_isDigit_17 ⟨rfl, rfl⟩
  · have h := g_ifn c1 h
    refine g_iload_n dX8_isDigit_6 rfl ?_
    refine g_bipush (v := 57) dX8_isDigit_7 (by decide) ?_
    refine g_icmp_gt 16 (by decide) dX8_isDigit_9 (fun c2 => ?_) (fun c2 => ?_)
    · have h := g_ifp c2 h
      refine g_ic0 dX8_isDigit_16 ?_
      subst h
      exact g_zret rfl (Nat.le_refl _) rfl rfl dX8_isDigit_17 ⟨rfl, rfl⟩
    · have h := g_ifn c2 h
      refine g_ic1 dX8_isDigit_12 ?_
      refine g_goto 17 (by decide) dX8_isDigit_13 ?_
      subst h
      exact g_zret rfl (Nat.le_refl _) rfl rfl dX8_isDigit_17 ⟨rfl, rfl⟩
set_option maxRecDepth 100000 in
set_option maxHeartbeats 4000000 in
theorem zb_X8_isDigit (a1 : Int32) : narrow .boolean (.int (f_X8_isDigit a1)) = .int (f_X8_isDigit a1) := by
  unfold f_X8_isDigit
  repeat' split
  all_goals first | rfl | rfl
set_option maxRecDepth 100000 in
set_option maxHeartbeats 4000000 in
theorem k_X8_wordEnd_L54 {D : va_G} {cA : Nat → ClassId} {b b2 k : Nat} {dyn : Nat → Nat} {t s : Nat} {Q : Option Value → g_S → Prop} {N : Nat} : ∀ (n : Nat) (x_2 : Int32) (μ : g_M) (z_2 : Int32), f_X8_wordEnd_L54 N n x_2 μ = some z_2 → g_V (g_XX D cA b b2 dyn) Y_X8_wordEnd 2 0 0 Q k 0 0 80 [none, none, some (.int z_2)] [] (μ, (g_rfX t s)) → g_V (g_XX D cA b b2 dyn) Y_X8_wordEnd 2 0 0 Q k 0 0 54 [some (.ref 46), none, some (.int x_2)] [] (μ, (g_rfX t s)) := by
  intro n
  induction n with
  | zero =>
    intro x_2 μ z_2 h
    rw [f_X8_wordEnd_L54] at h
    cases h
  | succ n ih =>
    intro x_2 μ z_2 h hc
    rw [f_X8_wordEnd_L54] at h
    refine g_iload_n dX8_wordEnd_54 rfl ?_
    refine g_aload_n dX8_wordEnd_55 rfl ?_
    refine m_getI fl_X8_24 rfl rfl dX8_wordEnd_56 ?_
    refine g_icmp_ge 80 (by decide) dX8_wordEnd_59 (fun c6 => ?_) (fun c6 => ?_)
    · have h := g_ifp c6 h
      obtain rfl := Option.some.inj h
      exact g_less _ (g_subN (g_subN (g_subS g_sub0))) hc
    · have h := g_ifn c6 h
      refine g_aload_n dX8_wordEnd_62 rfl ?_
      refine m_getR fl_X8_9 rfl rfl rfl dX8_wordEnd_63 ?_
      refine g_iload_n dX8_wordEnd_66 rfl ?_
      obtain ⟨x7, qx7, h⟩ := g_bind h
      refine m_iald rfl qx7 dX8_wordEnd_67 ?_
      refine m_cS mt_X8_isDigit ml_X8_69 ms_X8_isDigit dX8_wordEnd_68 (k_X8_isDigit rfl) rfl rfl (by decide) ⟨Nat.le_refl _, Nat.le_refl _⟩ (Nat.le_of_ble_eq_true rfl) ?_
      refine g_if_eq 80 (by decide) dX8_wordEnd_71 (fun c8 => ?_) (fun c8 => ?_)
      · have h := g_ifp c8 h
        obtain rfl := Option.some.inj h
        exact g_less _ (g_subN (g_subN (g_subS g_sub0))) hc
      · have h := g_ifn c8 h
        refine g_iinc_2 (v := 1) rfl (by decide) (Nat.le_of_ble_eq_true rfl) dX8_wordEnd_74 ?_
        refine g_goto 54 (by decide) dX8_wordEnd_77 ?_
        exact g_less _ (g_subS (g_subN (g_subS g_sub0))) (ih _ _ _ h hc)
set_option maxRecDepth 100000 in
set_option maxHeartbeats 4000000 in
theorem k_X8_wordEnd_L16 {D : va_G} {cA : Nat → ClassId} {b b2 k : Nat} {dyn : Nat → Nat} {t s : Nat} {Q : Option Value → g_S → Prop} {N : Nat} : ∀ (n : Nat) (x_2 : Int32) (μ : g_M) (z_2 : Int32), f_X8_wordEnd_L16 N n x_2 μ = some z_2 → g_V (g_XX D cA b b2 dyn) Y_X8_wordEnd 2 0 0 Q k 0 0 80 [none, none, some (.int z_2)] [] (μ, (g_rfX t s)) → g_V (g_XX D cA b b2 dyn) Y_X8_wordEnd 2 0 0 Q k 0 0 16 [some (.ref 46), none, some (.int x_2)] [] (μ, (g_rfX t s)) := by
  intro n
  induction n with
  | zero =>
    intro x_2 μ z_2 h
    rw [f_X8_wordEnd_L16] at h
    cases h
  | succ n ih =>
    intro x_2 μ z_2 h hc
    rw [f_X8_wordEnd_L16] at h
    refine g_iload_n dX8_wordEnd_16 rfl ?_
    refine g_aload_n dX8_wordEnd_17 rfl ?_
    refine m_getI fl_X8_24 rfl rfl dX8_wordEnd_18 ?_
    refine g_icmp_ge 80 (by decide) dX8_wordEnd_21 (fun c8 => ?_) (fun c8 => ?_)
    · have h := g_ifp c8 h
      obtain rfl := Option.some.inj h
      exact g_less _ (g_subN (g_subN (g_subS g_sub0))) hc
    · have h := g_ifn c8 h
      refine g_aload_n dX8_wordEnd_24 rfl ?_
      refine m_getR fl_X8_9 rfl rfl rfl dX8_wordEnd_25 ?_
      refine g_iload_n dX8_wordEnd_28 rfl ?_
      obtain ⟨x9, qx9, h⟩ := g_bind h
      refine m_iald rfl qx9 dX8_wordEnd_29 ?_
      refine m_cS mt_X8_isLetter ml_X8_65 ms_X8_isLetter dX8_wordEnd_30 (k_X8_isLetter rfl) rfl rfl (by decide) ⟨Nat.le_refl _, Nat.le_refl _⟩ (Nat.le_of_ble_eq_true rfl) ?_
      refine g_if_eq 80 (by decide) dX8_wordEnd_33 (fun c10 => ?_) (fun c10 => ?_)
      · have h := g_ifp c10 h
        obtain rfl := Option.some.inj h
        exact g_less _ (g_subN (g_subN (g_subS g_sub0))) hc
      · have h := g_ifn c10 h
        refine g_iinc_2 (v := 1) rfl (by decide) (Nat.le_of_ble_eq_true rfl) dX8_wordEnd_36 ?_
        refine g_goto 16 (by decide) dX8_wordEnd_39 ?_
        exact g_less _ (g_subS (g_subN (g_subS g_sub0))) (ih _ _ _ h hc)
set_option maxRecDepth 100000 in
set_option maxHeartbeats 4000000 in
theorem k_X8_wordEnd {D : va_G} {cA : Nat → ClassId} {b b2 k : Nat} {dyn : Nat → Nat} {t s : Nat} {N : Nat} {a1 : Int32} {μ : g_M} {z : Int32} (h : f_X8_wordEnd N a1 μ = some z) : g_K (g_XX D cA b b2 dyn) yX8_wordEnd Y_X8_wordEnd 2 0 0 k [.ref 46, .int a1] (μ, (g_rfX t s)) (fun r1 σ1 => r1 = some (.int z) ∧ σ1 = (μ, (g_rfX t s))) := by
  unfold f_X8_wordEnd at h
  refine g_met 1 (by decide) rfl rfl (Nat.le_of_ble_eq_true rfl) ?_
  refine g_iload_n dX8_wordEnd_0 rfl ?_
  refine g_ic1 dX8_wordEnd_1 ?_
  refine g_iadd dX8_wordEnd_2 ?_
  obtain ⟨x1, ex1, h⟩ := g_let h
  refine g_top ex1 ?_
  refine g_istore_2 rfl (Nat.le_of_ble_eq_true rfl) dX8_wordEnd_3 ?_
  refine g_aload_n dX8_wordEnd_4 rfl ?_
  refine m_getR fl_X8_9 rfl rfl rfl dX8_wordEnd_5 ?_
  refine g_iload_n dX8_wordEnd_8 rfl ?_
  obtain ⟨x2, qx2, h⟩ := g_bind h
  refine m_iald rfl qx2 dX8_wordEnd_9 ?_
  refine m_cS mt_X8_isLetter ml_X8_65 ms_X8_isLetter dX8_wordEnd_10 (k_X8_isLetter rfl) rfl rfl (by decide) ⟨Nat.le_refl _, Nat.le_refl _⟩ (Nat.le_of_ble_eq_true rfl) ?_
  refine g_if_eq 42 (by decide) dX8_wordEnd_13 (fun c3 => ?_) (fun c3 => ?_)
  · have h := g_ifp c3 h
    refine g_aload_n dX8_wordEnd_42 rfl ?_
    refine m_getR fl_X8_9 rfl rfl rfl dX8_wordEnd_43 ?_
    refine g_iload_n dX8_wordEnd_46 rfl ?_
    obtain ⟨x4, qx4, h⟩ := g_bind h
    refine m_iald rfl qx4 dX8_wordEnd_47 ?_
    refine m_cS mt_X8_isDigit ml_X8_69 ms_X8_isDigit dX8_wordEnd_48 (k_X8_isDigit rfl) rfl rfl (by decide) ⟨Nat.le_refl _, Nat.le_refl _⟩ (Nat.le_of_ble_eq_true rfl) ?_
    refine g_if_eq 80 (by decide) dX8_wordEnd_51 (fun c5 => ?_) (fun c5 => ?_)
    · have h := g_ifp c5 h
      refine g_iload_n dX8_wordEnd_80 rfl ?_
      obtain rfl := Option.some.inj h
      exact g_iret rfl (Nat.le_refl _) rfl dX8_wordEnd_81 ⟨rfl, rfl⟩
    · have h := g_ifn c5 h
      obtain ⟨x6, q7, h⟩ := g_bind h
      refine g_less _ (g_subS (g_subN (g_subS g_sub0))) (k_X8_wordEnd_L54 _ _ _ _ q7 ?_)
      refine g_iload_n dX8_wordEnd_80 rfl ?_
      obtain rfl := Option.some.inj h
      exact g_iret rfl (Nat.le_refl _) rfl dX8_wordEnd_81 ⟨rfl, rfl⟩
  · have h := g_ifn c3 h
    obtain ⟨x8, q9, h⟩ := g_bind h
    refine g_less _ (g_subS (g_subN (g_subS g_sub0))) (k_X8_wordEnd_L16 _ _ _ _ q9 ?_)
    refine g_iload_n dX8_wordEnd_80 rfl ?_
    obtain rfl := Option.some.inj h
    exact g_iret rfl (Nat.le_refl _) rfl dX8_wordEnd_81 ⟨rfl, rfl⟩
set_option maxRecDepth 100000 in
set_option maxHeartbeats 4000000 in
theorem k_X8_isName_L11 {D : va_G} {cA : Nat → ClassId} {b b2 k : Nat} {dyn : Nat → Nat} {t s : Nat} {Q : Option Value → g_S → Prop} {N : Nat} : ∀ (n : Nat) (x_1 : Int32) (x_2 : Int32) (x_3 : Int32) (x_4 : Int32) (μ : g_M) (z : (Int32) ⊕ (Unit)), f_X8_isName_L11 N n x_1 x_2 x_3 x_4 μ = some z → (∀ q : Int32, z = .inl q → Q (some (.int q)) (μ, (g_rfX t s))) → (z = .inr () → g_V (g_XX D cA b b2 dyn) Y_X8_isName 6 0 0 Q k 0 0 65 [none, none, none, none, none, none] [] (μ, (g_rfX t s))) → g_V (g_XX D cA b b2 dyn) Y_X8_isName 6 0 0 Q k 0 0 11 [some (.ref 46), some (.int x_1), some (.int x_2), some (.int x_3), some (.int x_4), none] [] (μ, (g_rfX t s)) := by
  intro n
  induction n with
  | zero =>
    intro x_1 x_2 x_3 x_4 μ z h
    rw [f_X8_isName_L11] at h
    cases h
  | succ n ih =>
    intro x_1 x_2 x_3 x_4 μ z h hr hc
    rw [f_X8_isName_L11] at h
    refine g_iload dX8_isName_11 rfl ?_
    refine g_bipush (v := 8) dX8_isName_13 (by decide) ?_
    refine g_icmp_ge 65 (by decide) dX8_isName_15 (fun c2 => ?_) (fun c2 => ?_)
    · have h := g_ifp c2 h
      obtain rfl := Option.some.inj h
      exact g_less _ (g_subN (g_subN (g_subN (g_subN (g_subN (g_subN g_sub0)))))) (hc  rfl)
    · have h := g_ifn c2 h
      refine g_iload dX8_isName_18 rfl ?_
      refine g_iload_n dX8_isName_20 rfl ?_
      refine g_icmp_ge 36 (by decide) dX8_isName_21 (fun c3 => ?_) (fun c3 => ?_)
      · have h := g_ifp c3 h
        refine g_bipush (v := 32) dX8_isName_36 (by decide) ?_
        refine g_istore_5 rfl (Nat.le_of_ble_eq_true rfl) dX8_isName_38 ?_
        obtain ⟨x4, qx4, h⟩ := g_bind h
        refine m_chr (by decide) rfl rfl qx4 ?_
        refine g_iload dX8_isName_52 rfl ?_
        refine g_icmp_eq 59 (by decide) dX8_isName_54 (fun c5 => ?_) (fun c5 => ?_)
        · have h := g_ifp c5 h
          refine g_iinc_4 (v := 1) rfl (by decide) (Nat.le_of_ble_eq_true rfl) dX8_isName_59 ?_
          refine g_goto 11 (by decide) dX8_isName_62 ?_
          exact g_less _ (g_subS (g_subS (g_subS (g_subS (g_subS (g_subN g_sub0)))))) (ih _ _ _ _ _ _ h hr hc)
        · have h := g_ifn c5 h
          refine g_ic0 dX8_isName_57 ?_
          obtain rfl := Option.some.inj h
          exact g_zret rfl (Nat.le_refl _) rfl rfl dX8_isName_58 (hr _ rfl)
      · have h := g_ifn c3 h
        refine g_aload_n dX8_isName_24 rfl ?_
        refine m_getR fl_X8_9 rfl rfl rfl dX8_isName_25 ?_
        refine g_iload_n dX8_isName_28 rfl ?_
        refine g_iload dX8_isName_29 rfl ?_
        refine g_iadd dX8_isName_31 ?_
        obtain ⟨x6, qx6, h⟩ := g_bind h
        refine m_iald rfl qx6 dX8_isName_32 ?_
        refine g_goto 38 (by decide) dX8_isName_33 ?_
        refine g_istore_5 rfl (Nat.le_of_ble_eq_true rfl) dX8_isName_38 ?_
        obtain ⟨x7, qx7, h⟩ := g_bind h
        refine m_chr (by decide) rfl rfl qx7 ?_
        refine g_iload dX8_isName_52 rfl ?_
        refine g_icmp_eq 59 (by decide) dX8_isName_54 (fun c8 => ?_) (fun c8 => ?_)
        · have h := g_ifp c8 h
          refine g_iinc_4 (v := 1) rfl (by decide) (Nat.le_of_ble_eq_true rfl) dX8_isName_59 ?_
          refine g_goto 11 (by decide) dX8_isName_62 ?_
          exact g_less _ (g_subS (g_subS (g_subS (g_subS (g_subS (g_subN g_sub0)))))) (ih _ _ _ _ _ _ h hr hc)
        · have h := g_ifn c8 h
          refine g_ic0 dX8_isName_57 ?_
          obtain rfl := Option.some.inj h
          exact g_zret rfl (Nat.le_refl _) rfl rfl dX8_isName_58 (hr _ rfl)
set_option maxRecDepth 100000 in
set_option maxHeartbeats 4000000 in
theorem k_X8_isName {D : va_G} {cA : Nat → ClassId} {b b2 k : Nat} {dyn : Nat → Nat} {t s : Nat} {N : Nat} {a1 : Int32} {a2 : Int32} {a3 : Int32} {μ : g_M} {z : Int32} (h : f_X8_isName N a1 a2 a3 μ = some z) : g_K (g_XX D cA b b2 dyn) yX8_isName Y_X8_isName 6 0 0 k [.ref 46, .int a1, .int a2, .int a3] (μ, (g_rfX t s)) (fun r1 σ1 => r1 = some (.int z) ∧ σ1 = (μ, (g_rfX t s))) := by
  unfold f_X8_isName at h
  refine g_met 2 (by decide) rfl rfl (Nat.le_of_ble_eq_true rfl) ?_
  refine g_iload_n dX8_isName_0 rfl ?_
  refine g_bipush (v := 8) dX8_isName_1 (by decide) ?_
  refine g_icmp_le 8 (by decide) dX8_isName_3 (fun c1 => ?_) (fun c1 => ?_)
  · have h := g_ifp c1 h
    refine g_ic0 dX8_isName_8 ?_
    refine g_istore_4 rfl (Nat.le_of_ble_eq_true rfl) dX8_isName_9 ?_
    obtain ⟨w3, q2, h⟩ := g_bind h
    refine g_less _ (g_subS (g_subS (g_subS (g_subS (g_subS (g_subN g_sub0)))))) (k_X8_isName_L11 _ _ _ _ _ _ _ q2 ?_ ?_)
    · intro q0 e0
      subst e0
      cases h
      exact ⟨rfl, rfl⟩
    · intro  e0
      subst e0
      try dsimp only at h
      refine g_ic1 dX8_isName_65 ?_
      obtain rfl := Option.some.inj h
      exact g_zret rfl (Nat.le_refl _) rfl rfl dX8_isName_66 ⟨rfl, rfl⟩
  · have h := g_ifn c1 h
    refine g_ic0 dX8_isName_6 ?_
    obtain rfl := Option.some.inj h
    exact g_zret rfl (Nat.le_refl _) rfl rfl dX8_isName_7 ⟨rfl, rfl⟩
set_option maxRecDepth 100000 in
set_option maxHeartbeats 4000000 in
theorem k_X8_nameCode_L2 {D : va_G} {cA : Nat → ClassId} {b b2 k : Nat} {dyn : Nat → Nat} {t s : Nat} {Q : Option Value → g_S → Prop} {N : Nat} : ∀ (n : Nat) (x_1 : Int32) (x_2 : Int32) (x_3 : Int32) (μ : g_M) (z : (Int32) ⊕ (Unit)), f_X8_nameCode_L2 N n x_1 x_2 x_3 μ = some z → (∀ q : Int32, z = .inl q → Q (some (.int q)) (μ, (g_rfX t s))) → (z = .inr () → g_V (g_XX D cA b b2 dyn) Y_X8_nameCode 7 0 0 Q k 0 0 26 [none, none, none, none] [] (μ, (g_rfX t s))) → g_V (g_XX D cA b b2 dyn) Y_X8_nameCode 7 0 0 Q k 0 0 2 [some (.ref 46), some (.int x_1), some (.int x_2), some (.int x_3)] [] (μ, (g_rfX t s)) := by
  intro n
  induction n with
  | zero =>
    intro x_1 x_2 x_3 μ z h
    rw [f_X8_nameCode_L2] at h
    cases h
  | succ n ih =>
    intro x_1 x_2 x_3 μ z h hr hc
    rw [f_X8_nameCode_L2] at h
    refine g_iload_n dX8_nameCode_2 rfl ?_
    refine g_bipush (v := 18) dX8_nameCode_3 (by decide) ?_
    refine g_icmp_ge 26 (by decide) dX8_nameCode_5 (fun c1 => ?_) (fun c1 => ?_)
    · have h := g_ifp c1 h
      obtain rfl := Option.some.inj h
      exact g_less _ (g_subN (g_subN (g_subN (g_subN g_sub0)))) (hc  rfl)
    · have h := g_ifn c1 h
      refine g_aload_n dX8_nameCode_8 rfl ?_
      refine g_iload_n dX8_nameCode_9 rfl ?_
      refine g_iload_n dX8_nameCode_10 rfl ?_
      refine g_iload_n dX8_nameCode_11 rfl ?_
      obtain ⟨x2, q3, h⟩ := g_bind h
      refine m_cV mt_X8_isName ml_X8_75 mv_X8_isName dX8_nameCode_12 (k_X8_isName q3) rfl rfl rfl rfl (by decide) ⟨Nat.le_refl _, Nat.le_refl _⟩ (Nat.le_of_ble_eq_true rfl) ?_
      refine g_if_eq 20 (by decide) dX8_nameCode_15 (fun c4 => ?_) (fun c4 => ?_)
      · have h := g_ifp c4 h
        refine g_iinc_3 (v := 1) rfl (by decide) (Nat.le_of_ble_eq_true rfl) dX8_nameCode_20 ?_
        refine g_goto 2 (by decide) dX8_nameCode_23 ?_
        exact g_less _ (g_subS (g_subS (g_subS (g_subS g_sub0)))) (ih _ _ _ _ _ h hr hc)
      · have h := g_ifn c4 h
        refine g_iload_n dX8_nameCode_18 rfl ?_
        obtain rfl := Option.some.inj h
        exact g_iret rfl (Nat.le_refl _) rfl dX8_nameCode_19 (hr _ rfl)
set_option maxRecDepth 100000 in
set_option maxHeartbeats 4000000 in
theorem k_X8_nameCode {D : va_G} {cA : Nat → ClassId} {b b2 k : Nat} {dyn : Nat → Nat} {t s : Nat} {N : Nat} {a1 : Int32} {a2 : Int32} {μ : g_M} {z : Int32} (h : f_X8_nameCode N a1 a2 μ = some z) : g_K (g_XX D cA b b2 dyn) yX8_nameCode Y_X8_nameCode 7 0 0 k [.ref 46, .int a1, .int a2] (μ, (g_rfX t s)) (fun r1 σ1 => r1 = some (.int z) ∧ σ1 = (μ, (g_rfX t s))) := by
  unfold f_X8_nameCode at h
  refine g_met 1 (by decide) rfl rfl (Nat.le_of_ble_eq_true rfl) ?_
  refine g_ic0 dX8_nameCode_0 ?_
  refine g_istore_3 rfl (Nat.le_of_ble_eq_true rfl) dX8_nameCode_1 ?_
  obtain ⟨w2, q1, h⟩ := g_bind h
  refine g_less _ (g_subS (g_subS (g_subS (g_subS g_sub0)))) (k_X8_nameCode_L2 _ _ _ _ _ _ q1 ?_ ?_)
  · intro q0 e0
    subst e0
    cases h
    exact ⟨rfl, rfl⟩
  · intro  e0
    subst e0
    try dsimp only at h
    refine g_bipush (v := 25) dX8_nameCode_26 (by decide) ?_
    obtain rfl := Option.some.inj h
    exact g_iret rfl (Nat.le_refl _) rfl dX8_nameCode_28 ⟨rfl, rfl⟩
set_option maxRecDepth 100000 in
set_option maxHeartbeats 4000000 in
theorem k_X8_codeOf {D : va_G} {cA : Nat → ClassId} {b b2 k : Nat} {dyn : Nat → Nat} {t s : Nat} {N : Nat} {a1 : Int32} {a2 : Int32} {μ : g_M} {z : Int32} (h : f_X8_codeOf N a1 a2 μ = some z) : g_K (g_XX D cA b b2 dyn) yX8_codeOf Y_X8_codeOf 8 0 0 k [.ref 46, .int a1, .int a2] (μ, (g_rfX t s)) (fun r1 σ1 => r1 = some (.int z) ∧ σ1 = (μ, (g_rfX t s))) := by
  unfold f_X8_codeOf at h
  refine g_met 0 (by decide) rfl rfl (Nat.le_of_ble_eq_true rfl) ?_
  refine g_aload_n dX8_codeOf_0 rfl ?_
  refine m_getR fl_X8_9 rfl rfl rfl dX8_codeOf_1 ?_
  refine g_iload_n dX8_codeOf_4 rfl ?_
  obtain ⟨x1, qx1, h⟩ := g_bind h
  refine m_iald rfl qx1 dX8_codeOf_5 ?_
  refine m_cS mt_X8_isLetter ml_X8_65 ms_X8_isLetter dX8_codeOf_6 (k_X8_isLetter rfl) rfl rfl (by decide) ⟨Nat.le_refl _, Nat.le_refl _⟩ (Nat.le_of_ble_eq_true rfl) ?_
  refine g_if_eq 21 (by decide) dX8_codeOf_9 (fun c2 => ?_) (fun c2 => ?_)
  · have h := g_ifp c2 h
    refine g_aload_n dX8_codeOf_21 rfl ?_
    refine m_getR fl_X8_9 rfl rfl rfl dX8_codeOf_22 ?_
    refine g_iload_n dX8_codeOf_25 rfl ?_
    obtain ⟨x3, qx3, h⟩ := g_bind h
    refine m_iald rfl qx3 dX8_codeOf_26 ?_
    refine m_cS mt_X8_isDigit ml_X8_69 ms_X8_isDigit dX8_codeOf_27 (k_X8_isDigit rfl) rfl rfl (by decide) ⟨Nat.le_refl _, Nat.le_refl _⟩ (Nat.le_of_ble_eq_true rfl) ?_
    refine g_if_eq 48 (by decide) dX8_codeOf_30 (fun c4 => ?_) (fun c4 => ?_)
    · have h := g_ifp c4 h
      refine g_aload_n dX8_codeOf_48 rfl ?_
      refine m_getR fl_X8_9 rfl rfl rfl dX8_codeOf_49 ?_
      refine g_iload_n dX8_codeOf_52 rfl ?_
      obtain ⟨x5, qx5, h⟩ := g_bind h
      refine m_iald rfl qx5 dX8_codeOf_53 ?_
      by_cases c6 : x5 = 40
      · have h := g_ifp c6 h
        refine m_look (off := 70) 40 124 c6 dX8_codeOf_54 (by decide) (by decide) (by decide) ?_
        refine g_bipush (v := 23) dX8_codeOf_124 (by decide) ?_
        obtain rfl := Option.some.inj h
        exact g_iret rfl (Nat.le_refl _) rfl dX8_codeOf_126 ⟨rfl, rfl⟩
      have h := g_ifn c6 h
      by_cases c7 : x5 = 41
      · have h := g_ifp c7 h
        refine m_look (off := 73) 41 127 c7 dX8_codeOf_54 (by decide) (by decide) (by decide) ?_
        refine g_bipush (v := 24) dX8_codeOf_127 (by decide) ?_
        obtain rfl := Option.some.inj h
        exact g_iret rfl (Nat.le_refl _) rfl dX8_codeOf_129 ⟨rfl, rfl⟩
      have h := g_ifn c7 h
      by_cases c8 : x5 = 59
      · have h := g_ifp c8 h
        refine m_look (off := 58) 59 112 c8 dX8_codeOf_54 (by decide) (by decide) (by decide) ?_
        refine g_bipush (v := 19) dX8_codeOf_112 (by decide) ?_
        obtain rfl := Option.some.inj h
        exact g_iret rfl (Nat.le_refl _) rfl dX8_codeOf_114 ⟨rfl, rfl⟩
      have h := g_ifn c8 h
      by_cases c9 : x5 = 60
      · have h := g_ifp c9 h
        refine m_look (off := 61) 60 115 c9 dX8_codeOf_54 (by decide) (by decide) (by decide) ?_
        refine g_bipush (v := 20) dX8_codeOf_115 (by decide) ?_
        obtain rfl := Option.some.inj h
        exact g_iret rfl (Nat.le_refl _) rfl dX8_codeOf_117 ⟨rfl, rfl⟩
      have h := g_ifn c9 h
      by_cases c10 : x5 = 61
      · have h := g_ifp c10 h
        refine m_look (off := 64) 61 118 c10 dX8_codeOf_54 (by decide) (by decide) (by decide) ?_
        refine g_bipush (v := 21) dX8_codeOf_118 (by decide) ?_
        obtain rfl := Option.some.inj h
        exact g_iret rfl (Nat.le_refl _) rfl dX8_codeOf_120 ⟨rfl, rfl⟩
      have h := g_ifn c10 h
      by_cases c11 : x5 = 62
      · have h := g_ifp c11 h
        refine m_look (off := 67) 62 121 c11 dX8_codeOf_54 (by decide) (by decide) (by decide) ?_
        refine g_bipush (v := 22) dX8_codeOf_121 (by decide) ?_
        obtain rfl := Option.some.inj h
        exact g_iret rfl (Nat.le_refl _) rfl dX8_codeOf_123 ⟨rfl, rfl⟩
      have h := g_ifn c11 h
      refine g_lookup (off := 76) 130 dX8_codeOf_54 (by decide) (by have nc6 := m_ne 40 40 c6 (by decide); have nc7 := m_ne 41 41 c7 (by decide); have nc8 := m_ne 59 59 c8 (by decide); have nc9 := m_ne 60 60 c9 (by decide); have nc10 := m_ne 61 61 c10 (by decide); have nc11 := m_ne 62 62 c11 (by decide); simp [Op.lookupswitch.offset, List.find?, Ne.symm nc6, Ne.symm nc7, Ne.symm nc8, Ne.symm nc9, Ne.symm nc10, Ne.symm nc11]) (by decide) ?_
      refine g_bipush (v := 25) dX8_codeOf_130 (by decide) ?_
      obtain rfl := Option.some.inj h
      exact g_iret rfl (Nat.le_refl _) rfl dX8_codeOf_132 ⟨rfl, rfl⟩
    · have h := g_ifn c4 h
      refine g_iload_n dX8_codeOf_33 rfl ?_
      refine g_iload_n dX8_codeOf_34 rfl ?_
      refine g_isub dX8_codeOf_35 ?_
      refine g_ic4 dX8_codeOf_36 ?_
      refine g_icmp_gt 45 (by decide) dX8_codeOf_37 (fun c12 => ?_) (fun c12 => ?_)
      · have h := g_ifp c12 h
        refine g_bipush (v := 25) dX8_codeOf_45 (by decide) ?_
        obtain rfl := Option.some.inj h
        exact g_iret rfl (Nat.le_refl _) rfl dX8_codeOf_47 ⟨rfl, rfl⟩
      · have h := g_ifn c12 h
        refine g_bipush (v := 18) dX8_codeOf_40 (by decide) ?_
        refine g_goto 47 (by decide) dX8_codeOf_42 ?_
        obtain rfl := Option.some.inj h
        exact g_iret rfl (Nat.le_refl _) rfl dX8_codeOf_47 ⟨rfl, rfl⟩
  · have h := g_ifn c2 h
    refine g_aload_n dX8_codeOf_12 rfl ?_
    refine g_iload_n dX8_codeOf_13 rfl ?_
    refine g_iload_n dX8_codeOf_14 rfl ?_
    refine g_iload_n dX8_codeOf_15 rfl ?_
    refine g_isub dX8_codeOf_16 ?_
    obtain ⟨x13, q14, h⟩ := g_bind h
    refine m_cV mt_X8_nameCode ml_X8_72 mv_X8_nameCode dX8_codeOf_17 (k_X8_nameCode q14) rfl rfl rfl rfl (by decide) ⟨Nat.le_refl _, Nat.le_refl _⟩ (Nat.le_of_ble_eq_true rfl) ?_
    obtain rfl := Option.some.inj h
    exact g_iret rfl (Nat.le_refl _) rfl dX8_codeOf_20 ⟨rfl, rfl⟩
