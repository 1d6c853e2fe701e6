theorem wm_nw : ((([] : List Value).map fun v => v.category).sum) + (nativeFrameWords "java/lang/System" "arraycopy" 5 + 11) ≤ 40 * 1 := by decide +kernel
theorem g_rfX_a (t s : Nat) : g_sef (g_rfX t s) 23 10 (some t) = g_rfX t t := by
  funext i j
  show (if i = 23 ∧ j = 10 then some t else g_rfX t s i j) = g_rfX t t i j
  unfold g_rfX
  by_cases e : i = 23 ∧ j = 10
  · rw [if_pos e, if_pos (by omega), if_neg (by omega), if_pos e]
  · rw [if_neg e]
    by_cases e1 : i < 63
    · rw [if_pos e1, if_pos e1]
      by_cases e2 : i = 1 ∧ j = 10
      · rw [if_pos e2, if_pos e2]
      · rw [if_neg e2, if_neg e2, if_neg e, if_neg e]
    · rw [if_neg e1, if_neg e1]
theorem g_rfX_b (t s : Nat) : g_sef (g_rfX t s) 1 10 (some s) = g_rfX s s := by
  funext i j
  show (if i = 1 ∧ j = 10 then some s else g_rfX t s i j) = g_rfX s s i j
  unfold g_rfX
  by_cases e : i = 1 ∧ j = 10
  · rw [if_pos e, if_pos (by omega), if_pos e]
  · rw [if_neg e]
    by_cases e1 : i < 63
    · rw [if_pos e1, if_pos e1, if_neg e, if_neg e]
    · rw [if_neg e1, if_neg e1]
theorem k_X9_copyFrom_a {D : va_G} {cA : Nat → ClassId} {b b2 k : Nat} {dyn : Nat → Nat} {t s : Nat} {μ : g_M} : g_K (g_XX D cA b b2 dyn) yX9_copyFrom Y_X9_copyFrom 1 0 0 k [.ref 23, .ref 1] (μ, g_rfX t s) (fun r1 σ1 => r1 = none ∧ σ1 = (pp_cfS 1 23 (pp_cf7 1 23 μ), g_rfX t t)) := by
  refine g_met 0 (by decide) rfl rfl (Nat.le_of_ble_eq_true rfl) ?_
  refine g_aload_n dX9_copyFrom_0 rfl ?_
  refine m_getR fl_X9_33 rfl rfl rfl dX9_copyFrom_1 ?_
  refine g_ic0 dX9_copyFrom_4 ?_
  refine g_aload_n dX9_copyFrom_5 rfl ?_
  refine m_getR fl_X9_33 rfl rfl rfl dX9_copyFrom_6 ?_
  refine g_ic0 dX9_copyFrom_9 ?_
  refine g_bipush (v := 6) dX9_copyFrom_10 (by decide) ?_
  refine m_copy (a0 := 9) (a := 31) (n0 := 6) (n1 := 6) (N := 6) mj_X9_77 rfl rfl rfl (by decide) (by decide) (by decide) wm_nw (by decide) dX9_copyFrom_12 ?_
  refine g_aload_n dX9_copyFrom_15 rfl ?_
  refine m_getR fl_X9_37 rfl rfl rfl dX9_copyFrom_16 ?_
  refine g_ic0 dX9_copyFrom_19 ?_
  refine g_aload_n dX9_copyFrom_20 rfl ?_
  refine m_getR fl_X9_37 rfl rfl rfl dX9_copyFrom_21 ?_
  refine g_ic0 dX9_copyFrom_24 ?_
  refine g_bipush (v := 6) dX9_copyFrom_25 (by decide) ?_
  refine m_copy (a0 := 10) (a := 32) (n0 := 6) (n1 := 6) (N := 6) mj_X9_77 rfl rfl rfl (by decide) (by decide) (by decide) wm_nw (by decide) dX9_copyFrom_27 ?_
  refine g_aload_n dX9_copyFrom_30 rfl ?_
  refine m_getR fl_X9_40 rfl rfl rfl dX9_copyFrom_31 ?_
  refine g_ic0 dX9_copyFrom_34 ?_
  refine g_aload_n dX9_copyFrom_35 rfl ?_
  refine m_getR fl_X9_40 rfl rfl rfl dX9_copyFrom_36 ?_
  refine g_ic0 dX9_copyFrom_39 ?_
  refine g_bipush (v := 6) dX9_copyFrom_40 (by decide) ?_
  refine m_copy (a0 := 11) (a := 33) (n0 := 6) (n1 := 6) (N := 6) mj_X9_77 rfl rfl rfl (by decide) (by decide) (by decide) wm_nw (by decide) dX9_copyFrom_42 ?_
  refine g_aload_n dX9_copyFrom_45 rfl ?_
  refine m_getR fl_X9_43 rfl rfl rfl dX9_copyFrom_46 ?_
  refine g_ic0 dX9_copyFrom_49 ?_
  refine g_aload_n dX9_copyFrom_50 rfl ?_
  refine m_getR fl_X9_43 rfl rfl rfl dX9_copyFrom_51 ?_
  refine g_ic0 dX9_copyFrom_54 ?_
  refine g_bipush (v := 6) dX9_copyFrom_55 (by decide) ?_
  refine m_copy (a0 := 12) (a := 34) (n0 := 6) (n1 := 6) (N := 6) mj_X9_77 rfl rfl rfl (by decide) (by decide) (by decide) wm_nw (by decide) dX9_copyFrom_57 ?_
  refine g_aload_n dX9_copyFrom_60 rfl ?_
  refine m_getR fl_X9_46 rfl rfl rfl dX9_copyFrom_61 ?_
  refine g_ic0 dX9_copyFrom_64 ?_
  refine g_aload_n dX9_copyFrom_65 rfl ?_
  refine m_getR fl_X9_46 rfl rfl rfl dX9_copyFrom_66 ?_
  refine g_ic0 dX9_copyFrom_69 ?_
  refine g_aload_n dX9_copyFrom_70 rfl ?_
  refine m_getR fl_X9_46 rfl rfl rfl dX9_copyFrom_71 ?_
  refine g_alen (n := 36) rfl dX9_copyFrom_74 ?_
  refine m_copy (a0 := 13) (a := 35) (n0 := 36) (n1 := 36) (N := 36) mj_X9_77 rfl rfl rfl (by decide) (by decide) (by decide) wm_nw (by decide) dX9_copyFrom_75 ?_
  refine g_aload_n dX9_copyFrom_78 rfl ?_
  refine m_getR fl_X9_49 rfl rfl rfl dX9_copyFrom_79 ?_
  refine g_ic0 dX9_copyFrom_82 ?_
  refine g_aload_n dX9_copyFrom_83 rfl ?_
  refine m_getR fl_X9_49 rfl rfl rfl dX9_copyFrom_84 ?_
  refine g_ic0 dX9_copyFrom_87 ?_
  refine g_aload_n dX9_copyFrom_88 rfl ?_
  refine m_getR fl_X9_49 rfl rfl rfl dX9_copyFrom_89 ?_
  refine g_alen (n := 102) rfl dX9_copyFrom_92 ?_
  refine m_copy (a0 := 14) (a := 36) (n0 := 102) (n1 := 102) (N := 102) mj_X9_77 rfl rfl rfl (by decide) (by decide) (by decide) wm_nw (by decide) dX9_copyFrom_93 ?_
  refine g_aload_n dX9_copyFrom_96 rfl ?_
  refine m_getR fl_X9_60 rfl rfl rfl dX9_copyFrom_97 ?_
  refine g_ic0 dX9_copyFrom_100 ?_
  refine g_aload_n dX9_copyFrom_101 rfl ?_
  refine m_getR fl_X9_60 rfl rfl rfl dX9_copyFrom_102 ?_
  refine g_ic0 dX9_copyFrom_105 ?_
  refine g_aload_n dX9_copyFrom_106 rfl ?_
  refine m_getR fl_X9_60 rfl rfl rfl dX9_copyFrom_107 ?_
  refine g_alen (n := 24) rfl dX9_copyFrom_110 ?_
  refine m_copy (a0 := 17) (a := 39) (n0 := 24) (n1 := 24) (N := 24) mj_X9_77 rfl rfl rfl (by decide) (by decide) (by decide) wm_nw (by decide) dX9_copyFrom_111 ?_
  refine g_aload_n dX9_copyFrom_114 rfl ?_
  refine g_aload_n dX9_copyFrom_115 rfl ?_
  refine m_getR (r := t) fl_X9_66 rfl rfl rfl dX9_copyFrom_116 ?_
  refine m_putR fl_X9_66 fw_9_10 rfl rfl rfl rfl dX9_copyFrom_119 ?_
  refine g_aload_n dX9_copyFrom_122 rfl ?_
  refine g_aload_n dX9_copyFrom_123 rfl ?_
  refine m_getI fl_X9_83 rfl rfl dX9_copyFrom_124 ?_
  refine m_putI' fl_X9_83 fw_9_11 rfl rfl rfl rfl dX9_copyFrom_127 ?_
  refine g_aload_n dX9_copyFrom_130 rfl ?_
  refine g_aload_n dX9_copyFrom_131 rfl ?_
  refine m_getI fl_X9_86 rfl rfl dX9_copyFrom_132 ?_
  refine m_putI' fl_X9_86 fw_9_12 rfl rfl rfl rfl dX9_copyFrom_135 ?_
  refine g_aload_n dX9_copyFrom_138 rfl ?_
  refine g_aload_n dX9_copyFrom_139 rfl ?_
  refine m_getI fl_X9_89 rfl rfl dX9_copyFrom_140 ?_
  refine m_putI' fl_X9_89 fw_9_13 rfl rfl rfl rfl dX9_copyFrom_143 ?_
  refine g_aload_n dX9_copyFrom_146 rfl ?_
  refine g_aload_n dX9_copyFrom_147 rfl ?_
  refine m_getI fl_X9_70 rfl rfl dX9_copyFrom_148 ?_
  refine m_putI' fl_X9_70 fw_9_14 rfl rfl rfl rfl dX9_copyFrom_151 ?_
  refine g_aload_n dX9_copyFrom_154 rfl ?_
  refine g_aload_n dX9_copyFrom_155 rfl ?_
  refine m_getI fl_X9_92 rfl rfl dX9_copyFrom_156 ?_
  refine m_putI' fl_X9_92 fw_9_15 rfl rfl rfl rfl dX9_copyFrom_159 ?_
  refine g_aload_n dX9_copyFrom_162 rfl ?_
  refine g_aload_n dX9_copyFrom_163 rfl ?_
  refine m_getI fl_X9_74 rfl rfl dX9_copyFrom_164 ?_
  refine m_putI' fl_X9_74 fw_9_16 rfl rfl rfl rfl dX9_copyFrom_167 ?_
  refine g_aload_n dX9_copyFrom_170 rfl ?_
  refine g_aload_n dX9_copyFrom_171 rfl ?_
  refine m_getI fl_X9_95 rfl rfl dX9_copyFrom_172 ?_
  refine m_putI' fl_X9_95 fw_9_17 rfl rfl rfl rfl dX9_copyFrom_175 ?_
  rw [g_rfX_a]
  exact g_vret rfl (Nat.le_refl _) rfl dX9_copyFrom_178 ⟨rfl, rfl⟩
theorem k_X9_copyFrom_b {D : va_G} {cA : Nat → ClassId} {b b2 k : Nat} {dyn : Nat → Nat} {t s : Nat} {μ : g_M} : g_K (g_XX D cA b b2 dyn) yX9_copyFrom Y_X9_copyFrom 1 0 0 k [.ref 1, .ref 23] (μ, g_rfX t s) (fun r1 σ1 => r1 = none ∧ σ1 = (pp_cfS 23 1 (pp_cf7 23 1 μ), g_rfX s s)) := by
  refine g_met 0 (by decide) rfl rfl (Nat.le_of_ble_eq_true rfl) ?_
  refine g_aload_n dX9_copyFrom_0 rfl ?_
  refine m_getR fl_X9_33 rfl rfl rfl dX9_copyFrom_1 ?_
  refine g_ic0 dX9_copyFrom_4 ?_
  refine g_aload_n dX9_copyFrom_5 rfl ?_
  refine m_getR fl_X9_33 rfl rfl rfl dX9_copyFrom_6 ?_
  refine g_ic0 dX9_copyFrom_9 ?_
  refine g_bipush (v := 6) dX9_copyFrom_10 (by decide) ?_
  refine m_copy (a0 := 31) (a := 9) (n0 := 6) (n1 := 6) (N := 6) mj_X9_77 rfl rfl rfl (by decide) (by decide) (by decide) wm_nw (by decide) dX9_copyFrom_12 ?_
  refine g_aload_n dX9_copyFrom_15 rfl ?_
  refine m_getR fl_X9_37 rfl rfl rfl dX9_copyFrom_16 ?_
  refine g_ic0 dX9_copyFrom_19 ?_
  refine g_aload_n dX9_copyFrom_20 rfl ?_
  refine m_getR fl_X9_37 rfl rfl rfl dX9_copyFrom_21 ?_
  refine g_ic0 dX9_copyFrom_24 ?_
  refine g_bipush (v := 6) dX9_copyFrom_25 (by decide) ?_
  refine m_copy (a0 := 32) (a := 10) (n0 := 6) (n1 := 6) (N := 6) mj_X9_77 rfl rfl rfl (by decide) (by decide) (by decide) wm_nw (by decide) dX9_copyFrom_27 ?_
  refine g_aload_n dX9_copyFrom_30 rfl ?_
  refine m_getR fl_X9_40 rfl rfl rfl dX9_copyFrom_31 ?_
  refine g_ic0 dX9_copyFrom_34 ?_
  refine g_aload_n dX9_copyFrom_35 rfl ?_
  refine m_getR fl_X9_40 rfl rfl rfl dX9_copyFrom_36 ?_
  refine g_ic0 dX9_copyFrom_39 ?_
  refine g_bipush (v := 6) dX9_copyFrom_40 (by decide) ?_
  refine m_copy (a0 := 33) (a := 11) (n0 := 6) (n1 := 6) (N := 6) mj_X9_77 rfl rfl rfl (by decide) (by decide) (by decide) wm_nw (by decide) dX9_copyFrom_42 ?_
  refine g_aload_n dX9_copyFrom_45 rfl ?_
  refine m_getR fl_X9_43 rfl rfl rfl dX9_copyFrom_46 ?_
  refine g_ic0 dX9_copyFrom_49 ?_
  refine g_aload_n dX9_copyFrom_50 rfl ?_
  refine m_getR fl_X9_43 rfl rfl rfl dX9_copyFrom_51 ?_
  refine g_ic0 dX9_copyFrom_54 ?_
  refine g_bipush (v := 6) dX9_copyFrom_55 (by decide) ?_
  refine m_copy (a0 := 34) (a := 12) (n0 := 6) (n1 := 6) (N := 6) mj_X9_77 rfl rfl rfl (by decide) (by decide) (by decide) wm_nw (by decide) dX9_copyFrom_57 ?_
  refine g_aload_n dX9_copyFrom_60 rfl ?_
  refine m_getR fl_X9_46 rfl rfl rfl dX9_copyFrom_61 ?_
  refine g_ic0 dX9_copyFrom_64 ?_
  refine g_aload_n dX9_copyFrom_65 rfl ?_
  refine m_getR fl_X9_46 rfl rfl rfl dX9_copyFrom_66 ?_
  refine g_ic0 dX9_copyFrom_69 ?_
  refine g_aload_n dX9_copyFrom_70 rfl ?_
  refine m_getR fl_X9_46 rfl rfl rfl dX9_copyFrom_71 ?_
  refine g_alen (n := 36) rfl dX9_copyFrom_74 ?_
  refine m_copy (a0 := 35) (a := 13) (n0 := 36) (n1 := 36) (N := 36) mj_X9_77 rfl rfl rfl (by decide) (by decide) (by decide) wm_nw (by decide) dX9_copyFrom_75 ?_
  refine g_aload_n dX9_copyFrom_78 rfl ?_
  refine m_getR fl_X9_49 rfl rfl rfl dX9_copyFrom_79 ?_
  refine g_ic0 dX9_copyFrom_82 ?_
  refine g_aload_n dX9_copyFrom_83 rfl ?_
  refine m_getR fl_X9_49 rfl rfl rfl dX9_copyFrom_84 ?_
  refine g_ic0 dX9_copyFrom_87 ?_
  refine g_aload_n dX9_copyFrom_88 rfl ?_
  refine m_getR fl_X9_49 rfl rfl rfl dX9_copyFrom_89 ?_
  refine g_alen (n := 102) rfl dX9_copyFrom_92 ?_
  refine m_copy (a0 := 36) (a := 14) (n0 := 102) (n1 := 102) (N := 102) mj_X9_77 rfl rfl rfl (by decide) (by decide) (by decide) wm_nw (by decide) dX9_copyFrom_93 ?_
  refine g_aload_n dX9_copyFrom_96 rfl ?_
  refine m_getR fl_X9_60 rfl rfl rfl dX9_copyFrom_97 ?_
  refine g_ic0 dX9_copyFrom_100 ?_
  refine g_aload_n dX9_copyFrom_101 rfl ?_
  refine m_getR fl_X9_60 rfl rfl rfl dX9_copyFrom_102 ?_
  refine g_ic0 dX9_copyFrom_105 ?_
  refine g_aload_n dX9_copyFrom_106 rfl ?_
  refine m_getR fl_X9_60 rfl rfl rfl dX9_copyFrom_107 ?_
  refine g_alen (n := 24) rfl dX9_copyFrom_110 ?_
  refine m_copy (a0 := 39) (a := 17) (n0 := 24) (n1 := 24) (N := 24) mj_X9_77 rfl rfl rfl (by decide) (by decide) (by decide) wm_nw (by decide) dX9_copyFrom_111 ?_
  refine g_aload_n dX9_copyFrom_114 rfl ?_
  refine g_aload_n dX9_copyFrom_115 rfl ?_
  refine m_getR (r := s) fl_X9_66 rfl rfl rfl dX9_copyFrom_116 ?_
  refine m_putR fl_X9_66 fw_9_10 rfl rfl rfl rfl dX9_copyFrom_119 ?_
  refine g_aload_n dX9_copyFrom_122 rfl ?_
  refine g_aload_n dX9_copyFrom_123 rfl ?_
  refine m_getI fl_X9_83 rfl rfl dX9_copyFrom_124 ?_
  refine m_putI' fl_X9_83 fw_9_11 rfl rfl rfl rfl dX9_copyFrom_127 ?_
  refine g_aload_n dX9_copyFrom_130 rfl ?_
  refine g_aload_n dX9_copyFrom_131 rfl ?_
  refine m_getI fl_X9_86 rfl rfl dX9_copyFrom_132 ?_
  refine m_putI' fl_X9_86 fw_9_12 rfl rfl rfl rfl dX9_copyFrom_135 ?_
  refine g_aload_n dX9_copyFrom_138 rfl ?_
  refine g_aload_n dX9_copyFrom_139 rfl ?_
  refine m_getI fl_X9_89 rfl rfl dX9_copyFrom_140 ?_
  refine m_putI' fl_X9_89 fw_9_13 rfl rfl rfl rfl dX9_copyFrom_143 ?_
  refine g_aload_n dX9_copyFrom_146 rfl ?_
  refine g_aload_n dX9_copyFrom_147 rfl ?_
  refine m_getI fl_X9_70 rfl rfl dX9_copyFrom_148 ?_
  refine m_putI' fl_X9_70 fw_9_14 rfl rfl rfl rfl dX9_copyFrom_151 ?_
  refine g_aload_n dX9_copyFrom_154 rfl ?_
  refine g_aload_n dX9_copyFrom_155 rfl ?_
  refine m_getI fl_X9_92 rfl rfl dX9_copyFrom_156 ?_
  refine m_putI' fl_X9_92 fw_9_15 rfl rfl rfl rfl dX9_copyFrom_159 ?_
  refine g_aload_n dX9_copyFrom_162 rfl ?_
  refine g_aload_n dX9_copyFrom_163 rfl ?_
  refine m_getI fl_X9_74 rfl rfl dX9_copyFrom_164 ?_
  refine m_putI' fl_X9_74 fw_9_16 rfl rfl rfl rfl dX9_copyFrom_167 ?_
  refine g_aload_n dX9_copyFrom_170 rfl ?_
  refine g_aload_n dX9_copyFrom_171 rfl ?_
  refine m_getI fl_X9_95 rfl rfl dX9_copyFrom_172 ?_
  refine m_putI' fl_X9_95 fw_9_17 rfl rfl rfl rfl dX9_copyFrom_175 ?_
  rw [g_rfX_b]
  exact g_vret rfl (Nat.le_refl _) rfl dX9_copyFrom_178 ⟨rfl, rfl⟩
theorem k_X11_keep {D : va_G} {cA : Nat → ClassId} {b b2 k : Nat} {dyn : Nat → Nat} {t s : Nat} {μ : g_M} : g_K (g_XX D cA b b2 dyn) yX11_keep Y_X11_keep 2 0 0 k [.ref 0] (μ, g_rfX t s) (fun r1 σ1 => r1 = some (.int 1) ∧ σ1 = (pp_kX μ, g_rfX t t)) := by
  refine g_met 0 (by decide) rfl rfl (Nat.le_of_ble_eq_true rfl) ?_
  refine g_aload_n dX11_keep_0 rfl ?_
  refine m_getR fl_X11_16 rfl rfl rfl dX11_keep_1 ?_
  refine g_aload_n dX11_keep_4 rfl ?_
  refine m_getR fl_X11_10 rfl rfl rfl dX11_keep_5 ?_
  refine m_cVv mt_X9_copyFrom ml_X11_346 mv_X9_copyFrom dX11_keep_8 (k_X9_copyFrom_a) rfl rfl rfl rfl (by decide) ⟨Nat.le_refl _, Nat.le_refl _⟩ (Nat.le_of_ble_eq_true rfl) ?_
  refine g_aload_n dX11_keep_11 rfl ?_
  refine g_ic1 dX11_keep_12 ?_
  refine m_putI' fl_X11_350 fw_11_12 rfl rfl rfl rfl dX11_keep_13 ?_
  refine g_ic1 dX11_keep_16 ?_
  exact g_iret rfl (Nat.le_refl _) rfl dX11_keep_17 ⟨rfl, rfl⟩
theorem k_X11_again0 {D : va_G} {cA : Nat → ClassId} {b b2 k : Nat} {dyn : Nat → Nat} {t s : Nat} {μ : g_M} (h0 : μ 0 12 = 0) : g_K (g_XX D cA b b2 dyn) yX11_again Y_X11_again 2 0 0 k [.ref 0] (μ, g_rfX t s) (fun r1 σ1 => r1 = some (.int (-3)) ∧ σ1 = (μ, g_rfX t s)) := by
  refine g_met 0 (by decide) rfl rfl (Nat.le_of_ble_eq_true rfl) ?_
  refine g_aload_n dX11_again_0 rfl ?_
  refine m_getI fl_X11_350 rfl rfl dX11_again_1 ?_
  refine g_if_ne 10 (by decide) dX11_again_4 (fun c1 => absurd h0 c1) (fun c1 => ?_)
  refine g_bipush (v := -3) dX11_again_7 (by decide) ?_
  exact g_iret rfl (Nat.le_refl _) rfl dX11_again_9 ⟨rfl, rfl⟩
theorem k_X11_again1 {D : va_G} {cA : Nat → ClassId} {b b2 k : Nat} {dyn : Nat → Nat} {t s : Nat} {μ : g_M} (h0 : μ 0 12 = 1) : g_K (g_XX D cA b b2 dyn) yX11_again Y_X11_again 2 0 0 k [.ref 0] (μ, g_rfX t s) (fun r1 σ1 => r1 = some (.int (pp_aX μ 1 11)) ∧ σ1 = (pp_aX μ, g_rfX s s)) := by
  refine g_met 0 (by decide) rfl rfl (Nat.le_of_ble_eq_true rfl) ?_
  refine g_aload_n dX11_again_0 rfl ?_
  refine m_getI fl_X11_350 rfl rfl dX11_again_1 ?_
  refine g_if_ne 10 (by decide) dX11_again_4 (fun c1 => ?_) (fun c1 => absurd (h0.symm.trans c1) (by decide))
  refine g_aload_n dX11_again_10 rfl ?_
  refine m_getR fl_X11_10 rfl rfl rfl dX11_again_11 ?_
  refine g_aload_n dX11_again_14 rfl ?_
  refine m_getR fl_X11_16 rfl rfl rfl dX11_again_15 ?_
  refine m_cVv mt_X9_copyFrom ml_X11_346 mv_X9_copyFrom dX11_again_18 (k_X9_copyFrom_b) rfl rfl rfl rfl (by decide) ⟨Nat.le_refl _, Nat.le_refl _⟩ (Nat.le_of_ble_eq_true rfl) ?_
  refine g_aload_n dX11_again_21 rfl ?_
  refine m_getR fl_X11_10 rfl rfl rfl dX11_again_22 ?_
  refine m_getI fl_X11_70 rfl rfl dX11_again_25 ?_
  exact g_iret rfl (Nat.le_refl _) rfl dX11_again_28 ⟨rfl, rfl⟩
