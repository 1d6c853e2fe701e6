section RU
variable {D : va_G} {cA : Nat → ClassId} {b b2 k : Nat} {dyn : Nat → Nat} {t s : Nat}
theorem k_X11_rules0 {N W : Nat} {w fa c : Int32} {μ μ1 μ5 : g_M} (hk : k % 5 = 0) (hd : dyn (k / 5) = 3 * W) (hW : W ≤ 200) (h1 : f_X8_splitTape N μ = some μ1) (h2 : μ1 45 4 = pp_i W) (h3 : pp_rtL N (63 + k) (3 * W) N 0 1 (pp_new (63 + k) (g_set (g_set μ1 45 6 0) 45 5 0)) = some (w, μ5)) (h4 : g_rd μ5 48 201 (μ5 45 5) = some fa) (h5 : g_rd μ5 47 201 (μ5 45 5) = some c) (h6 : w = 0 ∨ ¬ c = 26) : g_K (g_XX D cA b b2 dyn) yX11_rules Y_X11_rules 28 5 (30 + 3 * W) k [.ref 0] (μ, g_rfX t s) (fun r1 σ1 => r1 = some (.int (-100 - fa)) ∧ σ1 = (g_set μ5 45 7 fa, g_rfX t s)) := by
  refine g_met 1 (by decide) rfl rfl (Nat.le_of_ble_eq_true rfl) ?_
  refine g_aload_n dX11_rules_0 rfl ?_
  refine m_getR fl_X11_22 rfl rfl rfl dX11_rules_1 ?_
  refine g_callV (C := RX8) (T := TX8) mt_X8_readTape ml_X11_151 mv_X8_readTape rfl rfl dX11_rules_4 (k_X8_readTape hk hd hW h1 h2 h3 h4 h5) rfl rfl (by decide) ⟨Nat.le_refl _, by omega⟩ (Nat.le_of_ble_eq_true rfl) ?_
  rintro r2 σ2 ⟨rfl, rfl⟩
  have e : g_rt (63 + (k + 0)) w c = .null := by
    unfold g_rt
    rcases h6 with h6 | h6
    · rw [if_pos h6]
    · rw [if_neg h6]
      split <;> rfl
  rw [e]
  refine g_astore_1N rfl (Nat.le_of_ble_eq_true rfl) dX11_rules_7 ?_
  refine g_aload_nN dX11_rules_8 rfl ?_
  refine g_ifnonnullN dX11_rules_9 ?_
  refine g_bipush (v := -100) dX11_rules_12 (by decide) ?_
  refine g_aload_n dX11_rules_14 rfl ?_
  refine m_getR fl_X11_22 rfl rfl rfl dX11_rules_15 ?_
  refine m_getI fl_X11_155 rfl rfl dX11_rules_18 ?_
  refine g_isub dX11_rules_21 ?_
  exact g_iret rfl (by omega) rfl dX11_rules_22 ⟨rfl, rfl⟩
theorem k_X11_rules1 {N W : Nat} {fa : Int32} {μ μ1 μ5 μ7 : g_M} (hk : k % 5 = 0) (hd : dyn (k / 5) = 3 * W) (hW : W ≤ 200) (h1 : f_X8_splitTape N μ = some μ1) (h2 : μ1 45 4 = pp_i W) (h3 : pp_rtL N (63 + k) (3 * W) N 0 1 (pp_new (63 + k) (g_set (g_set μ1 45 6 0) 45 5 0)) = some (1, μ5)) (h4 : g_rd μ5 48 201 (μ5 45 5) = some fa) (h5 : g_rd μ5 47 201 (μ5 45 5) = some 26) (h6 : pp_obL N (63 + k) (3 * W) N 0 (g_set μ5 45 7 fa) = some μ7) : g_K (g_XX D cA b b2 dyn) yX11_rules Y_X11_rules 28 5 (30 + 3 * W) k [.ref 0] (μ, g_rfX t s) (fun r1 σ1 => r1 = some (.int (μ7 (63 + k) 4)) ∧ σ1 = (μ7, g_rfX (63 + k) s)) := by
  refine g_met 1 (by decide) rfl rfl (Nat.le_of_ble_eq_true rfl) ?_
  refine g_aload_n dX11_rules_0 rfl ?_
  refine m_getR fl_X11_22 rfl rfl rfl dX11_rules_1 ?_
  refine g_callV (C := RX8) (T := TX8) mt_X8_readTape ml_X11_151 mv_X8_readTape rfl rfl dX11_rules_4 (k_X8_readTape hk hd hW h1 h2 h3 h4 h5) rfl rfl (by decide) ⟨Nat.le_refl _, by omega⟩ (Nat.le_of_ble_eq_true rfl) ?_
  rintro r2 σ2 ⟨rfl, rfl⟩
  have e : g_rt (63 + (k + 0)) 1 26 = .ref (63 + k) := rfl
  rw [e]
  refine g_astore_1 rfl (Nat.le_of_ble_eq_true rfl) dX11_rules_7 ?_
  refine g_aload_n dX11_rules_8 rfl ?_
  refine g_ifnonnull 23 (by decide) dX11_rules_9 ?_
  refine g_aload_n dX11_rules_23 rfl ?_
  refine m_getR fl_X11_10 rfl rfl rfl dX11_rules_24 ?_
  refine g_aload_n dX11_rules_27 rfl ?_
  refine m_cVv mt_X9_obey ml_X11_158 mv_X9_obey dX11_rules_28 (k_X9_obey (g_RO_new hk hd) h6) rfl rfl rfl rfl (by decide) ⟨Nat.le_refl _, by omega⟩ (Nat.le_of_ble_eq_true rfl) ?_
  refine g_aload_n dX11_rules_31 rfl ?_
  refine m_getI fl_X11_162 rfl (g_sh_X (by omega) (by rw [if_pos hk])) dX11_rules_32 ?_
  exact g_iret rfl (by omega) rfl dX11_rules_35 ⟨rfl, rfl⟩
end RU
