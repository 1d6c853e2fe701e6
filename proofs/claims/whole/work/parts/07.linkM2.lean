set_option maxRecDepth 100000 in
set_option maxHeartbeats 4000000 in
theorem k_X12_goesBy_L2 {D : va_G} {cA : Nat → ClassId} {b k : Nat} {Q : Option Value → g_S → Prop} {N : Nat} : ∀ (n : Nat) (x_1 : Int32) (x_2 : Int32) (μ : g_M) (z_μ : g_M), f_X12_goesBy_L2 N n x_1 x_2 μ = some z_μ → g_V (g_XM D cA b) Y_X12_goesBy 6 0 0 Q k 0 0 48 [some (.ref 0), some (.int x_1), none, none] [] (z_μ, g_rfM) → g_V (g_XM D cA b) Y_X12_goesBy 6 0 0 Q k 0 0 2 [some (.ref 0), some (.int x_1), some (.int x_2), none] [] (μ, g_rfM) := by
  intro n
  induction n with
  | zero =>
    intro x_1 x_2 μ z_μ h
    rw [f_X12_goesBy_L2] at h
    cases h
  | succ n ih =>
    intro x_1 x_2 μ z_μ h hc
    rw [f_X12_goesBy_L2] at h
    refine g_iload_n dX12_goesBy_2 rfl ?_
    refine g_aload_n dX12_goesBy_3 rfl ?_
    refine m_getR fl_X12_7 rfl rfl rfl dX12_goesBy_4 ?_
    refine g_ic0 dX12_goesBy_7 ?_
    refine m_ialdc 0 rfl rfl (by decide) (by decide) dX12_goesBy_8 ?_
    refine g_icmp_ge 48 (by decide) dX12_goesBy_9 (fun c1 => ?_) (fun c1 => ?_)
    · have h := g_ifp c1 h
      obtain rfl := Option.some.inj h
      exact g_less _ (g_subS (g_subS (g_subN (g_subN g_sub0)))) hc
    · have h := g_ifn c1 h
      refine g_aload_n dX12_goesBy_12 rfl ?_
      refine m_getR fl_X12_7 rfl rfl rfl dX12_goesBy_13 ?_
      refine g_bipush (v := 8) dX12_goesBy_16 (by decide) ?_
      refine g_ic5 dX12_goesBy_18 ?_
      refine g_iload_n dX12_goesBy_19 rfl ?_
      refine g_imul dX12_goesBy_20 ?_
      refine g_iadd dX12_goesBy_21 ?_
      refine g_ic4 dX12_goesBy_22 ?_
      refine g_iadd dX12_goesBy_23 ?_
      refine g_dup2 dX12_goesBy_24 rfl rfl ?_
      obtain ⟨x2, qx2, h⟩ := g_bind h
      refine m_iald rfl qx2 dX12_goesBy_25 ?_
      refine g_aload_n dX12_goesBy_26 rfl ?_
      refine g_iload_n dX12_goesBy_27 rfl ?_
      refine g_ic4 dX12_goesBy_28 ?_
      obtain ⟨x3, q4, h⟩ := g_bind h
      refine m_cV mt_X12_its ml_X12_78 mv_X12_its dX12_goesBy_29 (k_X12_its q4) rfl rfl rfl rfl (by decide) ⟨Nat.le_refl _, Nat.le_refl _⟩ (Nat.le_of_ble_eq_true rfl) ?_
      refine g_if_le 39 (by decide) dX12_goesBy_32 (fun c5 => ?_) (fun c5 => ?_)
      · have h := g_ifp c5 h
        refine g_ic0 dX12_goesBy_39 ?_
        refine g_isub dX12_goesBy_40 ?_
        obtain ⟨μ6, qμ6, h⟩ := g_bind h
        refine m_iast rfl qμ6 dX12_goesBy_41 ?_
        refine g_iinc_2 (v := 1) rfl (by decide) (Nat.le_of_ble_eq_true rfl) dX12_goesBy_42 ?_
        refine g_goto 2 (by decide) dX12_goesBy_45 ?_
        exact g_less _ (g_subS (g_subS (g_subS (g_subN g_sub0)))) (ih _ _ _ _ h hc)
      · have h := g_ifn c5 h
        refine g_ic1 dX12_goesBy_35 ?_
        refine g_goto 40 (by decide) dX12_goesBy_36 ?_
        refine g_isub dX12_goesBy_40 ?_
        obtain ⟨μ7, qμ7, h⟩ := g_bind h
        refine m_iast rfl qμ7 dX12_goesBy_41 ?_
        refine g_iinc_2 (v := 1) rfl (by decide) (Nat.le_of_ble_eq_true rfl) dX12_goesBy_42 ?_
        refine g_goto 2 (by decide) dX12_goesBy_45 ?_
        exact g_less _ (g_subS (g_subS (g_subS (g_subN g_sub0)))) (ih _ _ _ _ h hc)
set_option maxRecDepth 100000 in
set_option maxHeartbeats 4000000 in
theorem k_X12_goesBy_L60 {D : va_G} {cA : Nat → ClassId} {b k : Nat} {Q : Option Value → g_S → Prop} {N : Nat} : ∀ (n : Nat) (x_2 : Int32) (μ : g_M) (z_μ : g_M), f_X12_goesBy_L60 N n x_2 μ = some z_μ → g_V (g_XM D cA b) Y_X12_goesBy 6 0 0 Q k 0 0 116 [some (.ref 0), none, none, none] [] (z_μ, g_rfM) → g_V (g_XM D cA b) Y_X12_goesBy 6 0 0 Q k 0 0 60 [some (.ref 0), none, some (.int x_2), none] [] (μ, g_rfM) := by
  intro n
  induction n with
  | zero =>
    intro x_2 μ z_μ h
    rw [f_X12_goesBy_L60] at h
    cases h
  | succ n ih =>
    intro x_2 μ z_μ h hc
    rw [f_X12_goesBy_L60] at h
    refine g_iload_n dX12_goesBy_60 rfl ?_
    refine g_aload_n dX12_goesBy_61 rfl ?_
    refine m_getR fl_X12_7 rfl rfl rfl dX12_goesBy_62 ?_
    refine g_ic0 dX12_goesBy_65 ?_
    refine m_ialdc 0 rfl rfl (by decide) (by decide) dX12_goesBy_66 ?_
    refine g_icmp_ge 116 (by decide) dX12_goesBy_67 (fun c7 => ?_) (fun c7 => ?_)
    · have h := g_ifp c7 h
      obtain rfl := Option.some.inj h
      exact g_less _ (g_subS (g_subN (g_subN (g_subN g_sub0)))) hc
    · have h := g_ifn c7 h
      refine g_aload_n dX12_goesBy_70 rfl ?_
      refine g_iload_n dX12_goesBy_71 rfl ?_
      obtain ⟨x8, q9, h⟩ := g_bind h
      refine m_cV mt_X12_choice ml_X12_123 mv_X12_choice dX12_goesBy_72 (k_X12_choice q9) rfl rfl rfl rfl (by decide) ⟨Nat.le_refl _, Nat.le_refl _⟩ (Nat.le_of_ble_eq_true rfl) ?_
      refine g_istore_3 rfl (Nat.le_of_ble_eq_true rfl) dX12_goesBy_75 ?_
      refine g_aload_n dX12_goesBy_76 rfl ?_
      refine g_dup dX12_goesBy_77 rfl ?_
      refine m_getI fl_X12_228 rfl rfl dX12_goesBy_78 ?_
      refine g_iload_n dX12_goesBy_81 rfl ?_
      refine g_iload_n dX12_goesBy_82 rfl ?_
      refine g_icmp_ge 105 (by decide) dX12_goesBy_83 (fun c10 => ?_) (fun c10 => ?_)
      · have h := g_ifp c10 h
        refine g_ic0 dX12_goesBy_105 ?_
        refine g_ior dX12_goesBy_106 ?_
        obtain ⟨μ11, eμ11, h⟩ := g_let h
        refine m_putI fl_X12_228 fw_12_15 rfl rfl rfl rfl dX12_goesBy_107 eμ11 ?_
        refine g_iinc_2 (v := 1) rfl (by decide) (Nat.le_of_ble_eq_true rfl) dX12_goesBy_110 ?_
        refine g_goto 60 (by decide) dX12_goesBy_113 ?_
        exact g_less _ (g_subS (g_subN (g_subS (g_subN g_sub0)))) (ih _ _ _ h hc)
      · have h := g_ifn c10 h
        refine g_aload_n dX12_goesBy_86 rfl ?_
        refine g_iload_n dX12_goesBy_87 rfl ?_
        obtain ⟨x12, q13, h⟩ := g_bind h
        refine m_cV mt_X12_choice ml_X12_123 mv_X12_choice dX12_goesBy_88 (k_X12_choice q13) rfl rfl rfl rfl (by decide) ⟨Nat.le_refl _, Nat.le_refl _⟩ (Nat.le_of_ble_eq_true rfl) ?_
        refine g_iload_n dX12_goesBy_91 rfl ?_
        refine g_icmp_ne 105 (by decide) dX12_goesBy_92 (fun c14 => ?_) (fun c14 => ?_)
        · have h := g_ifn c14 h
          refine g_ic0 dX12_goesBy_105 ?_
          refine g_ior dX12_goesBy_106 ?_
          obtain ⟨μ15, eμ15, h⟩ := g_let h
          refine m_putI fl_X12_228 fw_12_15 rfl rfl rfl rfl dX12_goesBy_107 eμ15 ?_
          refine g_iinc_2 (v := 1) rfl (by decide) (Nat.le_of_ble_eq_true rfl) dX12_goesBy_110 ?_
          refine g_goto 60 (by decide) dX12_goesBy_113 ?_
          exact g_less _ (g_subS (g_subN (g_subS (g_subN g_sub0)))) (ih _ _ _ h hc)
        · have h := g_ifp c14 h
          refine g_ic1 dX12_goesBy_95 ?_
          refine g_iload_n dX12_goesBy_96 rfl ?_
          refine g_ishl dX12_goesBy_97 ?_
          refine g_ic1 dX12_goesBy_98 ?_
          refine g_iload_n dX12_goesBy_99 rfl ?_
          refine g_ishl dX12_goesBy_100 ?_
          refine g_ior dX12_goesBy_101 ?_
          refine g_goto 106 (by decide) dX12_goesBy_102 ?_
          refine g_ior dX12_goesBy_106 ?_
          obtain ⟨μ16, eμ16, h⟩ := g_let h
          refine m_putI fl_X12_228 fw_12_15 rfl rfl rfl rfl dX12_goesBy_107 eμ16 ?_
          refine g_iinc_2 (v := 1) rfl (by decide) (Nat.le_of_ble_eq_true rfl) dX12_goesBy_110 ?_
          refine g_goto 60 (by decide) dX12_goesBy_113 ?_
          exact g_less _ (g_subS (g_subN (g_subS (g_subN g_sub0)))) (ih _ _ _ h hc)
set_option maxRecDepth 100000 in
set_option maxHeartbeats 4000000 in
theorem k_X12_goesBy_L118 {D : va_G} {cA : Nat → ClassId} {b k : Nat} {Q : Option Value → g_S → Prop} {N : Nat} : ∀ (n : Nat) (x_2 : Int32) (μ : g_M) (z_μ : g_M), f_X12_goesBy_L118 N n x_2 μ = some z_μ → g_V (g_XM D cA b) Y_X12_goesBy 6 0 0 Q k 0 0 182 [some (.ref 0), none, none, none] [] (z_μ, g_rfM) → g_V (g_XM D cA b) Y_X12_goesBy 6 0 0 Q k 0 0 118 [some (.ref 0), none, some (.int x_2), none] [] (μ, g_rfM) := by
  intro n
  induction n with
  | zero =>
    intro x_2 μ z_μ h
    rw [f_X12_goesBy_L118] at h
    cases h
  | succ n ih =>
    intro x_2 μ z_μ h hc
    rw [f_X12_goesBy_L118] at h
    refine g_iload_n dX12_goesBy_118 rfl ?_
    refine g_aload_n dX12_goesBy_119 rfl ?_
    refine m_getR fl_X12_7 rfl rfl rfl dX12_goesBy_120 ?_
    refine g_ic0 dX12_goesBy_123 ?_
    refine m_ialdc 0 rfl rfl (by decide) (by decide) dX12_goesBy_124 ?_
    refine g_icmp_ge 182 (by decide) dX12_goesBy_125 (fun c9 => ?_) (fun c9 => ?_)
    · have h := g_ifp c9 h
      obtain rfl := Option.some.inj h
      exact g_less _ (g_subS (g_subN (g_subN (g_subN g_sub0)))) hc
    · have h := g_ifn c9 h
      refine g_aload_n dX12_goesBy_128 rfl ?_
      refine m_getI fl_X12_228 rfl rfl dX12_goesBy_129 ?_
      refine g_iload_n dX12_goesBy_132 rfl ?_
      refine g_ishr dX12_goesBy_133 ?_
      refine g_ic1 dX12_goesBy_134 ?_
      refine g_iand dX12_goesBy_135 ?_
      refine g_ic1 dX12_goesBy_136 ?_
      refine g_icmp_ne 176 (by decide) dX12_goesBy_137 (fun c10 => ?_) (fun c10 => ?_)
      · have h := g_ifn c10 h
        refine g_iinc_2 (v := 1) rfl (by decide) (Nat.le_of_ble_eq_true rfl) dX12_goesBy_176 ?_
        refine g_goto 118 (by decide) dX12_goesBy_179 ?_
        exact g_less _ (g_subS (g_subN (g_subS (g_subN g_sub0)))) (ih _ _ _ h hc)
      · have h := g_ifp c10 h
        refine g_aload_n dX12_goesBy_140 rfl ?_
        refine m_getR fl_X12_7 rfl rfl rfl dX12_goesBy_141 ?_
        refine g_bipush (v := 8) dX12_goesBy_144 (by decide) ?_
        refine g_ic5 dX12_goesBy_146 ?_
        refine g_iload_n dX12_goesBy_147 rfl ?_
        refine g_imul dX12_goesBy_148 ?_
        refine g_iadd dX12_goesBy_149 ?_
        refine g_ic4 dX12_goesBy_150 ?_
        refine g_iadd dX12_goesBy_151 ?_
        refine g_ic2 dX12_goesBy_152 ?_
        refine g_aload_n dX12_goesBy_153 rfl ?_
        refine g_iload_n dX12_goesBy_154 rfl ?_
        refine g_ic2 dX12_goesBy_155 ?_
        obtain ⟨x11, q12, h⟩ := g_bind h
        refine m_cV mt_X12_its ml_X12_78 mv_X12_its dX12_goesBy_156 (k_X12_its q12) rfl rfl rfl rfl (by decide) ⟨Nat.le_refl _, Nat.le_refl _⟩ (Nat.le_of_ble_eq_true rfl) ?_
        refine g_aload_n dX12_goesBy_159 rfl ?_
        refine g_aload_n dX12_goesBy_160 rfl ?_
        refine g_iload_n dX12_goesBy_161 rfl ?_
        obtain ⟨x13, q14, h⟩ := g_bind h
        refine m_cV mt_X12_choice ml_X12_123 mv_X12_choice dX12_goesBy_162 (k_X12_choice q14) rfl rfl rfl rfl (by decide) ⟨Nat.le_refl _, Nat.le_refl _⟩ (Nat.le_of_ble_eq_true rfl) ?_
        refine g_ic2 dX12_goesBy_165 ?_
        obtain ⟨x15, q16, h⟩ := g_bind h
        refine m_cV mt_X12_its ml_X12_78 mv_X12_its dX12_goesBy_166 (k_X12_its q16) rfl rfl rfl rfl (by decide) ⟨Nat.le_refl _, Nat.le_refl _⟩ (Nat.le_of_ble_eq_true rfl) ?_
        refine m_cS mt_X12_apart ml_X12_74 ms_X12_apart dX12_goesBy_169 (k_X12_apart rfl) rfl rfl (by decide) ⟨Nat.le_refl _, Nat.le_refl _⟩ (Nat.le_of_ble_eq_true rfl) ?_
        refine g_ic4 dX12_goesBy_172 ?_
        refine g_idiv dX12_goesBy_173 (by decide) ?_
        refine g_iadd dX12_goesBy_174 ?_
        obtain ⟨μ17, qμ17, h⟩ := g_bind h
        refine m_iast rfl qμ17 dX12_goesBy_175 ?_
        refine g_iinc_2 (v := 1) rfl (by decide) (Nat.le_of_ble_eq_true rfl) dX12_goesBy_176 ?_
        refine g_goto 118 (by decide) dX12_goesBy_179 ?_
        exact g_less _ (g_subS (g_subN (g_subS (g_subN g_sub0)))) (ih _ _ _ h hc)
set_option maxRecDepth 100000 in
set_option maxHeartbeats 4000000 in
theorem k_X12_goesBy_L186 {D : va_G} {cA : Nat → ClassId} {b k : Nat} {Q : Option Value → g_S → Prop} {N : Nat} : ∀ (n : Nat) (x_2 : Int32) (x_3 : Int32) (μ : g_M) (z_2 : Int32), f_X12_goesBy_L186 N n x_2 x_3 μ = some z_2 → g_V (g_XM D cA b) Y_X12_goesBy 6 0 0 Q k 0 0 223 [some (.ref 0), none, some (.int z_2), none] [] (μ, g_rfM) → g_V (g_XM D cA b) Y_X12_goesBy 6 0 0 Q k 0 0 186 [some (.ref 0), none, some (.int x_2), some (.int x_3)] [] (μ, g_rfM) := by
  intro n
  induction n with
  | zero =>
    intro x_2 x_3 μ z_2 h
    rw [f_X12_goesBy_L186] at h
    cases h
  | succ n ih =>
    intro x_2 x_3 μ z_2 h hc
    rw [f_X12_goesBy_L186] at h
    refine g_iload_n dX12_goesBy_186 rfl ?_
    refine g_aload_n dX12_goesBy_187 rfl ?_
    refine m_getR fl_X12_7 rfl rfl rfl dX12_goesBy_188 ?_
    refine g_ic0 dX12_goesBy_191 ?_
    refine m_ialdc 0 rfl rfl (by decide) (by decide) dX12_goesBy_192 ?_
    refine g_icmp_ge 223 (by decide) dX12_goesBy_193 (fun c11 => ?_) (fun c11 => ?_)
    · have h := g_ifp c11 h
      obtain rfl := Option.some.inj h
      exact g_less _ (g_subS (g_subN (g_subS (g_subN g_sub0)))) hc
    · have h := g_ifn c11 h
      refine g_iload_n dX12_goesBy_196 rfl ?_
      refine g_aload_n dX12_goesBy_197 rfl ?_
      refine g_iload_n dX12_goesBy_198 rfl ?_
      refine g_ic4 dX12_goesBy_199 ?_
      obtain ⟨x12, q13, h⟩ := g_bind h
      refine m_cV mt_X12_its ml_X12_78 mv_X12_its dX12_goesBy_200 (k_X12_its q13) rfl rfl rfl rfl (by decide) ⟨Nat.le_refl _, Nat.le_refl _⟩ (Nat.le_of_ble_eq_true rfl) ?_
      refine g_if_ne 214 (by decide) dX12_goesBy_203 (fun c14 => ?_) (fun c14 => ?_)
      · have h := g_ifn c14 h
        refine g_ic0 dX12_goesBy_214 ?_
        refine g_iadd dX12_goesBy_215 ?_
        obtain ⟨x15, ex15, h⟩ := g_let h
        refine g_top ex15 ?_
        refine g_istore_2 rfl (Nat.le_of_ble_eq_true rfl) dX12_goesBy_216 ?_
        refine g_iinc_3 (v := 1) rfl (by decide) (Nat.le_of_ble_eq_true rfl) dX12_goesBy_217 ?_
        refine g_goto 186 (by decide) dX12_goesBy_220 ?_
        exact g_less _ (g_subS (g_subN (g_subS (g_subS g_sub0)))) (ih _ _ _ _ h hc)
      · have h := g_ifp c14 h
        refine g_aload_n dX12_goesBy_206 rfl ?_
        refine g_iload_n dX12_goesBy_207 rfl ?_
        obtain ⟨x16, q17, h⟩ := g_bind h
        refine m_cV mt_X12_bakes ml_X12_120 mv_X12_bakes dX12_goesBy_208 (k_X12_bakes q17) rfl rfl rfl rfl (by decide) ⟨Nat.le_refl _, Nat.le_refl _⟩ (Nat.le_of_ble_eq_true rfl) ?_
        refine g_goto 215 (by decide) dX12_goesBy_211 ?_
        refine g_iadd dX12_goesBy_215 ?_
        obtain ⟨x18, ex18, h⟩ := g_let h
        refine g_top ex18 ?_
        refine g_istore_2 rfl (Nat.le_of_ble_eq_true rfl) dX12_goesBy_216 ?_
        refine g_iinc_3 (v := 1) rfl (by decide) (Nat.le_of_ble_eq_true rfl) dX12_goesBy_217 ?_
        refine g_goto 186 (by decide) dX12_goesBy_220 ?_
        exact g_less _ (g_subS (g_subN (g_subS (g_subS g_sub0)))) (ih _ _ _ _ h hc)
set_option maxRecDepth 100000 in
set_option maxHeartbeats 4000000 in
theorem k_X12_goesBy {D : va_G} {cA : Nat → ClassId} {b k : Nat} {N : Nat} {a1 : Int32} {μ : g_M} {z : Int32 × g_M} (h : f_X12_goesBy N a1 μ = some z) : g_K (g_XM D cA b) yX12_goesBy Y_X12_goesBy 6 0 0 k [.ref 0, .int a1] (μ, g_rfM) (fun r1 σ1 => r1 = some (.int z.1) ∧ σ1 = (z.2, g_rfM)) := by
  unfold f_X12_goesBy at h
  refine g_met 2 (by decide) rfl rfl (Nat.le_of_ble_eq_true rfl) ?_
  refine g_ic0 dX12_goesBy_0 ?_
  refine g_istore_2 rfl (Nat.le_of_ble_eq_true rfl) dX12_goesBy_1 ?_
  obtain ⟨μ1, q2, h⟩ := g_bind h
  refine g_less _ (g_subS (g_subS (g_subS (g_subN g_sub0)))) (k_X12_goesBy_L2 _ _ _ _ _ q2 ?_)
  refine g_aload_n dX12_goesBy_48 rfl ?_
  refine g_iload_n dX12_goesBy_49 rfl ?_
  obtain ⟨μ5, q4, h⟩ := g_bind h
  refine m_cVv mt_X12_looks ml_X12_116 mv_X12_looks dX12_goesBy_50 (k_X12_looks q4) rfl rfl rfl rfl (by decide) ⟨Nat.le_refl _, Nat.le_refl _⟩ (Nat.le_of_ble_eq_true rfl) ?_
  refine g_aload_n dX12_goesBy_53 rfl ?_
  refine g_ic0 dX12_goesBy_54 ?_
  obtain ⟨μ6, eμ6, h⟩ := g_let h
  refine m_putI fl_X12_228 fw_12_15 rfl rfl rfl rfl dX12_goesBy_55 eμ6 ?_
  refine g_ic0 dX12_goesBy_58 ?_
  refine g_istore_2 rfl (Nat.le_of_ble_eq_true rfl) dX12_goesBy_59 ?_
  obtain ⟨μ7, q8, h⟩ := g_bind h
  refine g_less _ (g_subS (g_subN (g_subS (g_subN g_sub0)))) (k_X12_goesBy_L60 _ _ _ _ q8 ?_)
  refine g_ic0 dX12_goesBy_116 ?_
  refine g_istore_2 rfl (Nat.le_of_ble_eq_true rfl) dX12_goesBy_117 ?_
  obtain ⟨μ9, q10, h⟩ := g_bind h
  refine g_less _ (g_subS (g_subN (g_subS (g_subN g_sub0)))) (k_X12_goesBy_L118 _ _ _ _ q10 ?_)
  refine g_ic0 dX12_goesBy_182 ?_
  refine g_istore_2 rfl (Nat.le_of_ble_eq_true rfl) dX12_goesBy_183 ?_
  refine g_ic0 dX12_goesBy_184 ?_
  refine g_istore_3 rfl (Nat.le_of_ble_eq_true rfl) dX12_goesBy_185 ?_
  obtain ⟨x11, q12, h⟩ := g_bind h
  refine g_less _ (g_subS (g_subN (g_subS (g_subS g_sub0)))) (k_X12_goesBy_L186 _ _ _ _ _ q12 ?_)
  refine g_aload_n dX12_goesBy_223 rfl ?_
  refine m_getR fl_X12_7 rfl rfl rfl dX12_goesBy_224 ?_
  refine g_ic1 dX12_goesBy_227 ?_
  refine g_dup2 dX12_goesBy_228 rfl rfl ?_
  refine m_ialdc 1 rfl rfl (by decide) (by decide) dX12_goesBy_229 ?_
  refine g_ic1 dX12_goesBy_230 ?_
  refine g_iadd dX12_goesBy_231 ?_
  obtain ⟨μ13, eμ13, h⟩ := g_let h
  refine m_iastc 1 rfl rfl (by decide) (by decide) dX12_goesBy_232 eμ13 ?_
  refine g_aload_n dX12_goesBy_233 rfl ?_
  refine m_getR fl_X12_7 rfl rfl rfl dX12_goesBy_234 ?_
  refine g_ic3 dX12_goesBy_237 ?_
  refine g_dup2 dX12_goesBy_238 rfl rfl ?_
  refine m_ialdc 3 rfl rfl (by decide) (by decide) dX12_goesBy_239 ?_
  refine g_iload_n dX12_goesBy_240 rfl ?_
  refine g_iadd dX12_goesBy_241 ?_
  obtain ⟨μ14, eμ14, h⟩ := g_let h
  refine m_iastc 3 rfl rfl (by decide) (by decide) dX12_goesBy_242 eμ14 ?_
  refine g_iload_n dX12_goesBy_243 rfl ?_
  obtain rfl := Option.some.inj h
  exact g_iret rfl (Nat.le_refl _) rfl dX12_goesBy_244 ⟨rfl, rfl⟩
set_option maxRecDepth 100000 in
set_option maxHeartbeats 4000000 in
theorem k_X12_goesWith {D : va_G} {cA : Nat → ClassId} {b k : Nat} {N : Nat} {a1 : Int32} {μ : g_M} {z : Int32 × g_M} (h : f_X12_goesWith N a1 μ = some z) : g_K (g_XM D cA b) yX12_goesWith Y_X12_goesWith 7 0 0 k [.ref 0, .int a1] (μ, g_rfM) (fun r1 σ1 => r1 = some (.int z.1) ∧ σ1 = (z.2, g_rfM)) := by
  unfold f_X12_goesWith at h
  refine g_met 0 (by decide) rfl rfl (Nat.le_of_ble_eq_true rfl) ?_
  refine g_aload_n dX12_goesWith_0 rfl ?_
  refine g_iload_n dX12_goesWith_1 rfl ?_
  refine g_if_ne 9 (by decide) dX12_goesWith_2 (fun c1 => ?_) (fun c1 => ?_)
  · have h := g_ifn c1 h
    refine g_ic1 dX12_goesWith_9 ?_
    refine g_iload_n dX12_goesWith_10 rfl ?_
    refine g_ic1 dX12_goesWith_11 ?_
    refine g_isub dX12_goesWith_12 ?_
    refine g_ishl dX12_goesWith_13 ?_
    obtain ⟨⟨x2, μ4⟩, q3, h⟩ := g_bind h
    refine m_cV mt_X12_goesBy ml_X12_231 mv_X12_goesBy dX12_goesWith_14 (k_X12_goesBy q3) rfl rfl rfl rfl (by decide) ⟨Nat.le_refl _, Nat.le_refl _⟩ (Nat.le_of_ble_eq_true rfl) ?_
    obtain rfl := Option.some.inj h
    exact g_iret rfl (Nat.le_refl _) rfl dX12_goesWith_17 ⟨rfl, rfl⟩
  · have h := g_ifp c1 h
    refine g_ic0 dX12_goesWith_5 ?_
    refine g_goto 14 (by decide) dX12_goesWith_6 ?_
    obtain ⟨⟨x5, μ7⟩, q6, h⟩ := g_bind h
    refine m_cV mt_X12_goesBy ml_X12_231 mv_X12_goesBy dX12_goesWith_14 (k_X12_goesBy q6) rfl rfl rfl rfl (by decide) ⟨Nat.le_refl _, Nat.le_refl _⟩ (Nat.le_of_ble_eq_true rfl) ?_
    obtain rfl := Option.some.inj h
    exact g_iret rfl (Nat.le_refl _) rfl dX12_goesWith_17 ⟨rfl, rfl⟩
set_option maxRecDepth 100000 in
set_option maxHeartbeats 4000000 in
theorem k_X12_night {D : va_G} {cA : Nat → ClassId} {b k : Nat} {N : Nat} {μ : g_M} {z : Int32 × g_M} (h : f_X12_night N μ = some z) : g_K (g_XM D cA b) yX12_night Y_X12_night 7 0 0 k [.ref 0] (μ, g_rfM) (fun r1 σ1 => r1 = some (.int z.1) ∧ σ1 = (z.2, g_rfM)) := by
  unfold f_X12_night at h
  refine g_met 0 (by decide) rfl rfl (Nat.le_of_ble_eq_true rfl) ?_
  refine g_aload_n dX12_night_0 rfl ?_
  refine m_cV mt_X12_isOver ml_X12_133 mv_X12_isOver dX12_night_1 (k_X12_isOver rfl) rfl rfl rfl rfl (by decide) ⟨Nat.le_refl _, Nat.le_refl _⟩ (Nat.le_of_ble_eq_true rfl) ?_
  refine g_if_eq 12 (by decide) dX12_night_4 (fun c1 => ?_) (fun c1 => ?_)
  · have h := g_ifp c1 h
    refine g_aload_n dX12_night_12 rfl ?_
    refine g_ic0 dX12_night_13 ?_
    obtain ⟨⟨x2, μ4⟩, q3, h⟩ := g_bind h
    refine m_cV mt_X12_goesBy ml_X12_231 mv_X12_goesBy dX12_night_14 (k_X12_goesBy q3) rfl rfl rfl rfl (by decide) ⟨Nat.le_refl _, Nat.le_refl _⟩ (Nat.le_of_ble_eq_true rfl) ?_
    obtain rfl := Option.some.inj h
    exact g_iret rfl (Nat.le_refl _) rfl dX12_night_17 ⟨rfl, rfl⟩
  · have h := g_ifn c1 h
    refine g_bipush (v := (-4)) dX12_night_7 (by decide) ?_
    refine g_goto 17 (by decide) dX12_night_9 ?_
    obtain rfl := Option.some.inj h
    exact g_iret rfl (Nat.le_refl _) rfl dX12_night_17 ⟨rfl, rfl⟩
set_option maxRecDepth 100000 in
set_option maxHeartbeats 4000000 in
theorem k_X12_onBy_L10 {D : va_G} {cA : Nat → ClassId} {b k : Nat} {Q : Option Value → g_S → Prop} {N : Nat} : ∀ (n : Nat) (x_1 : Int32) (x_2 : Int32) (x_3 : Int32) (x_4 : Int32) (μ : g_M) (z_3 : Int32) (z_μ : g_M), f_X12_onBy_L10 N n x_1 x_2 x_3 x_4 μ = some (z_3, z_μ) → g_V (g_XM D cA b) Y_X12_onBy 7 0 0 Q k 0 0 37 [some (.ref 0), none, none, some (.int z_3), none] [] (z_μ, g_rfM) → g_V (g_XM D cA b) Y_X12_onBy 7 0 0 Q k 0 0 10 [some (.ref 0), some (.int x_1), some (.int x_2), some (.int x_3), some (.int x_4)] [] (μ, g_rfM) := by
  intro n
  induction n with
  | zero =>
    intro x_1 x_2 x_3 x_4 μ z_3 z_μ h
    rw [f_X12_onBy_L10] at h
    cases h
  | succ n ih =>
    intro x_1 x_2 x_3 x_4 μ z_3 z_μ h hc
    rw [f_X12_onBy_L10] at h
    refine g_iload dX12_onBy_10 rfl ?_
    refine g_iload_n dX12_onBy_12 rfl ?_
    refine g_icmp_ge 37 (by decide) dX12_onBy_13 (fun c4 => ?_) (fun c4 => ?_)
    · have h := g_ifp c4 h
      obtain ⟨rfl, rfl⟩ := g_inj2 h
      exact g_less _ (g_subS (g_subN (g_subN (g_subS (g_subN g_sub0))))) hc
    · have h := g_ifn c4 h
      refine g_aload_n dX12_onBy_16 rfl ?_
      refine m_cV mt_X12_isOver ml_X12_133 mv_X12_isOver dX12_onBy_17 (k_X12_isOver rfl) rfl rfl rfl rfl (by decide) ⟨Nat.le_refl _, Nat.le_refl _⟩ (Nat.le_of_ble_eq_true rfl) ?_
      refine g_if_ne 37 (by decide) dX12_onBy_20 (fun c5 => ?_) (fun c5 => ?_)
      · have h := g_ifn c5 h
        obtain ⟨rfl, rfl⟩ := g_inj2 h
        exact g_less _ (g_subS (g_subN (g_subN (g_subS (g_subN g_sub0))))) hc
      · have h := g_ifp c5 h
        refine g_iload_n dX12_onBy_23 rfl ?_
        refine g_aload_n dX12_onBy_24 rfl ?_
        refine g_iload_n dX12_onBy_25 rfl ?_
        obtain ⟨⟨x6, μ8⟩, q7, h⟩ := g_bind h
        refine m_cV mt_X12_goesBy ml_X12_231 mv_X12_goesBy dX12_onBy_26 (k_X12_goesBy q7) rfl rfl rfl rfl (by decide) ⟨Nat.le_refl _, Nat.le_refl _⟩ (Nat.le_of_ble_eq_true rfl) ?_
        refine g_iadd dX12_onBy_29 ?_
        obtain ⟨x9, ex9, h⟩ := g_let h
        refine g_top ex9 ?_
        refine g_istore_3 rfl (Nat.le_of_ble_eq_true rfl) dX12_onBy_30 ?_
        refine g_iinc_4 (v := 1) rfl (by decide) (Nat.le_of_ble_eq_true rfl) dX12_onBy_31 ?_
        refine g_goto 10 (by decide) dX12_onBy_34 ?_
        exact g_less _ (g_subS (g_subS (g_subS (g_subS (g_subS g_sub0))))) (ih _ _ _ _ _ _ _ h hc)
set_option maxRecDepth 100000 in
set_option maxHeartbeats 4000000 in
theorem k_X12_onBy {D : va_G} {cA : Nat → ClassId} {b k : Nat} {N : Nat} {a1 : Int32} {a2 : Int32} {μ : g_M} {z : Int32 × g_M} (h : f_X12_onBy N a1 a2 μ = some z) : g_K (g_XM D cA b) yX12_onBy Y_X12_onBy 7 0 0 k [.ref 0, .int a1, .int a2] (μ, g_rfM) (fun r1 σ1 => r1 = some (.int z.1) ∧ σ1 = (z.2, g_rfM)) := by
  unfold f_X12_onBy at h
  refine g_met 2 (by decide) rfl rfl (Nat.le_of_ble_eq_true rfl) ?_
  refine g_aload_n dX12_onBy_0 rfl ?_
  refine g_ic0 dX12_onBy_1 ?_
  obtain ⟨μ3, q2, h⟩ := g_bind h
  refine m_cVv mt_X12_laysAside ml_X12_234 mv_X12_laysAside dX12_onBy_2 (k_X12_laysAside q2) rfl rfl rfl rfl (by decide) ⟨Nat.le_refl _, Nat.le_refl _⟩ (Nat.le_of_ble_eq_true rfl) ?_
  refine g_ic0 dX12_onBy_5 ?_
  refine g_istore_3 rfl (Nat.le_of_ble_eq_true rfl) dX12_onBy_6 ?_
  refine g_ic0 dX12_onBy_7 ?_
  refine g_istore_4 rfl (Nat.le_of_ble_eq_true rfl) dX12_onBy_8 ?_
  obtain ⟨⟨x4, μ5⟩, q6, h⟩ := g_bind h
  refine g_less _ (g_subS (g_subS (g_subS (g_subS (g_subS g_sub0))))) (k_X12_onBy_L10 _ _ _ _ _ _ _ _ q6 ?_)
  refine g_aload_n dX12_onBy_37 rfl ?_
  refine g_ic0 dX12_onBy_38 ?_
  obtain ⟨μ9, q8, h⟩ := g_bind h
  refine m_cVv mt_X12_laysBack ml_X12_237 mv_X12_laysBack dX12_onBy_39 (k_X12_laysBack q8) rfl rfl rfl rfl (by decide) ⟨Nat.le_refl _, Nat.le_refl _⟩ (Nat.le_of_ble_eq_true rfl) ?_
  refine g_iload_n dX12_onBy_42 rfl ?_
  obtain rfl := Option.some.inj h
  exact g_iret rfl (Nat.le_refl _) rfl dX12_onBy_43 ⟨rfl, rfl⟩
set_option maxRecDepth 100000 in
set_option maxHeartbeats 4000000 in
theorem k_X12_on {D : va_G} {cA : Nat → ClassId} {b k : Nat} {N : Nat} {a1 : Int32} {μ : g_M} {z : Int32 × g_M} (h : f_X12_on N a1 μ = some z) : g_K (g_XM D cA b) yX12_on Y_X12_on 8 0 0 k [.ref 0, .int a1] (μ, g_rfM) (fun r1 σ1 => r1 = some (.int z.1) ∧ σ1 = (z.2, g_rfM)) := by
  unfold f_X12_on at h
  refine g_met 0 (by decide) rfl rfl (Nat.le_of_ble_eq_true rfl) ?_
  refine g_iload_n dX12_on_0 rfl ?_
  refine g_i2l dX12_on_1 ?_
  refine g_lc0 dX12_on_2 ?_
  refine g_ldc2 kc_X12_131 dX12_on_3 ?_
  refine m_cS mt_X12_isIn ml_X12_66 ms_X12_isIn dX12_on_6 (k_X12_isIn rfl) rfl rfl (by decide) ⟨Nat.le_refl _, Nat.le_refl _⟩ (Nat.le_of_ble_eq_true rfl) ?_
  refine g_if_eq 21 (by decide) dX12_on_9 (fun c1 => ?_) (fun c1 => ?_)
  · have h := g_ifp c1 h
    refine g_icm1 dX12_on_21 ?_
    obtain rfl := Option.some.inj h
    exact g_iret rfl (Nat.le_refl _) rfl dX12_on_22 ⟨rfl, rfl⟩
  · have h := g_ifn c1 h
    refine g_aload_n dX12_on_12 rfl ?_
    refine g_iload_n dX12_on_13 rfl ?_
    refine g_ic0 dX12_on_14 ?_
    obtain ⟨⟨x2, μ4⟩, q3, h⟩ := g_bind h
    refine m_cV mt_X12_onBy ml_X12_240 mv_X12_onBy dX12_on_15 (k_X12_onBy q3) rfl rfl rfl rfl (by decide) ⟨Nat.le_refl _, Nat.le_refl _⟩ (Nat.le_of_ble_eq_true rfl) ?_
    refine g_goto 22 (by decide) dX12_on_18 ?_
    obtain rfl := Option.some.inj h
    exact g_iret rfl (Nat.le_refl _) rfl dX12_on_22 ⟨rfl, rfl⟩
set_option maxRecDepth 100000 in
set_option maxHeartbeats 4000000 in
theorem k_X12_goes_L18 {D : va_G} {cA : Nat → ClassId} {b k : Nat} {Q : Option Value → g_S → Prop} {N : Nat} : ∀ (n : Nat) (x_1 : Int32) (x_2 : Int32) (μ : g_M) (z_2 : Int32) (z_μ : g_M), f_X12_goes_L18 N n x_1 x_2 μ = some (z_2, z_μ) → g_V (g_XM D cA b) Y_X12_goes 7 0 0 Q k 0 0 65 [some (.ref 0), none, some (.int z_2), none, none] [] (z_μ, g_rfM) → g_V (g_XM D cA b) Y_X12_goes 7 0 0 Q k 0 0 18 [some (.ref 0), some (.int x_1), some (.int x_2), none, none] [] (μ, g_rfM) := by
  intro n
  induction n with
  | zero =>
    intro x_1 x_2 μ z_2 z_μ h
    rw [f_X12_goes_L18] at h
    cases h
  | succ n ih =>
    intro x_1 x_2 μ z_2 z_μ h hc
    rw [f_X12_goes_L18] at h
    refine g_aload_n dX12_goes_18 rfl ?_
    refine m_cV mt_X12_isOver ml_X12_133 mv_X12_isOver dX12_goes_19 (k_X12_isOver rfl) rfl rfl rfl rfl (by decide) ⟨Nat.le_refl _, Nat.le_refl _⟩ (Nat.le_of_ble_eq_true rfl) ?_
    refine g_if_ne 65 (by decide) dX12_goes_22 (fun c5 => ?_) (fun c5 => ?_)
    · have h := g_ifn c5 h
      obtain ⟨rfl, rfl⟩ := g_inj2 h
      exact g_less _ (g_subS (g_subN (g_subS (g_subN (g_subN g_sub0))))) hc
    · have h := g_ifp c5 h
      refine g_iload_n dX12_goes_25 rfl ?_
      refine g_if_ge 65 (by decide) dX12_goes_26 (fun c6 => ?_) (fun c6 => ?_)
      · have h := g_ifp c6 h
        obtain ⟨rfl, rfl⟩ := g_inj2 h
        exact g_less _ (g_subS (g_subN (g_subS (g_subN (g_subN g_sub0))))) hc
      · have h := g_ifn c6 h
        refine g_aload_n dX12_goes_29 rfl ?_
        refine m_getR fl_X12_7 rfl rfl rfl dX12_goes_30 ?_
        refine g_ic1 dX12_goes_33 ?_
        refine m_ialdc 1 rfl rfl (by decide) (by decide) dX12_goes_34 ?_
        refine g_istore_3 rfl (Nat.le_of_ble_eq_true rfl) dX12_goes_35 ?_
        refine g_aload_n dX12_goes_36 rfl ?_
        refine g_ic0 dX12_goes_37 ?_
        obtain ⟨⟨x7, μ9⟩, q8, h⟩ := g_bind h
        refine m_cV mt_X12_goesBy ml_X12_231 mv_X12_goesBy dX12_goes_38 (k_X12_goesBy q8) rfl rfl rfl rfl (by decide) ⟨Nat.le_refl _, Nat.le_refl _⟩ (Nat.le_of_ble_eq_true rfl) ?_
        refine g_istore_4 rfl (Nat.le_of_ble_eq_true rfl) dX12_goes_41 ?_
        refine g_aload_n dX12_goes_43 rfl ?_
        refine m_getI fl_X12_228 rfl rfl dX12_goes_44 ?_
        refine g_iload_n dX12_goes_47 rfl ?_
        refine g_ishr dX12_goes_48 ?_
        refine g_ic1 dX12_goes_49 ?_
        refine g_iand dX12_goes_50 ?_
        refine g_ic1 dX12_goes_51 ?_
        refine g_icmp_ne 59 (by decide) dX12_goes_52 (fun c10 => ?_) (fun c10 => ?_)
        · have h := g_ifn c10 h
          refine g_bipush (v := (-3)) dX12_goes_59 (by decide) ?_
          refine g_istore_2 rfl (Nat.le_of_ble_eq_true rfl) dX12_goes_61 ?_
          refine g_goto 18 (by decide) dX12_goes_62 ?_
          exact g_less _ (g_subS (g_subS (g_subS (g_subN (g_subN g_sub0))))) (ih _ _ _ _ _ h hc)
        · have h := g_ifp c10 h
          refine g_iload_n dX12_goes_55 rfl ?_
          refine g_goto 61 (by decide) dX12_goes_56 ?_
          refine g_istore_2 rfl (Nat.le_of_ble_eq_true rfl) dX12_goes_61 ?_
          refine g_goto 18 (by decide) dX12_goes_62 ?_
          exact g_less _ (g_subS (g_subS (g_subS (g_subN (g_subN g_sub0))))) (ih _ _ _ _ _ h hc)
set_option maxRecDepth 100000 in
set_option maxHeartbeats 4000000 in
theorem k_X12_goes {D : va_G} {cA : Nat → ClassId} {b k : Nat} {N : Nat} {a1 : Int32} {μ : g_M} {z : Int32 × g_M} (h : f_X12_goes N a1 μ = some z) : g_K (g_XM D cA b) yX12_goes Y_X12_goes 7 0 0 k [.ref 0, .int a1] (μ, g_rfM) (fun r1 σ1 => r1 = some (.int z.1) ∧ σ1 = (z.2, g_rfM)) := by
  unfold f_X12_goes at h
  refine g_met 3 (by decide) rfl rfl (Nat.le_of_ble_eq_true rfl) ?_
  refine g_aload_n dX12_goes_0 rfl ?_
  refine g_iload_n dX12_goes_1 rfl ?_
  refine m_cV mt_X12_isOven ml_X12_110 mv_X12_isOven dX12_goes_2 (k_X12_isOven rfl) rfl rfl rfl rfl (by decide) ⟨Nat.le_refl _, Nat.le_refl _⟩ (Nat.le_of_ble_eq_true rfl) ?_
  refine g_if_ne 10 (by decide) dX12_goes_5 (fun c1 => ?_) (fun c1 => ?_)
  · have h := g_ifn c1 h
    refine g_aload_n dX12_goes_10 rfl ?_
    refine g_ic0 dX12_goes_11 ?_
    obtain ⟨μ4, q3, h⟩ := g_bind h
    refine m_cVv mt_X12_laysAside ml_X12_234 mv_X12_laysAside dX12_goes_12 (k_X12_laysAside q3) rfl rfl rfl rfl (by decide) ⟨Nat.le_refl _, Nat.le_refl _⟩ (Nat.le_of_ble_eq_true rfl) ?_
    refine g_bipush (v := (-3)) dX12_goes_15 (by decide) ?_
    refine g_istore_2 rfl (Nat.le_of_ble_eq_true rfl) dX12_goes_17 ?_
    obtain ⟨⟨x5, μ6⟩, q7, h⟩ := g_bind h
    refine g_less _ (g_subS (g_subS (g_subS (g_subN (g_subN g_sub0))))) (k_X12_goes_L18 _ _ _ _ _ _ q7 ?_)
    refine g_aload_n dX12_goes_65 rfl ?_
    refine g_ic0 dX12_goes_66 ?_
    obtain ⟨μ10, q9, h⟩ := g_bind h
    refine m_cVv mt_X12_laysBack ml_X12_237 mv_X12_laysBack dX12_goes_67 (k_X12_laysBack q9) rfl rfl rfl rfl (by decide) ⟨Nat.le_refl _, Nat.le_refl _⟩ (Nat.le_of_ble_eq_true rfl) ?_
    refine g_iload_n dX12_goes_70 rfl ?_
    obtain rfl := Option.some.inj h
    exact g_iret rfl (Nat.le_refl _) rfl dX12_goes_71 ⟨rfl, rfl⟩
  · have h := g_ifp c1 h
    refine g_icm1 dX12_goes_8 ?_
    obtain rfl := Option.some.inj h
    exact g_iret rfl (Nat.le_refl _) rfl dX12_goes_9 ⟨rfl, rfl⟩
set_option maxRecDepth 100000 in
set_option maxHeartbeats 4000000 in
theorem k_X12_often_L17 {D : va_G} {cA : Nat → ClassId} {b k : Nat} {Q : Option Value → g_S → Prop} {N : Nat} : ∀ (n : Nat) (x_1 : Int32) (x_2 : Int32) (μ : g_M) (z_2 : Int32) (z_μ : g_M), f_X12_often_L17 N n x_1 x_2 μ = some (z_2, z_μ) → g_V (g_XM D cA b) Y_X12_often 7 0 0 Q k 0 0 44 [some (.ref 0), none, some (.int z_2), none] [] (z_μ, g_rfM) → g_V (g_XM D cA b) Y_X12_often 7 0 0 Q k 0 0 17 [some (.ref 0), some (.int x_1), some (.int x_2), none] [] (μ, g_rfM) := by
  intro n
  induction n with
  | zero =>
    intro x_1 x_2 μ z_2 z_μ h
    rw [f_X12_often_L17] at h
    cases h
  | succ n ih =>
    intro x_1 x_2 μ z_2 z_μ h hc
    rw [f_X12_often_L17] at h
    refine g_aload_n dX12_often_17 rfl ?_
    refine m_cV mt_X12_isOver ml_X12_133 mv_X12_isOver dX12_often_18 (k_X12_isOver rfl) rfl rfl rfl rfl (by decide) ⟨Nat.le_refl _, Nat.le_refl _⟩ (Nat.le_of_ble_eq_true rfl) ?_
    refine g_if_ne 44 (by decide) dX12_often_21 (fun c5 => ?_) (fun c5 => ?_)
    · have h := g_ifn c5 h
      obtain ⟨rfl, rfl⟩ := g_inj2 h
      exact g_less _ (g_subS (g_subN (g_subS (g_subN g_sub0)))) hc
    · have h := g_ifp c5 h
      refine g_aload_n dX12_often_24 rfl ?_
      refine g_ic0 dX12_often_25 ?_
      obtain ⟨⟨x6, μ8⟩, q7, h⟩ := g_bind h
      refine m_cV mt_X12_goesBy ml_X12_231 mv_X12_goesBy dX12_often_26 (k_X12_goesBy q7) rfl rfl rfl rfl (by decide) ⟨Nat.le_refl _, Nat.le_refl _⟩ (Nat.le_of_ble_eq_true rfl) ?_
      refine g_istore_3 rfl (Nat.le_of_ble_eq_true rfl) dX12_often_29 ?_
      refine g_iload_n dX12_often_30 rfl ?_
      refine g_aload_n dX12_often_31 rfl ?_
      refine m_getI fl_X12_228 rfl rfl dX12_often_32 ?_
      refine g_iload_n dX12_often_35 rfl ?_
      refine g_ishr dX12_often_36 ?_
      refine g_ic1 dX12_often_37 ?_
      refine g_iand dX12_often_38 ?_
      refine g_iadd dX12_often_39 ?_
      obtain ⟨x9, ex9, h⟩ := g_let h
      refine g_top ex9 ?_
      refine g_istore_2 rfl (Nat.le_of_ble_eq_true rfl) dX12_often_40 ?_
      refine g_goto 17 (by decide) dX12_often_41 ?_
      exact g_less _ (g_subS (g_subS (g_subS (g_subN g_sub0)))) (ih _ _ _ _ _ h hc)
set_option maxRecDepth 100000 in
set_option maxHeartbeats 4000000 in
theorem k_X12_often {D : va_G} {cA : Nat → ClassId} {b k : Nat} {N : Nat} {a1 : Int32} {μ : g_M} {z : Int32 × g_M} (h : f_X12_often N a1 μ = some z) : g_K (g_XM D cA b) yX12_often Y_X12_often 7 0 0 k [.ref 0, .int a1] (μ, g_rfM) (fun r1 σ1 => r1 = some (.int z.1) ∧ σ1 = (z.2, g_rfM)) := by
  unfold f_X12_often at h
  refine g_met 2 (by decide) rfl rfl (Nat.le_of_ble_eq_true rfl) ?_
  refine g_aload_n dX12_often_0 rfl ?_
  refine g_iload_n dX12_often_1 rfl ?_
  refine m_cV mt_X12_isOven ml_X12_110 mv_X12_isOven dX12_often_2 (k_X12_isOven rfl) rfl rfl rfl rfl (by decide) ⟨Nat.le_refl _, Nat.le_refl _⟩ (Nat.le_of_ble_eq_true rfl) ?_
  refine g_if_ne 10 (by decide) dX12_often_5 (fun c1 => ?_) (fun c1 => ?_)
  · have h := g_ifn c1 h
    refine g_aload_n dX12_often_10 rfl ?_
    refine g_ic0 dX12_often_11 ?_
    obtain ⟨μ4, q3, h⟩ := g_bind h
    refine m_cVv mt_X12_laysAside ml_X12_234 mv_X12_laysAside dX12_often_12 (k_X12_laysAside q3) rfl rfl rfl rfl (by decide) ⟨Nat.le_refl _, Nat.le_refl _⟩ (Nat.le_of_ble_eq_true rfl) ?_
    refine g_ic0 dX12_often_15 ?_
    refine g_istore_2 rfl (Nat.le_of_ble_eq_true rfl) dX12_often_16 ?_
    obtain ⟨⟨x5, μ6⟩, q7, h⟩ := g_bind h
    refine g_less _ (g_subS (g_subS (g_subS (g_subN g_sub0)))) (k_X12_often_L17 _ _ _ _ _ _ q7 ?_)
    refine g_aload_n dX12_often_44 rfl ?_
    refine g_ic0 dX12_often_45 ?_
    obtain ⟨μ10, q9, h⟩ := g_bind h
    refine m_cVv mt_X12_laysBack ml_X12_237 mv_X12_laysBack dX12_often_46 (k_X12_laysBack q9) rfl rfl rfl rfl (by decide) ⟨Nat.le_refl _, Nat.le_refl _⟩ (Nat.le_of_ble_eq_true rfl) ?_
    refine g_iload_n dX12_often_49 rfl ?_
    obtain rfl := Option.some.inj h
    exact g_iret rfl (Nat.le_refl _) rfl dX12_often_50 ⟨rfl, rfl⟩
  · have h := g_ifp c1 h
    refine g_icm1 dX12_often_8 ?_
    obtain rfl := Option.some.inj h
    exact g_iret rfl (Nat.le_refl _) rfl dX12_often_9 ⟨rfl, rfl⟩
set_option maxRecDepth 100000 in
set_option maxHeartbeats 4000000 in
theorem k_X12_valueFor_L28 {D : va_G} {cA : Nat → ClassId} {b k : Nat} {Q : Option Value → g_S → Prop} {N : Nat} : ∀ (n : Nat) (x_3 : Int32) (x_4 : Int32) (x_5 : Int32) (x_6 : Int32) (x_7 : Int32) (x_8 : Int32) (μ : g_M) (z_6 : Int32) (z_μ : g_M), f_X12_valueFor_L28 N n x_3 x_4 x_5 x_6 x_7 x_8 μ = some (z_6, z_μ) → g_V (g_XM D cA b) Y_X12_valueFor 8 0 0 Q k 0 0 90 [some (.ref 0), none, none, none, some (.int x_4), some (.int x_5), some (.int z_6), none, none, none] [] (z_μ, g_rfM) → g_V (g_XM D cA b) Y_X12_valueFor 8 0 0 Q k 0 0 28 [some (.ref 0), none, none, some (.int x_3), some (.int x_4), some (.int x_5), some (.int x_6), some (.int x_7), some (.int x_8), none] [] (μ, g_rfM) := by
  intro n
  induction n with
  | zero =>
    intro x_3 x_4 x_5 x_6 x_7 x_8 μ z_6 z_μ h
    rw [f_X12_valueFor_L28] at h
    cases h
  | succ n ih =>
    intro x_3 x_4 x_5 x_6 x_7 x_8 μ z_6 z_μ h hc
    rw [f_X12_valueFor_L28] at h
    refine g_iload dX12_valueFor_28 rfl ?_
    refine g_iload_n dX12_valueFor_30 rfl ?_
    refine g_icmp_gt 90 (by decide) dX12_valueFor_31 (fun c3 => ?_) (fun c3 => ?_)
    · have h := g_ifp c3 h
      obtain ⟨rfl, rfl⟩ := g_inj2 h
      exact g_less _ (g_subS (g_subN (g_subN (g_subN (g_subS (g_subS (g_subS (g_subN (g_subN (g_subN g_sub0)))))))))) hc
    · have h := g_ifn c3 h
      refine g_aload_n dX12_valueFor_34 rfl ?_
      refine m_getR fl_X12_7 rfl rfl rfl dX12_valueFor_35 ?_
      refine g_iload dX12_valueFor_38 rfl ?_
      refine g_iload dX12_valueFor_40 rfl ?_
      obtain ⟨μ4, qμ4, h⟩ := g_bind h
      refine m_iast rfl qμ4 dX12_valueFor_42 ?_
      refine g_aload_n dX12_valueFor_43 rfl ?_
      refine g_bipush (v := 16) dX12_valueFor_44 (by decide) ?_
      refine g_ic0 dX12_valueFor_46 ?_
      obtain ⟨⟨x5, μ7⟩, q6, h⟩ := g_bind h
      refine m_cV mt_X12_onBy ml_X12_240 mv_X12_onBy dX12_valueFor_47 (k_X12_onBy q6) rfl rfl rfl rfl (by decide) ⟨Nat.le_refl _, Nat.le_refl _⟩ (Nat.le_of_ble_eq_true rfl) ?_
      refine g_istore_9 rfl (Nat.le_of_ble_eq_true rfl) dX12_valueFor_50 ?_
      refine g_iload dX12_valueFor_52 rfl ?_
      refine g_iload dX12_valueFor_54 rfl ?_
      refine g_icmp_le 64 (by decide) dX12_valueFor_56 (fun c8 => ?_) (fun c8 => ?_)
      · have h := g_ifp c8 h
        refine g_iload dX12_valueFor_64 rfl ?_
        refine g_istore_6 rfl (Nat.le_of_ble_eq_true rfl) dX12_valueFor_66 ?_
        refine g_iload dX12_valueFor_68 rfl ?_
        refine g_iload dX12_valueFor_70 rfl ?_
        refine g_icmp_le 80 (by decide) dX12_valueFor_72 (fun c9 => ?_) (fun cd => absurd c8 cd)
        refine g_iload dX12_valueFor_80 rfl ?_
        refine g_istore_7 rfl (Nat.le_of_ble_eq_true rfl) dX12_valueFor_82 ?_
        refine g_iinc_8 (v := 1) rfl (by decide) (Nat.le_of_ble_eq_true rfl) dX12_valueFor_84 ?_
        refine g_goto 28 (by decide) dX12_valueFor_87 ?_
        exact g_less _ (g_subS (g_subN (g_subN (g_subS (g_subS (g_subS (g_subS (g_subS (g_subS (g_subN g_sub0)))))))))) (ih _ _ _ _ _ _ _ _ _ h hc)
      · have h := g_ifn c8 h
        refine g_iload dX12_valueFor_59 rfl ?_
        refine g_goto 66 (by decide) dX12_valueFor_61 ?_
        refine g_istore_6 rfl (Nat.le_of_ble_eq_true rfl) dX12_valueFor_66 ?_
        refine g_iload dX12_valueFor_68 rfl ?_
        refine g_iload dX12_valueFor_70 rfl ?_
        refine g_icmp_le 80 (by decide) dX12_valueFor_72 (fun cd => absurd cd c8) (fun c9 => ?_)
        refine g_iload dX12_valueFor_75 rfl ?_
        refine g_goto 82 (by decide) dX12_valueFor_77 ?_
        refine g_istore_7 rfl (Nat.le_of_ble_eq_true rfl) dX12_valueFor_82 ?_
        refine g_iinc_8 (v := 1) rfl (by decide) (Nat.le_of_ble_eq_true rfl) dX12_valueFor_84 ?_
        refine g_goto 28 (by decide) dX12_valueFor_87 ?_
        exact g_less _ (g_subS (g_subN (g_subN (g_subS (g_subS (g_subS (g_subS (g_subS (g_subS (g_subN g_sub0)))))))))) (ih _ _ _ _ _ _ _ _ _ h hc)
set_option maxRecDepth 100000 in
set_option maxHeartbeats 4000000 in
theorem k_X12_valueFor {D : va_G} {cA : Nat → ClassId} {b k : Nat} {N : Nat} {a1 : Int32} {a2 : Int32} {a3 : Int32} {μ : g_M} {z : Int32 × g_M} (h : f_X12_valueFor N a1 a2 a3 μ = some z) : g_K (g_XM D cA b) yX12_valueFor Y_X12_valueFor 8 0 0 k [.ref 0, .int a1, .int a2, .int a3] (μ, g_rfM) (fun r1 σ1 => r1 = some (.int z.1) ∧ σ1 = (z.2, g_rfM)) := by
  unfold f_X12_valueFor at h
  refine g_met 6 (by decide) rfl rfl (Nat.le_of_ble_eq_true rfl) ?_
  refine g_bipush (v := 8) dX12_valueFor_0 (by decide) ?_
  refine g_ic5 dX12_valueFor_2 ?_
  refine g_iload_n dX12_valueFor_3 rfl ?_
  refine g_imul dX12_valueFor_4 ?_
  refine g_iadd dX12_valueFor_5 ?_
  refine g_iload_n dX12_valueFor_6 rfl ?_
  refine g_iadd dX12_valueFor_7 ?_
  obtain ⟨x1, ex1, h⟩ := g_let h
  refine g_top ex1 ?_
  refine g_istore_4 rfl (Nat.le_of_ble_eq_true rfl) dX12_valueFor_8 ?_
  refine g_aload_n dX12_valueFor_10 rfl ?_
  refine m_getR fl_X12_7 rfl rfl rfl dX12_valueFor_11 ?_
  refine g_iload dX12_valueFor_14 rfl ?_
  obtain ⟨x2, qx2, h⟩ := g_bind h
  refine m_iald rfl qx2 dX12_valueFor_16 ?_
  refine g_istore_5 rfl (Nat.le_of_ble_eq_true rfl) dX12_valueFor_17 ?_
  refine g_ic0 dX12_valueFor_19 ?_
  refine g_istore_6 rfl (Nat.le_of_ble_eq_true rfl) dX12_valueFor_20 ?_
  refine g_icm1 dX12_valueFor_22 ?_
  refine g_istore_7 rfl (Nat.le_of_ble_eq_true rfl) dX12_valueFor_23 ?_
  refine g_ic0 dX12_valueFor_25 ?_
  refine g_istore_8 rfl (Nat.le_of_ble_eq_true rfl) dX12_valueFor_26 ?_
  obtain ⟨⟨x3, μ4⟩, q5, h⟩ := g_bind h
  refine g_less _ (g_subS (g_subN (g_subN (g_subS (g_subS (g_subS (g_subS (g_subS (g_subS (g_subN g_sub0)))))))))) (k_X12_valueFor_L28 _ _ _ _ _ _ _ _ _ _ q5 ?_)
  refine g_aload_n dX12_valueFor_90 rfl ?_
  refine m_getR fl_X12_7 rfl rfl rfl dX12_valueFor_91 ?_
  refine g_iload dX12_valueFor_94 rfl ?_
  refine g_iload dX12_valueFor_96 rfl ?_
  obtain ⟨μ6, qμ6, h⟩ := g_bind h
  refine m_iast rfl qμ6 dX12_valueFor_98 ?_
  refine g_iload dX12_valueFor_99 rfl ?_
  obtain rfl := Option.some.inj h
  exact g_iret rfl (Nat.le_refl _) rfl dX12_valueFor_101 ⟨rfl, rfl⟩
set_option maxRecDepth 100000 in
set_option maxHeartbeats 4000000 in
theorem k_X12_placeFor {D : va_G} {cA : Nat → ClassId} {b k : Nat} {N : Nat} {a1 : Int32} {μ : g_M} {z : Int32 × g_M} (h : f_X12_placeFor N a1 μ = some z) : g_K (g_XM D cA b) yX12_placeFor Y_X12_placeFor 9 0 0 k [.ref 0, .int a1] (μ, g_rfM) (fun r1 σ1 => r1 = some (.int z.1) ∧ σ1 = (z.2, g_rfM)) := by
  unfold f_X12_placeFor at h
  refine g_met 0 (by decide) rfl rfl (Nat.le_of_ble_eq_true rfl) ?_
  refine g_aload_n dX12_placeFor_0 rfl ?_
  refine g_iload_n dX12_placeFor_1 rfl ?_
  refine m_cV mt_X12_isOven ml_X12_110 mv_X12_isOven dX12_placeFor_2 (k_X12_isOven rfl) rfl rfl rfl rfl (by decide) ⟨Nat.le_refl _, Nat.le_refl _⟩ (Nat.le_of_ble_eq_true rfl) ?_
  refine g_if_eq 19 (by decide) dX12_placeFor_5 (fun c1 => ?_) (fun c1 => ?_)
  · have h := g_ifp c1 h
    refine g_icm1 dX12_placeFor_19 ?_
    obtain rfl := Option.some.inj h
    exact g_iret rfl (Nat.le_refl _) rfl dX12_placeFor_20 ⟨rfl, rfl⟩
  · have h := g_ifn c1 h
    refine g_aload_n dX12_placeFor_8 rfl ?_
    refine g_iload_n dX12_placeFor_9 rfl ?_
    refine g_ic2 dX12_placeFor_10 ?_
    refine g_bipush (v := 15) dX12_placeFor_11 (by decide) ?_
    obtain ⟨⟨x2, μ4⟩, q3, h⟩ := g_bind h
    refine m_cV mt_X12_valueFor ml_X12_243 mv_X12_valueFor dX12_placeFor_13 (k_X12_valueFor q3) rfl rfl rfl rfl (by decide) ⟨Nat.le_refl _, Nat.le_refl _⟩ (Nat.le_of_ble_eq_true rfl) ?_
    refine g_goto 20 (by decide) dX12_placeFor_16 ?_
    obtain rfl := Option.some.inj h
    exact g_iret rfl (Nat.le_refl _) rfl dX12_placeFor_20 ⟨rfl, rfl⟩
set_option maxRecDepth 100000 in
set_option maxHeartbeats 4000000 in
theorem k_X12_warmFor {D : va_G} {cA : Nat → ClassId} {b k : Nat} {N : Nat} {a1 : Int32} {μ : g_M} {z : Int32 × g_M} (h : f_X12_warmFor N a1 μ = some z) : g_K (g_XM D cA b) yX12_warmFor Y_X12_warmFor 9 0 0 k [.ref 0, .int a1] (μ, g_rfM) (fun r1 σ1 => r1 = some (.int z.1) ∧ σ1 = (z.2, g_rfM)) := by
  unfold f_X12_warmFor at h
  refine g_met 0 (by decide) rfl rfl (Nat.le_of_ble_eq_true rfl) ?_
  refine g_aload_n dX12_warmFor_0 rfl ?_
  refine g_iload_n dX12_warmFor_1 rfl ?_
  refine m_cV mt_X12_isOven ml_X12_110 mv_X12_isOven dX12_warmFor_2 (k_X12_isOven rfl) rfl rfl rfl rfl (by decide) ⟨Nat.le_refl _, Nat.le_refl _⟩ (Nat.le_of_ble_eq_true rfl) ?_
  refine g_if_eq 19 (by decide) dX12_warmFor_5 (fun c1 => ?_) (fun c1 => ?_)
  · have h := g_ifp c1 h
    refine g_icm1 dX12_warmFor_19 ?_
    obtain rfl := Option.some.inj h
    exact g_iret rfl (Nat.le_refl _) rfl dX12_warmFor_20 ⟨rfl, rfl⟩
  · have h := g_ifn c1 h
    refine g_aload_n dX12_warmFor_8 rfl ?_
    refine g_iload_n dX12_warmFor_9 rfl ?_
    refine g_ic1 dX12_warmFor_10 ?_
    refine g_bipush (v := 9) dX12_warmFor_11 (by decide) ?_
    obtain ⟨⟨x2, μ4⟩, q3, h⟩ := g_bind h
    refine m_cV mt_X12_valueFor ml_X12_243 mv_X12_valueFor dX12_warmFor_13 (k_X12_valueFor q3) rfl rfl rfl rfl (by decide) ⟨Nat.le_refl _, Nat.le_refl _⟩ (Nat.le_of_ble_eq_true rfl) ?_
    refine g_goto 20 (by decide) dX12_warmFor_16 ?_
    obtain rfl := Option.some.inj h
    exact g_iret rfl (Nat.le_refl _) rfl dX12_warmFor_20 ⟨rfl, rfl⟩
set_option maxRecDepth 100000 in
set_option maxHeartbeats 4000000 in
theorem k_X12_isPair {D : va_G} {cA : Nat → ClassId} {b k : Nat} {a1 : Int32} {a2 : Int32} {μ : g_M} {z : Int32} (h : f_X12_isPair a1 a2 μ = some z) : g_K (g_XM D cA b) yX12_isPair Y_X12_isPair 4 0 0 k [.ref 0, .int a1, .int a2] (μ, g_rfM) (fun r1 σ1 => r1 = some (.int z) ∧ σ1 = (μ, g_rfM)) := by
  unfold f_X12_isPair at h
  refine g_met 0 (by decide) rfl rfl (Nat.le_of_ble_eq_true rfl) ?_
  refine g_aload_n dX12_isPair_0 rfl ?_
  refine g_iload_n dX12_isPair_1 rfl ?_
  refine g_iload_n dX12_isPair_2 rfl ?_
  obtain ⟨x1, q2, h⟩ := g_bind h
  refine m_cV mt_X12_longs ml_X12_107 mv_X12_longs dX12_isPair_3 (k_X12_longs q2) rfl rfl rfl rfl (by decide) ⟨Nat.le_refl _, Nat.le_refl _⟩ (Nat.le_of_ble_eq_true rfl) ?_
  refine g_if_le 22 (by decide) dX12_isPair_6 (fun c3 => ?_) (fun c3 => ?_)
  · have h := g_ifp c3 h
    refine g_ic0 dX12_isPair_22 ?_
    obtain rfl := Option.some.inj h
    exact g_zret rfl (Nat.le_refl _) rfl rfl dX12_isPair_23 ⟨rfl, rfl⟩
  · have h := g_ifn c3 h
    refine g_aload_n dX12_isPair_9 rfl ?_
    refine g_iload_n dX12_isPair_10 rfl ?_
    refine g_iload_n dX12_isPair_11 rfl ?_
    obtain ⟨x4, q5, h⟩ := g_bind h
    refine m_cV mt_X12_longs ml_X12_107 mv_X12_longs dX12_isPair_12 (k_X12_longs q5) rfl rfl rfl rfl (by decide) ⟨Nat.le_refl _, Nat.le_refl _⟩ (Nat.le_of_ble_eq_true rfl) ?_
    refine g_if_le 22 (by decide) dX12_isPair_15 (fun c6 => ?_) (fun c6 => ?_)
    · have h := g_ifp c6 h
      refine g_ic0 dX12_isPair_22 ?_
      obtain rfl := Option.some.inj h
      exact g_zret rfl (Nat.le_refl _) rfl rfl dX12_isPair_23 ⟨rfl, rfl⟩
    · have h := g_ifn c6 h
      refine g_ic1 dX12_isPair_18 ?_
      refine g_goto 23 (by decide) dX12_isPair_19 ?_
      obtain rfl := Option.some.inj h
      exact g_zret rfl (Nat.le_refl _) rfl rfl dX12_isPair_23 ⟨rfl, rfl⟩
set_option maxRecDepth 100000 in
set_option maxHeartbeats 4000000 in
theorem k_X12_pairs_L16 {D : va_G} {cA : Nat → ClassId} {b k : Nat} {Q : Option Value → g_S → Prop} {N : Nat} : ∀ (n : Nat) (x_1 : Int32) (x_2 : Int32) (x_3 : Int32) (μ : g_M) (z_1 : Int32), f_X12_pairs_L16 N n x_1 x_2 x_3 μ = some z_1 → g_V (g_XM D cA b) Y_X12_pairs 5 0 0 Q k 0 0 44 [some (.ref 0), some (.int z_1), some (.int x_2), none] [] (μ, g_rfM) → g_V (g_XM D cA b) Y_X12_pairs 5 0 0 Q k 0 0 16 [some (.ref 0), some (.int x_1), some (.int x_2), some (.int x_3)] [] (μ, g_rfM) := by
  intro n
  induction n with
  | zero =>
    intro x_1 x_2 x_3 μ z_1 h
    rw [f_X12_pairs_L16] at h
    cases h
  | succ n ih =>
    intro x_1 x_2 x_3 μ z_1 h hc
    rw [f_X12_pairs_L16] at h
    refine g_iload_n dX12_pairs_16 rfl ?_
    refine g_iload_n dX12_pairs_17 rfl ?_
    refine g_icmp_ge 44 (by decide) dX12_pairs_18 (fun c2 => ?_) (fun c2 => ?_)
    · have h := g_ifp c2 h
      obtain rfl := Option.some.inj h
      exact g_less _ (g_subS (g_subS (g_subS (g_subN g_sub0)))) hc
    · have h := g_ifn c2 h
      refine g_iload_n dX12_pairs_21 rfl ?_
      refine g_aload_n dX12_pairs_22 rfl ?_
      refine g_iload_n dX12_pairs_23 rfl ?_
      refine g_iload_n dX12_pairs_24 rfl ?_
      obtain ⟨x3, q4, h⟩ := g_bind h
      refine m_cV mt_X12_isPair ml_X12_247 mv_X12_isPair dX12_pairs_25 (k_X12_isPair q4) rfl rfl rfl rfl (by decide) ⟨Nat.le_refl _, Nat.le_refl _⟩ (Nat.le_of_ble_eq_true rfl) ?_
      refine g_if_eq 35 (by decide) dX12_pairs_28 (fun c5 => ?_) (fun c5 => ?_)
      · have h := g_ifp c5 h
        refine g_ic0 dX12_pairs_35 ?_
        refine g_iadd dX12_pairs_36 ?_
        obtain ⟨x6, ex6, h⟩ := g_let h
        refine g_top ex6 ?_
        refine g_istore_1 rfl (Nat.le_of_ble_eq_true rfl) dX12_pairs_37 ?_
        refine g_iinc_3 (v := 1) rfl (by decide) (Nat.le_of_ble_eq_true rfl) dX12_pairs_38 ?_
        refine g_goto 16 (by decide) dX12_pairs_41 ?_
        exact g_less _ (g_subS (g_subS (g_subS (g_subS g_sub0)))) (ih _ _ _ _ _ h hc)
      · have h := g_ifn c5 h
        refine g_ic1 dX12_pairs_31 ?_
        refine g_goto 36 (by decide) dX12_pairs_32 ?_
        refine g_iadd dX12_pairs_36 ?_
        obtain ⟨x7, ex7, h⟩ := g_let h
        refine g_top ex7 ?_
        refine g_istore_1 rfl (Nat.le_of_ble_eq_true rfl) dX12_pairs_37 ?_
        refine g_iinc_3 (v := 1) rfl (by decide) (Nat.le_of_ble_eq_true rfl) dX12_pairs_38 ?_
        refine g_goto 16 (by decide) dX12_pairs_41 ?_
        exact g_less _ (g_subS (g_subS (g_subS (g_subS g_sub0)))) (ih _ _ _ _ _ h hc)
set_option maxRecDepth 100000 in
set_option maxHeartbeats 4000000 in
theorem k_X12_pairs_L4 {D : va_G} {cA : Nat → ClassId} {b k : Nat} {Q : Option Value → g_S → Prop} {N : Nat} : ∀ (n : Nat) (x_1 : Int32) (x_2 : Int32) (μ : g_M) (z_1 : Int32), f_X12_pairs_L4 N n x_1 x_2 μ = some z_1 → g_V (g_XM D cA b) Y_X12_pairs 5 0 0 Q k 0 0 50 [none, some (.int z_1), none, none] [] (μ, g_rfM) → g_V (g_XM D cA b) Y_X12_pairs 5 0 0 Q k 0 0 4 [some (.ref 0), some (.int x_1), some (.int x_2), none] [] (μ, g_rfM) := by
  intro n
  induction n with
  | zero =>
    intro x_1 x_2 μ z_1 h
    rw [f_X12_pairs_L4] at h
    cases h
  | succ n ih =>
    intro x_1 x_2 μ z_1 h hc
    rw [f_X12_pairs_L4] at h
    refine g_iload_n dX12_pairs_4 rfl ?_
    refine g_aload_n dX12_pairs_5 rfl ?_
    refine m_getR fl_X12_7 rfl rfl rfl dX12_pairs_6 ?_
    refine g_ic0 dX12_pairs_9 ?_
    refine m_ialdc 0 rfl rfl (by decide) (by decide) dX12_pairs_10 ?_
    refine g_icmp_ge 50 (by decide) dX12_pairs_11 (fun c1 => ?_) (fun c1 => ?_)
    · have h := g_ifp c1 h
      obtain rfl := Option.some.inj h
      exact g_less _ (g_subN (g_subS (g_subN (g_subN g_sub0)))) hc
    · have h := g_ifn c1 h
      refine g_ic0 dX12_pairs_14 ?_
      refine g_istore_3 rfl (Nat.le_of_ble_eq_true rfl) dX12_pairs_15 ?_
      obtain ⟨x2, q3, h⟩ := g_bind h
      refine g_less _ (g_subS (g_subS (g_subS (g_subS g_sub0)))) (k_X12_pairs_L16 _ _ _ _ _ _ q3 ?_)
      refine g_iinc_2 (v := 1) rfl (by decide) (Nat.le_of_ble_eq_true rfl) dX12_pairs_44 ?_
      refine g_goto 4 (by decide) dX12_pairs_47 ?_
      exact g_less _ (g_subS (g_subS (g_subS (g_subN g_sub0)))) (ih _ _ _ _ h hc)
set_option maxRecDepth 100000 in
set_option maxHeartbeats 4000000 in
theorem k_X12_pairs {D : va_G} {cA : Nat → ClassId} {b k : Nat} {N : Nat} {μ : g_M} {z : Int32} (h : f_X12_pairs N μ = some z) : g_K (g_XM D cA b) yX12_pairs Y_X12_pairs 5 0 0 k [.ref 0] (μ, g_rfM) (fun r1 σ1 => r1 = some (.int z) ∧ σ1 = (μ, g_rfM)) := by
  unfold f_X12_pairs at h
  refine g_met 3 (by decide) rfl rfl (Nat.le_of_ble_eq_true rfl) ?_
  refine g_ic0 dX12_pairs_0 ?_
  refine g_istore_1 rfl (Nat.le_of_ble_eq_true rfl) dX12_pairs_1 ?_
  refine g_ic0 dX12_pairs_2 ?_
  refine g_istore_2 rfl (Nat.le_of_ble_eq_true rfl) dX12_pairs_3 ?_
  obtain ⟨x1, q2, h⟩ := g_bind h
  refine g_less _ (g_subS (g_subS (g_subS (g_subN g_sub0)))) (k_X12_pairs_L4 _ _ _ _ _ q2 ?_)
  refine g_iload_n dX12_pairs_50 rfl ?_
  obtain rfl := Option.some.inj h
  exact g_iret rfl (Nat.le_refl _) rfl dX12_pairs_51 ⟨rfl, rfl⟩
set_option maxRecDepth 100000 in
set_option maxHeartbeats 4000000 in
theorem k_X12_weds_L103 {D : va_G} {cA : Nat → ClassId} {b k : Nat} {Q : Option Value → g_S → Prop} {F : Int32 → Int32 → Int32 → Int32 → g_M → Option g_M} {d0 : Nat} (hF : ∀ (a1 : Int32) (a2 : Int32) (a3 : Int32) (a4 : Int32) (μ : g_M) (z : g_M), F a1 a2 a3 a4 μ = some z → g_K (g_XM D cA b) yX12_weds Y_X12_weds d0 0 0 k [.ref 0, .int a1, .int a2, .int a3, .int a4] (μ, g_rfM) (fun r1 σ1 => r1 = none ∧ σ1 = (z, g_rfM))) {N : Nat} : ∀ (n : Nat) (x_1 : Int32) (x_2 : Int32) (x_3 : Int32) (x_4 : Int32) (x_5 : Int32) (μ : g_M) (z_μ : g_M), f_X12_weds_L103 F N n x_1 x_2 x_3 x_4 x_5 μ = some z_μ → g_V (g_XM D cA b) Y_X12_weds (d0 + 5) 0 0 Q k 0 0 189 [some (.ref 0), some (.int x_1), some (.int x_2), some (.int x_3), some (.int x_4), none] [] (z_μ, g_rfM) → g_V (g_XM D cA b) Y_X12_weds (d0 + 5) 0 0 Q k 0 0 103 [some (.ref 0), some (.int x_1), some (.int x_2), some (.int x_3), some (.int x_4), some (.int x_5)] [] (μ, g_rfM) := by
  intro n
  induction n with
  | zero =>
    intro x_1 x_2 x_3 x_4 x_5 μ z_μ h
    rw [f_X12_weds_L103] at h
    cases h
  | succ n ih =>
    intro x_1 x_2 x_3 x_4 x_5 μ z_μ h hc
    rw [f_X12_weds_L103] at h
    refine g_iload dX12_weds_103 rfl ?_
    refine g_aload_n dX12_weds_105 rfl ?_
    refine m_getR fl_X12_7 rfl rfl rfl dX12_weds_106 ?_
    refine g_ic0 dX12_weds_109 ?_
    refine m_ialdc 0 rfl rfl (by decide) (by decide) dX12_weds_110 ?_
    refine g_icmp_ge 189 (by decide) dX12_weds_111 (fun c4 => ?_) (fun c4 => ?_)
    · have h := g_ifp c4 h
      obtain rfl := Option.some.inj h
      exact g_less _ (g_subS (g_subS (g_subS (g_subS (g_subS (g_subN g_sub0)))))) hc
    · have h := g_ifn c4 h
      refine g_iload_n dX12_weds_114 rfl ?_
      refine g_iload dX12_weds_115 rfl ?_
      refine g_ishr dX12_weds_117 ?_
      refine g_ic1 dX12_weds_118 ?_
      refine g_iand dX12_weds_119 ?_
      refine g_if_ne 183 (by decide) dX12_weds_120 (fun c5 => ?_) (fun c5 => ?_)
      · have h := g_ifn c5 h
        refine g_iinc_5 (v := 1) rfl (by decide) (Nat.le_of_ble_eq_true rfl) dX12_weds_183 ?_
        refine g_goto 103 (by decide) dX12_weds_186 ?_
        exact g_less _ (g_subS (g_subS (g_subS (g_subS (g_subS (g_subS g_sub0)))))) (ih _ _ _ _ _ _ _ h hc)
      · have h := g_ifp c5 h
        refine g_aload_n dX12_weds_123 rfl ?_
        refine g_iload_n dX12_weds_124 rfl ?_
        refine g_iload dX12_weds_125 rfl ?_
        obtain ⟨x6, q7, h⟩ := g_bind h
        refine m_cV mt_X12_isPair ml_X12_247 mv_X12_isPair dX12_weds_127 (k_X12_isPair q7) rfl rfl rfl rfl (by omega) ⟨Nat.le_refl _, Nat.le_refl _⟩ (Nat.le_of_ble_eq_true rfl) ?_
        refine g_if_eq 183 (by decide) dX12_weds_130 (fun c8 => ?_) (fun c8 => ?_)
        · have h := g_ifp c8 h
          refine g_iinc_5 (v := 1) rfl (by decide) (Nat.le_of_ble_eq_true rfl) dX12_weds_183 ?_
          refine g_goto 103 (by decide) dX12_weds_186 ?_
          exact g_less _ (g_subS (g_subS (g_subS (g_subS (g_subS (g_subS g_sub0)))))) (ih _ _ _ _ _ _ _ h hc)
        · have h := g_ifn c8 h
          refine g_aload_n dX12_weds_133 rfl ?_
          refine m_getR fl_X12_28 rfl rfl rfl dX12_weds_134 ?_
          refine g_iload_n dX12_weds_137 rfl ?_
          refine g_iload dX12_weds_138 rfl ?_
          obtain ⟨μ9, qμ9, h⟩ := g_bind h
          refine m_iast rfl qμ9 dX12_weds_140 ?_
          refine g_aload_n dX12_weds_141 rfl ?_
          refine m_getR fl_X12_28 rfl rfl rfl dX12_weds_142 ?_
          refine g_iload dX12_weds_145 rfl ?_
          refine g_iload_n dX12_weds_147 rfl ?_
          obtain ⟨μ10, qμ10, h⟩ := g_bind h
          refine m_iast rfl qμ10 dX12_weds_148 ?_
          refine g_aload_n dX12_weds_149 rfl ?_
          refine g_iload_n dX12_weds_150 rfl ?_
          refine g_ic1 dX12_weds_151 ?_
          refine g_iadd dX12_weds_152 ?_
          refine g_iload_n dX12_weds_153 rfl ?_
          refine g_ic1 dX12_weds_154 ?_
          refine g_iload dX12_weds_155 rfl ?_
          refine g_ishl dX12_weds_157 ?_
          refine g_ior dX12_weds_158 ?_
          refine g_iload_n dX12_weds_159 rfl ?_
          refine g_ic1 dX12_weds_160 ?_
          refine g_iadd dX12_weds_161 ?_
          refine g_iload dX12_weds_162 rfl ?_
          refine g_aload_n dX12_weds_164 rfl ?_
          refine g_iload_n dX12_weds_165 rfl ?_
          refine g_iload dX12_weds_166 rfl ?_
          obtain ⟨x11, q12, h⟩ := g_bind h
          refine m_cV mt_X12_longs ml_X12_107 mv_X12_longs dX12_weds_168 (k_X12_longs q12) rfl rfl rfl rfl (by omega) ⟨Nat.le_refl _, Nat.le_refl _⟩ (Nat.le_of_ble_eq_true rfl) ?_
          refine g_iadd dX12_weds_171 ?_
          refine g_aload_n dX12_weds_172 rfl ?_
          refine g_iload dX12_weds_173 rfl ?_
          refine g_iload_n dX12_weds_175 rfl ?_
          obtain ⟨x13, q14, h⟩ := g_bind h
          refine m_cV mt_X12_longs ml_X12_107 mv_X12_longs dX12_weds_176 (k_X12_longs q14) rfl rfl rfl rfl (by omega) ⟨Nat.le_refl _, Nat.le_refl _⟩ (Nat.le_of_ble_eq_true rfl) ?_
          refine g_iadd dX12_weds_179 ?_
          obtain ⟨μ17, q16, h⟩ := g_bind h
          refine m_cVv mt_X12_weds ml_X12_256 mv_X12_weds dX12_weds_180 (hF _ _ _ _ _ _ q16) rfl rfl rfl rfl (by omega) ⟨Nat.le_refl _, Nat.le_refl _⟩ (Nat.le_of_ble_eq_true rfl) ?_
          refine g_iinc_5 (v := 1) rfl (by decide) (Nat.le_of_ble_eq_true rfl) dX12_weds_183 ?_
          refine g_goto 103 (by decide) dX12_weds_186 ?_
          exact g_less _ (g_subS (g_subS (g_subS (g_subS (g_subS (g_subS g_sub0)))))) (ih _ _ _ _ _ _ _ h hc)
set_option maxRecDepth 100000 in
set_option maxHeartbeats 4000000 in
theorem k_X12_weds_L49 {D : va_G} {cA : Nat → ClassId} {b k : Nat} {Q : Option Value → g_S → Prop} {F : Int32 → Int32 → Int32 → Int32 → g_M → Option g_M} {d0 : Nat} (hF : ∀ (a1 : Int32) (a2 : Int32) (a3 : Int32) (a4 : Int32) (μ : g_M) (z : g_M), F a1 a2 a3 a4 μ = some z → g_K (g_XM D cA b) yX12_weds Y_X12_weds d0 0 0 k [.ref 0, .int a1, .int a2, .int a3, .int a4] (μ, g_rfM) (fun r1 σ1 => r1 = none ∧ σ1 = (z, g_rfM))) {N : Nat} : ∀ (n : Nat) (x_5 : Int32) (μ : g_M) (z_μ : g_M), f_X12_weds_L49 F N n x_5 μ = some z_μ → g_V (g_XM D cA b) Y_X12_weds (d0 + 5) 0 0 Q k 0 0 76 [none, none, none, none, none, none] [] (z_μ, g_rfM) → g_V (g_XM D cA b) Y_X12_weds (d0 + 5) 0 0 Q k 0 0 49 [some (.ref 0), none, none, none, none, some (.int x_5)] [] (μ, g_rfM) := by
  intro n
  induction n with
  | zero =>
    intro x_5 μ z_μ h
    rw [f_X12_weds_L49] at h
    cases h
  | succ n ih =>
    intro x_5 μ z_μ h hc
    rw [f_X12_weds_L49] at h
    refine g_iload dX12_weds_49 rfl ?_
    refine g_bipush (v := 6) dX12_weds_51 (by decide) ?_
    refine g_icmp_ge 76 (by decide) dX12_weds_53 (fun c16 => ?_) (fun c16 => ?_)
    · have h := g_ifp c16 h
      obtain rfl := Option.some.inj h
      exact g_less _ (g_subN (g_subN (g_subN (g_subN (g_subN (g_subN g_sub0)))))) hc
    · have h := g_ifn c16 h
      refine g_aload_n dX12_weds_56 rfl ?_
      refine m_getR fl_X12_31 rfl rfl rfl dX12_weds_57 ?_
      refine g_iload dX12_weds_60 rfl ?_
      refine g_aload_n dX12_weds_62 rfl ?_
      refine m_getR fl_X12_28 rfl rfl rfl dX12_weds_63 ?_
      refine g_iload dX12_weds_66 rfl ?_
      obtain ⟨x17, qx17, h⟩ := g_bind h
      refine m_iald rfl qx17 dX12_weds_68 ?_
      obtain ⟨μ18, qμ18, h⟩ := g_bind h
      refine m_iast rfl qμ18 dX12_weds_69 ?_
      refine g_iinc_5 (v := 1) rfl (by decide) (Nat.le_of_ble_eq_true rfl) dX12_weds_70 ?_
      refine g_goto 49 (by decide) dX12_weds_73 ?_
      exact g_less _ (g_subS (g_subN (g_subN (g_subN (g_subN (g_subS g_sub0)))))) (ih _ _ _ h hc)
set_option maxRecDepth 100000 in
set_option maxHeartbeats 4000000 in
theorem k_X12_weds {D : va_G} {cA : Nat → ClassId} {b k : Nat} {N : Nat} : ∀ (n : Nat) (a1 : Int32) (a2 : Int32) (a3 : Int32) (a4 : Int32) (μ : g_M) (z : g_M), f_X12_weds N n a1 a2 a3 a4 μ = some z → g_K (g_XM D cA b) yX12_weds Y_X12_weds (5 * n) 0 0 k [.ref 0, .int a1, .int a2, .int a3, .int a4] (μ, g_rfM) (fun r1 σ1 => r1 = none ∧ σ1 = (z, g_rfM)) := by
  intro n
  induction n with
  | zero =>
    intro a1 a2 a3 a4 μ z h
    rw [f_X12_weds] at h
    cases h
  | succ n hF =>
    intro a1 a2 a3 a4 μ z h
    rw [f_X12_weds] at h
    refine g_met (d := 5 * n + 5) 1 (by decide) rfl rfl (Nat.le_of_ble_eq_true rfl) ?_
    refine g_iload_n dX12_weds_0 rfl ?_
    refine g_aload_n dX12_weds_1 rfl ?_
    refine m_getR fl_X12_7 rfl rfl rfl dX12_weds_2 ?_
    refine g_ic0 dX12_weds_5 ?_
    refine m_ialdc 0 rfl rfl (by decide) (by decide) dX12_weds_6 ?_
    refine g_icmp_ne 77 (by decide) dX12_weds_7 (fun c1 => ?_) (fun c1 => ?_)
    · have h := g_ifn c1 h
      refine g_iload_n dX12_weds_77 rfl ?_
      refine g_iload_n dX12_weds_78 rfl ?_
      refine g_ishr dX12_weds_79 ?_
      refine g_ic1 dX12_weds_80 ?_
      refine g_iand dX12_weds_81 ?_
      refine g_ic1 dX12_weds_82 ?_
      refine g_icmp_ne 98 (by decide) dX12_weds_83 (fun c2 => ?_) (fun c2 => ?_)
      · have h := g_ifn c2 h
        refine g_iload_n dX12_weds_98 rfl ?_
        refine g_ic1 dX12_weds_99 ?_
        refine g_iadd dX12_weds_100 ?_
        obtain ⟨x3, ex3, h⟩ := g_let h
        refine g_top ex3 ?_
        refine g_istore_5 rfl (Nat.le_of_ble_eq_true rfl) dX12_weds_101 ?_
        obtain ⟨μ4, q5, h⟩ := g_bind h
        refine g_less _ (g_subS (g_subS (g_subS (g_subS (g_subS (g_subS g_sub0)))))) (k_X12_weds_L103 hF _ _ _ _ _ _ _ _ q5 ?_)
        refine g_aload_n dX12_weds_189 rfl ?_
        refine m_getR fl_X12_28 rfl rfl rfl dX12_weds_190 ?_
        refine g_iload_n dX12_weds_193 rfl ?_
        refine g_bipush (v := 6) dX12_weds_194 (by decide) ?_
        obtain ⟨μ6, qμ6, h⟩ := g_bind h
        refine m_iast rfl qμ6 dX12_weds_196 ?_
        refine g_aload_n dX12_weds_197 rfl ?_
        refine g_iload_n dX12_weds_198 rfl ?_
        refine g_ic1 dX12_weds_199 ?_
        refine g_iadd dX12_weds_200 ?_
        refine g_iload_n dX12_weds_201 rfl ?_
        refine g_iload_n dX12_weds_202 rfl ?_
        refine g_iload dX12_weds_203 rfl ?_
        obtain ⟨μ9, q8, h⟩ := g_bind h
        refine m_cVv mt_X12_weds ml_X12_256 mv_X12_weds dX12_weds_205 (hF _ _ _ _ _ _ q8) rfl rfl rfl rfl (by omega) ⟨Nat.le_refl _, Nat.le_refl _⟩ (Nat.le_of_ble_eq_true rfl) ?_
        obtain rfl := Option.some.inj h
        exact g_vret rfl (Nat.le_refl _) rfl dX12_weds_208 ⟨rfl, rfl⟩
      · have h := g_ifp c2 h
        refine g_aload_n dX12_weds_86 rfl ?_
        refine g_iload_n dX12_weds_87 rfl ?_
        refine g_ic1 dX12_weds_88 ?_
        refine g_iadd dX12_weds_89 ?_
        refine g_iload_n dX12_weds_90 rfl ?_
        refine g_iload_n dX12_weds_91 rfl ?_
        refine g_iload dX12_weds_92 rfl ?_
        obtain ⟨μ12, q11, h⟩ := g_bind h
        refine m_cVv mt_X12_weds ml_X12_256 mv_X12_weds dX12_weds_94 (hF _ _ _ _ _ _ q11) rfl rfl rfl rfl (by omega) ⟨Nat.le_refl _, Nat.le_refl _⟩ (Nat.le_of_ble_eq_true rfl) ?_
        obtain rfl := Option.some.inj h
        exact g_vret rfl (Nat.le_refl _) rfl dX12_weds_97 ⟨rfl, rfl⟩
    · have h := g_ifp c1 h
      refine g_iload_n dX12_weds_10 rfl ?_
      refine g_aload_n dX12_weds_11 rfl ?_
      refine m_getI fl_X12_250 rfl rfl dX12_weds_12 ?_
      refine g_icmp_gt 35 (by decide) dX12_weds_15 (fun c13 => ?_) (fun c13 => ?_)
      · have h := g_ifp c13 h
        refine g_aload_n dX12_weds_35 rfl ?_
        refine g_iload_n dX12_weds_36 rfl ?_
        obtain ⟨μ14, eμ14, h⟩ := g_let h
        refine m_putI fl_X12_250 fw_12_18 rfl rfl rfl rfl dX12_weds_37 eμ14 ?_
        refine g_aload_n dX12_weds_40 rfl ?_
        refine g_iload dX12_weds_41 rfl ?_
        obtain ⟨μ15, eμ15, h⟩ := g_let h
        refine m_putI fl_X12_253 fw_12_19 rfl rfl rfl rfl dX12_weds_43 eμ15 ?_
        refine g_ic0 dX12_weds_46 ?_
        refine g_istore_5 rfl (Nat.le_of_ble_eq_true rfl) dX12_weds_47 ?_
        obtain ⟨μ16, q17, h⟩ := g_bind h
        refine g_less _ (g_subS (g_subN (g_subN (g_subN (g_subN (g_subS g_sub0)))))) (k_X12_weds_L49 hF _ _ _ _ q17 ?_)
        obtain rfl := Option.some.inj h
        exact g_vret rfl (Nat.le_refl _) rfl dX12_weds_76 ⟨rfl, rfl⟩
      · have h := g_ifn c13 h
        refine g_iload_n dX12_weds_18 rfl ?_
        refine g_aload_n dX12_weds_19 rfl ?_
        refine m_getI fl_X12_250 rfl rfl dX12_weds_20 ?_
        refine g_icmp_ne 76 (by decide) dX12_weds_23 (fun c18 => ?_) (fun c18 => ?_)
        · have h := g_ifn c18 h
          obtain rfl := Option.some.inj h
          exact g_vret rfl (Nat.le_refl _) rfl dX12_weds_76 ⟨rfl, rfl⟩
        · have h := g_ifp c18 h
          refine g_iload dX12_weds_26 rfl ?_
          refine g_aload_n dX12_weds_28 rfl ?_
          refine m_getI fl_X12_253 rfl rfl dX12_weds_29 ?_
          refine g_icmp_le 76 (by decide) dX12_weds_32 (fun c19 => ?_) (fun c19 => ?_)
          · have h := g_ifp c19 h
            obtain rfl := Option.some.inj h
            exact g_vret rfl (Nat.le_refl _) rfl dX12_weds_76 ⟨rfl, rfl⟩
          · have h := g_ifn c19 h
            refine g_aload_n dX12_weds_35 rfl ?_
            refine g_iload_n dX12_weds_36 rfl ?_
            obtain ⟨μ20, eμ20, h⟩ := g_let h
            refine m_putI fl_X12_250 fw_12_18 rfl rfl rfl rfl dX12_weds_37 eμ20 ?_
            refine g_aload_n dX12_weds_40 rfl ?_
            refine g_iload dX12_weds_41 rfl ?_
            obtain ⟨μ21, eμ21, h⟩ := g_let h
            refine m_putI fl_X12_253 fw_12_19 rfl rfl rfl rfl dX12_weds_43 eμ21 ?_
            refine g_ic0 dX12_weds_46 ?_
            refine g_istore_5 rfl (Nat.le_of_ble_eq_true rfl) dX12_weds_47 ?_
            obtain ⟨μ22, q23, h⟩ := g_bind h
            refine g_less _ (g_subS (g_subN (g_subN (g_subN (g_subN (g_subS g_sub0)))))) (k_X12_weds_L49 hF _ _ _ _ q23 ?_)
            obtain rfl := Option.some.inj h
            exact g_vret rfl (Nat.le_refl _) rfl dX12_weds_76 ⟨rfl, rfl⟩
set_option maxRecDepth 100000 in
set_option maxHeartbeats 4000000 in
theorem k_X12_findsWeddings {D : va_G} {cA : Nat → ClassId} {b k : Nat} {N : Nat} {μ : g_M} {z : g_M} (h : f_X12_findsWeddings N μ = some z) : g_K (g_XM D cA b) yX12_findsWeddings Y_X12_findsWeddings 41 0 0 k [.ref 0] (μ, g_rfM) (fun r1 σ1 => r1 = none ∧ σ1 = (z, g_rfM)) := by
  unfold f_X12_findsWeddings at h
  refine g_met 0 (by decide) rfl rfl (Nat.le_of_ble_eq_true rfl) ?_
  refine g_aload_n dX12_findsWeddings_0 rfl ?_
  refine g_icm1 dX12_findsWeddings_1 ?_
  obtain ⟨μ1, eμ1, h⟩ := g_let h
  refine m_putI fl_X12_250 fw_12_18 rfl rfl rfl rfl dX12_findsWeddings_2 eμ1 ?_
  refine g_aload_n dX12_findsWeddings_5 rfl ?_
  refine g_ic0 dX12_findsWeddings_6 ?_
  obtain ⟨μ2, eμ2, h⟩ := g_let h
  refine m_putI fl_X12_253 fw_12_19 rfl rfl rfl rfl dX12_findsWeddings_7 eμ2 ?_
  refine g_aload_n dX12_findsWeddings_10 rfl ?_
  refine g_ic0 dX12_findsWeddings_11 ?_
  refine g_ic0 dX12_findsWeddings_12 ?_
  refine g_ic0 dX12_findsWeddings_13 ?_
  refine g_ic0 dX12_findsWeddings_14 ?_
  obtain ⟨μ5, q4, h⟩ := g_bind h
  refine m_cVv mt_X12_weds ml_X12_256 mv_X12_weds dX12_findsWeddings_15 (k_X12_weds _ _ _ _ _ _ _ q4) rfl rfl rfl rfl (by decide) ⟨Nat.le_refl _, Nat.le_refl _⟩ (Nat.le_of_ble_eq_true rfl) ?_
  obtain rfl := Option.some.inj h
  exact g_vret rfl (Nat.le_refl _) rfl dX12_findsWeddings_18 ⟨rfl, rfl⟩
set_option maxRecDepth 100000 in
set_option maxHeartbeats 4000000 in
theorem k_X12_weddings {D : va_G} {cA : Nat → ClassId} {b k : Nat} {N : Nat} {a1 : Int32} {μ : g_M} {z : Int32 × g_M} (h : f_X12_weddings N a1 μ = some z) : g_K (g_XM D cA b) yX12_weddings Y_X12_weddings 42 0 0 k [.ref 0, .int a1] (μ, g_rfM) (fun r1 σ1 => r1 = some (.int z.1) ∧ σ1 = (z.2, g_rfM)) := by
  unfold f_X12_weddings at h
  refine g_met 0 (by decide) rfl rfl (Nat.le_of_ble_eq_true rfl) ?_
  refine g_iload_n dX12_weddings_0 rfl ?_
  refine g_i2l dX12_weddings_1 ?_
  refine g_lc0 dX12_weddings_2 ?_
  refine g_lc1 dX12_weddings_3 ?_
  refine m_cS mt_X12_isIn ml_X12_66 ms_X12_isIn dX12_weddings_4 (k_X12_isIn rfl) rfl rfl (by decide) ⟨Nat.le_refl _, Nat.le_refl _⟩ (Nat.le_of_ble_eq_true rfl) ?_
  refine g_if_ne 12 (by decide) dX12_weddings_7 (fun c1 => ?_) (fun c1 => ?_)
  · have h := g_ifn c1 h
    refine g_aload_n dX12_weddings_12 rfl ?_
    obtain ⟨μ4, q3, h⟩ := g_bind h
    refine m_cVv mt_X12_findsWeddings ml_X12_260 mv_X12_findsWeddings dX12_weddings_13 (k_X12_findsWeddings q3) rfl rfl rfl rfl (by decide) ⟨Nat.le_refl _, Nat.le_refl _⟩ (Nat.le_of_ble_eq_true rfl) ?_
    refine g_iload_n dX12_weddings_16 rfl ?_
    refine g_if_ne 27 (by decide) dX12_weddings_17 (fun c5 => ?_) (fun c5 => ?_)
    · have h := g_ifn c5 h
      refine g_aload_n dX12_weddings_27 rfl ?_
      refine m_getI fl_X12_253 rfl rfl dX12_weddings_28 ?_
      obtain rfl := Option.some.inj h
      exact g_iret rfl (Nat.le_refl _) rfl dX12_weddings_31 ⟨rfl, rfl⟩
    · have h := g_ifp c5 h
      refine g_aload_n dX12_weddings_20 rfl ?_
      refine m_getI fl_X12_250 rfl rfl dX12_weddings_21 ?_
      refine g_goto 31 (by decide) dX12_weddings_24 ?_
      obtain rfl := Option.some.inj h
      exact g_iret rfl (Nat.le_refl _) rfl dX12_weddings_31 ⟨rfl, rfl⟩
  · have h := g_ifp c1 h
    refine g_icm1 dX12_weddings_10 ?_
    obtain rfl := Option.some.inj h
    exact g_iret rfl (Nat.le_refl _) rfl dX12_weddings_11 ⟨rfl, rfl⟩
set_option maxRecDepth 100000 in
set_option maxHeartbeats 4000000 in
theorem k_X12_mate {D : va_G} {cA : Nat → ClassId} {b k : Nat} {N : Nat} {a1 : Int32} {μ : g_M} {z : Int32 × g_M} (h : f_X12_mate N a1 μ = some z) : g_K (g_XM D cA b) yX12_mate Y_X12_mate 42 0 0 k [.ref 0, .int a1] (μ, g_rfM) (fun r1 σ1 => r1 = some (.int z.1) ∧ σ1 = (z.2, g_rfM)) := by
  unfold f_X12_mate at h
  refine g_met 0 (by decide) rfl rfl (Nat.le_of_ble_eq_true rfl) ?_
  refine g_aload_n dX12_mate_0 rfl ?_
  refine g_iload_n dX12_mate_1 rfl ?_
  refine m_cV mt_X12_isOven ml_X12_110 mv_X12_isOven dX12_mate_2 (k_X12_isOven rfl) rfl rfl rfl rfl (by decide) ⟨Nat.le_refl _, Nat.le_refl _⟩ (Nat.le_of_ble_eq_true rfl) ?_
  refine g_if_ne 10 (by decide) dX12_mate_5 (fun c1 => ?_) (fun c1 => ?_)
  · have h := g_ifn c1 h
    refine g_aload_n dX12_mate_10 rfl ?_
    obtain ⟨μ4, q3, h⟩ := g_bind h
    refine m_cVv mt_X12_findsWeddings ml_X12_260 mv_X12_findsWeddings dX12_mate_11 (k_X12_findsWeddings q3) rfl rfl rfl rfl (by decide) ⟨Nat.le_refl _, Nat.le_refl _⟩ (Nat.le_of_ble_eq_true rfl) ?_
    refine g_aload_n dX12_mate_14 rfl ?_
    refine m_getR fl_X12_31 rfl rfl rfl dX12_mate_15 ?_
    refine g_iload_n dX12_mate_18 rfl ?_
    obtain ⟨x5, qx5, h⟩ := g_bind h
    refine m_iald rfl qx5 dX12_mate_19 ?_
    obtain rfl := Option.some.inj h
    exact g_iret rfl (Nat.le_refl _) rfl dX12_mate_20 ⟨rfl, rfl⟩
  · have h := g_ifp c1 h
    refine g_icm1 dX12_mate_8 ?_
    obtain rfl := Option.some.inj h
    exact g_iret rfl (Nat.le_refl _) rfl dX12_mate_9 ⟨rfl, rfl⟩
set_option maxRecDepth 100000 in
set_option maxHeartbeats 4000000 in
theorem k_X12_size_L4 {D : va_G} {cA : Nat → ClassId} {b k : Nat} {Q : Option Value → g_S → Prop} {N : Nat} : ∀ (n : Nat) (x_1 : Int32) (x_2 : Int32) (μ : g_M) (z_1 : Int32), f_X12_size_L4 N n x_1 x_2 = some z_1 → g_V (g_XM D cA b) Y_X12_size 1 0 0 Q k 0 0 20 [none, some (.int z_1), none] [] (μ, g_rfM) → g_V (g_XM D cA b) Y_X12_size 1 0 0 Q k 0 0 4 [none, some (.int x_1), some (.int x_2)] [] (μ, g_rfM) := by
  intro n
  induction n with
  | zero =>
    intro x_1 x_2 μ z_1 h
    rw [f_X12_size_L4] at h
    cases h
  | succ n ih =>
    intro x_1 x_2 μ z_1 h hc
    rw [f_X12_size_L4] at h
    refine g_iload_n dX12_size_4 rfl ?_
    refine g_if_eq 20 (by decide) dX12_size_5 (fun c1 => ?_) (fun c1 => ?_)
    · have h := g_ifp c1 h
      obtain rfl := Option.some.inj h
      exact g_less _ (g_subN (g_subS (g_subN g_sub0))) hc
    · have h := g_ifn c1 h
      refine g_iinc_1 (v := 1) rfl (by decide) (Nat.le_of_ble_eq_true rfl) dX12_size_8 ?_
      refine g_iload_n dX12_size_11 rfl ?_
      refine g_iload_n dX12_size_12 rfl ?_
      refine g_ic1 dX12_size_13 ?_
      refine g_isub dX12_size_14 ?_
      refine g_iand dX12_size_15 ?_
      obtain ⟨x2, ex2, h⟩ := g_let h
      refine g_top ex2 ?_
      refine g_istore_2 rfl (Nat.le_of_ble_eq_true rfl) dX12_size_16 ?_
      refine g_goto 4 (by decide) dX12_size_17 ?_
      exact g_less _ (g_subN (g_subS (g_subS g_sub0))) (ih _ _ _ _ h hc)
set_option maxRecDepth 100000 in
set_option maxHeartbeats 4000000 in
theorem k_X12_size {D : va_G} {cA : Nat → ClassId} {b k : Nat} {N : Nat} {a1 : Int32} {μ : g_M} {z : Int32} (h : f_X12_size N a1 = some z) : g_K (g_XM D cA b) yX12_size Y_X12_size 1 0 0 k [.int a1] (μ, g_rfM) (fun r1 σ1 => r1 = some (.int z) ∧ σ1 = (μ, g_rfM)) := by
  unfold f_X12_size at h
  refine g_met 2 (by decide) rfl rfl (Nat.le_of_ble_eq_true rfl) ?_
  refine g_ic0 dX12_size_0 ?_
  refine g_istore_1 rfl (Nat.le_of_ble_eq_true rfl) dX12_size_1 ?_
  refine g_iload_n dX12_size_2 rfl ?_
  refine g_istore_2 rfl (Nat.le_of_ble_eq_true rfl) dX12_size_3 ?_
  obtain ⟨x1, q2, h⟩ := g_bind h
  refine g_less _ (g_subN (g_subS (g_subS g_sub0))) (k_X12_size_L4 _ _ _ _ _ q2 ?_)
  refine g_iload_n dX12_size_20 rfl ?_
  obtain rfl := Option.some.inj h
  exact g_iret rfl (Nat.le_refl _) rfl dX12_size_21 ⟨rfl, rfl⟩
set_option maxRecDepth 100000 in
set_option maxHeartbeats 4000000 in
theorem k_X12_isStill_L7 {D : va_G} {cA : Nat → ClassId} {b k : Nat} {Q : Option Value → g_S → Prop} {N : Nat} : ∀ (n : Nat) (x_1 : Int32) (x_2 : Int32) (μ : g_M) (z_2 : Int32) (z_μ : g_M), f_X12_isStill_L7 N n x_1 x_2 μ = some (z_2, z_μ) → g_V (g_XM D cA b) Y_X12_isStill 7 0 0 Q k 0 0 40 [some (.ref 0), none, some (.int z_2), none] [] (z_μ, g_rfM) → g_V (g_XM D cA b) Y_X12_isStill 7 0 0 Q k 0 0 7 [some (.ref 0), some (.int x_1), some (.int x_2), none] [] (μ, g_rfM) := by
  intro n
  induction n with
  | zero =>
    intro x_1 x_2 μ z_2 z_μ h
    rw [f_X12_isStill_L7] at h
    cases h
  | succ n ih =>
    intro x_1 x_2 μ z_2 z_μ h hc
    rw [f_X12_isStill_L7] at h
    refine g_aload_n dX12_isStill_7 rfl ?_
    refine m_cV mt_X12_isOver ml_X12_133 mv_X12_isOver dX12_isStill_8 (k_X12_isOver rfl) rfl rfl rfl rfl (by decide) ⟨Nat.le_refl _, Nat.le_refl _⟩ (Nat.le_of_ble_eq_true rfl) ?_
    refine g_if_ne 40 (by decide) dX12_isStill_11 (fun c4 => ?_) (fun c4 => ?_)
    · have h := g_ifn c4 h
      obtain ⟨rfl, rfl⟩ := g_inj2 h
      exact g_less _ (g_subS (g_subN (g_subS (g_subN g_sub0)))) hc
    · have h := g_ifp c4 h
      refine g_iload_n dX12_isStill_14 rfl ?_
      refine g_if_eq 40 (by decide) dX12_isStill_15 (fun c5 => ?_) (fun c5 => ?_)
      · have h := g_ifp c5 h
        obtain ⟨rfl, rfl⟩ := g_inj2 h
        exact g_less _ (g_subS (g_subN (g_subS (g_subN g_sub0)))) hc
      · have h := g_ifn c5 h
        refine g_aload_n dX12_isStill_18 rfl ?_
        refine g_iload_n dX12_isStill_19 rfl ?_
        obtain ⟨⟨x6, μ8⟩, q7, h⟩ := g_bind h
        refine m_cV mt_X12_goesBy ml_X12_231 mv_X12_goesBy dX12_isStill_20 (k_X12_goesBy q7) rfl rfl rfl rfl (by decide) ⟨Nat.le_refl _, Nat.le_refl _⟩ (Nat.le_of_ble_eq_true rfl) ?_
        refine g_istore_3 rfl (Nat.le_of_ble_eq_true rfl) dX12_isStill_23 ?_
        refine g_aload_n dX12_isStill_24 rfl ?_
        refine m_getI fl_X12_228 rfl rfl dX12_isStill_25 ?_
        refine g_if_ne 35 (by decide) dX12_isStill_28 (fun c9 => ?_) (fun c9 => ?_)
        · have h := g_ifn c9 h
          refine g_ic0 dX12_isStill_35 ?_
          refine g_istore_2 rfl (Nat.le_of_ble_eq_true rfl) dX12_isStill_36 ?_
          refine g_goto 7 (by decide) dX12_isStill_37 ?_
          exact g_less _ (g_subS (g_subS (g_subS (g_subN g_sub0)))) (ih _ _ _ _ _ h hc)
        · have h := g_ifp c9 h
          refine g_ic1 dX12_isStill_31 ?_
          refine g_goto 36 (by decide) dX12_isStill_32 ?_
          refine g_istore_2 rfl (Nat.le_of_ble_eq_true rfl) dX12_isStill_36 ?_
          refine g_goto 7 (by decide) dX12_isStill_37 ?_
          exact g_less _ (g_subS (g_subS (g_subS (g_subN g_sub0)))) (ih _ _ _ _ _ h hc)
set_option maxRecDepth 100000 in
set_option maxHeartbeats 4000000 in
theorem k_X12_isStill {D : va_G} {cA : Nat → ClassId} {b k : Nat} {N : Nat} {a1 : Int32} {μ : g_M} {z : Int32 × g_M} (h : f_X12_isStill N a1 μ = some z) : g_K (g_XM D cA b) yX12_isStill Y_X12_isStill 7 0 0 k [.ref 0, .int a1] (μ, g_rfM) (fun r1 σ1 => r1 = some (.int z.1) ∧ σ1 = (z.2, g_rfM)) := by
  unfold f_X12_isStill at h
  refine g_met 2 (by decide) rfl rfl (Nat.le_of_ble_eq_true rfl) ?_
  refine g_aload_n dX12_isStill_0 rfl ?_
  refine g_ic0 dX12_isStill_1 ?_
  obtain ⟨μ3, q2, h⟩ := g_bind h
  refine m_cVv mt_X12_laysAside ml_X12_234 mv_X12_laysAside dX12_isStill_2 (k_X12_laysAside q2) rfl rfl rfl rfl (by decide) ⟨Nat.le_refl _, Nat.le_refl _⟩ (Nat.le_of_ble_eq_true rfl) ?_
  refine g_ic1 dX12_isStill_5 ?_
  refine g_istore_2 rfl (Nat.le_of_ble_eq_true rfl) dX12_isStill_6 ?_
  obtain ⟨⟨x4, μ5⟩, q6, h⟩ := g_bind h
  refine g_less _ (g_subS (g_subS (g_subS (g_subN g_sub0)))) (k_X12_isStill_L7 _ _ _ _ _ _ q6 ?_)
  refine g_aload_n dX12_isStill_40 rfl ?_
  refine g_ic0 dX12_isStill_41 ?_
  obtain ⟨μ9, q8, h⟩ := g_bind h
  refine m_cVv mt_X12_laysBack ml_X12_237 mv_X12_laysBack dX12_isStill_42 (k_X12_laysBack q8) rfl rfl rfl rfl (by decide) ⟨Nat.le_refl _, Nat.le_refl _⟩ (Nat.le_of_ble_eq_true rfl) ?_
  refine g_iload_n dX12_isStill_45 rfl ?_
  obtain ⟨x10, qx10, h⟩ := g_bind h
  obtain ⟨rfl, nx10⟩ := g_zc_n qx10
  obtain rfl := Option.some.inj h
  exact g_zret rfl (Nat.le_refl _) rfl nx10 dX12_isStill_46 ⟨rfl, rfl⟩
set_option maxRecDepth 100000 in
set_option maxHeartbeats 4000000 in
theorem k_X12_chains_L16 {D : va_G} {cA : Nat → ClassId} {b k : Nat} {Q : Option Value → g_S → Prop} {N : Nat} : ∀ (n : Nat) (x_1 : Int32) (x_2 : Int32) (x_3 : Int32) (μ : g_M) (z_2 : Int32) (z_μ : g_M), f_X12_chains_L16 N n x_1 x_2 x_3 μ = some (z_2, z_μ) → g_V (g_XM D cA b) Y_X12_chains 8 0 0 Q k 0 0 63 [none, some (.int x_1), some (.int z_2), none] [] (z_μ, g_rfM) → g_V (g_XM D cA b) Y_X12_chains 8 0 0 Q k 0 0 16 [some (.ref 0), some (.int x_1), some (.int x_2), some (.int x_3)] [] (μ, g_rfM) := by
  intro n
  induction n with
  | zero =>
    intro x_1 x_2 x_3 μ z_2 z_μ h
    rw [f_X12_chains_L16] at h
    cases h
  | succ n ih =>
    intro x_1 x_2 x_3 μ z_2 z_μ h hc
    rw [f_X12_chains_L16] at h
    refine g_iload_n dX12_chains_16 rfl ?_
    refine g_ic1 dX12_chains_17 ?_
    refine g_aload_n dX12_chains_18 rfl ?_
    refine m_getR fl_X12_7 rfl rfl rfl dX12_chains_19 ?_
    refine g_ic0 dX12_chains_22 ?_
    refine m_ialdc 0 rfl rfl (by decide) (by decide) dX12_chains_23 ?_
    refine g_ishl dX12_chains_24 ?_
    refine g_icmp_ge 63 (by decide) dX12_chains_25 (fun c2 => ?_) (fun c2 => ?_)
    · have h := g_ifp c2 h
      obtain ⟨rfl, rfl⟩ := g_inj2 h
      exact g_less _ (g_subN (g_subS (g_subS (g_subN g_sub0)))) hc
    · have h := g_ifn c2 h
      refine g_iload_n dX12_chains_28 rfl ?_
      refine g_if_lt 43 (by decide) dX12_chains_29 (fun c3 => ?_) (fun c3 => ?_)
      · have h := g_ifp c3 h
        refine g_aload_n dX12_chains_43 rfl ?_
        refine g_iload_n dX12_chains_44 rfl ?_
        obtain ⟨⟨x4, μ6⟩, q5, h⟩ := g_bind h
        refine m_cV mt_X12_isStill ml_X12_266 mv_X12_isStill dX12_chains_45 (k_X12_isStill q5) rfl rfl rfl rfl (by decide) ⟨Nat.le_refl _, Nat.le_refl _⟩ (Nat.le_of_ble_eq_true rfl) ?_
        refine g_if_eq 55 (by decide) dX12_chains_48 (fun c7 => ?_) (fun c7 => ?_)
        · have h := g_ifp c7 h
          refine g_iload_n dX12_chains_55 rfl ?_
          refine g_istore_2 rfl (Nat.le_of_ble_eq_true rfl) dX12_chains_56 ?_
          refine g_iinc_3 (v := 1) rfl (by decide) (Nat.le_of_ble_eq_true rfl) dX12_chains_57 ?_
          refine g_goto 16 (by decide) dX12_chains_60 ?_
          exact g_less _ (g_subS (g_subS (g_subS (g_subS g_sub0)))) (ih _ _ _ _ _ _ h hc)
        · have h := g_ifn c7 h
          refine g_iload_n dX12_chains_51 rfl ?_
          refine g_goto 56 (by decide) dX12_chains_52 ?_
          refine g_istore_2 rfl (Nat.le_of_ble_eq_true rfl) dX12_chains_56 ?_
          refine g_iinc_3 (v := 1) rfl (by decide) (Nat.le_of_ble_eq_true rfl) dX12_chains_57 ?_
          refine g_goto 16 (by decide) dX12_chains_60 ?_
          exact g_less _ (g_subS (g_subS (g_subS (g_subS g_sub0)))) (ih _ _ _ _ _ _ h hc)
      · have h := g_ifn c3 h
        refine g_iload_n dX12_chains_32 rfl ?_
        obtain ⟨x8, q9, h⟩ := g_bind h
        refine m_cS mt_X12_size ml_X12_263 ms_X12_size dX12_chains_33 (k_X12_size q9) rfl rfl (by decide) ⟨Nat.le_refl _, Nat.le_refl _⟩ (Nat.le_of_ble_eq_true rfl) ?_
        refine g_iload_n dX12_chains_36 rfl ?_
        obtain ⟨x10, q11, h⟩ := g_bind h
        refine m_cS mt_X12_size ml_X12_263 ms_X12_size dX12_chains_37 (k_X12_size q11) rfl rfl (by decide) ⟨Nat.le_refl _, Nat.le_refl _⟩ (Nat.le_of_ble_eq_true rfl) ?_
        refine g_icmp_ge 55 (by decide) dX12_chains_40 (fun c12 => ?_) (fun c12 => ?_)
        · have h := g_ifp c12 h
          refine g_iload_n dX12_chains_55 rfl ?_
          refine g_istore_2 rfl (Nat.le_of_ble_eq_true rfl) dX12_chains_56 ?_
          refine g_iinc_3 (v := 1) rfl (by decide) (Nat.le_of_ble_eq_true rfl) dX12_chains_57 ?_
          refine g_goto 16 (by decide) dX12_chains_60 ?_
          exact g_less _ (g_subS (g_subS (g_subS (g_subS g_sub0)))) (ih _ _ _ _ _ _ h hc)
        · have h := g_ifn c12 h
          refine g_aload_n dX12_chains_43 rfl ?_
          refine g_iload_n dX12_chains_44 rfl ?_
          obtain ⟨⟨x13, μ15⟩, q14, h⟩ := g_bind h
          refine m_cV mt_X12_isStill ml_X12_266 mv_X12_isStill dX12_chains_45 (k_X12_isStill q14) rfl rfl rfl rfl (by decide) ⟨Nat.le_refl _, Nat.le_refl _⟩ (Nat.le_of_ble_eq_true rfl) ?_
          refine g_if_eq 55 (by decide) dX12_chains_48 (fun c16 => ?_) (fun c16 => ?_)
          · have h := g_ifp c16 h
            refine g_iload_n dX12_chains_55 rfl ?_
            refine g_istore_2 rfl (Nat.le_of_ble_eq_true rfl) dX12_chains_56 ?_
            refine g_iinc_3 (v := 1) rfl (by decide) (Nat.le_of_ble_eq_true rfl) dX12_chains_57 ?_
            refine g_goto 16 (by decide) dX12_chains_60 ?_
            exact g_less _ (g_subS (g_subS (g_subS (g_subS g_sub0)))) (ih _ _ _ _ _ _ h hc)
          · have h := g_ifn c16 h
            refine g_iload_n dX12_chains_51 rfl ?_
            refine g_goto 56 (by decide) dX12_chains_52 ?_
            refine g_istore_2 rfl (Nat.le_of_ble_eq_true rfl) dX12_chains_56 ?_
            refine g_iinc_3 (v := 1) rfl (by decide) (Nat.le_of_ble_eq_true rfl) dX12_chains_57 ?_
            refine g_goto 16 (by decide) dX12_chains_60 ?_
            exact g_less _ (g_subS (g_subS (g_subS (g_subS g_sub0)))) (ih _ _ _ _ _ _ h hc)
set_option maxRecDepth 100000 in
set_option maxHeartbeats 4000000 in
theorem k_X12_chains {D : va_G} {cA : Nat → ClassId} {b k : Nat} {N : Nat} {a1 : Int32} {μ : g_M} {z : Int32 × g_M} (h : f_X12_chains N a1 μ = some z) : g_K (g_XM D cA b) yX12_chains Y_X12_chains 8 0 0 k [.ref 0, .int a1] (μ, g_rfM) (fun r1 σ1 => r1 = some (.int z.1) ∧ σ1 = (z.2, g_rfM)) := by
  unfold f_X12_chains at h
  refine g_met 2 (by decide) rfl rfl (Nat.le_of_ble_eq_true rfl) ?_
  refine g_iload_n dX12_chains_0 rfl ?_
  refine g_i2l dX12_chains_1 ?_
  refine g_lc0 dX12_chains_2 ?_
  refine g_lc1 dX12_chains_3 ?_
  refine m_cS mt_X12_isIn ml_X12_66 ms_X12_isIn dX12_chains_4 (k_X12_isIn rfl) rfl rfl (by decide) ⟨Nat.le_refl _, Nat.le_refl _⟩ (Nat.le_of_ble_eq_true rfl) ?_
  refine g_if_ne 12 (by decide) dX12_chains_7 (fun c1 => ?_) (fun c1 => ?_)
  · have h := g_ifn c1 h
    refine g_icm1 dX12_chains_12 ?_
    refine g_istore_2 rfl (Nat.le_of_ble_eq_true rfl) dX12_chains_13 ?_
    refine g_ic0 dX12_chains_14 ?_
    refine g_istore_3 rfl (Nat.le_of_ble_eq_true rfl) dX12_chains_15 ?_
    obtain ⟨⟨x2, μ3⟩, q4, h⟩ := g_bind h
    refine g_less _ (g_subS (g_subS (g_subS (g_subS g_sub0)))) (k_X12_chains_L16 _ _ _ _ _ _ _ q4 ?_)
    refine g_iload_n dX12_chains_63 rfl ?_
    refine g_if_ne 71 (by decide) dX12_chains_64 (fun c5 => ?_) (fun c5 => ?_)
    · have h := g_ifn c5 h
      refine g_iload_n dX12_chains_71 rfl ?_
      obtain ⟨x6, q7, h⟩ := g_bind h
      refine m_cS mt_X12_size ml_X12_263 ms_X12_size dX12_chains_72 (k_X12_size q7) rfl rfl (by decide) ⟨Nat.le_refl _, Nat.le_refl _⟩ (Nat.le_of_ble_eq_true rfl) ?_
      obtain rfl := Option.some.inj h
      exact g_iret rfl (Nat.le_refl _) rfl dX12_chains_75 ⟨rfl, rfl⟩
    · have h := g_ifp c5 h
      refine g_iload_n dX12_chains_67 rfl ?_
      refine g_goto 75 (by decide) dX12_chains_68 ?_
      obtain rfl := Option.some.inj h
      exact g_iret rfl (Nat.le_refl _) rfl dX12_chains_75 ⟨rfl, rfl⟩
  · have h := g_ifp c1 h
    refine g_icm1 dX12_chains_10 ?_
    obtain rfl := Option.some.inj h
    exact g_iret rfl (Nat.le_refl _) rfl dX12_chains_11 ⟨rfl, rfl⟩
set_option maxRecDepth 100000 in
set_option maxHeartbeats 4000000 in
theorem k_X12_plans_L38 {D : va_G} {cA : Nat → ClassId} {b k : Nat} {Q : Option Value → g_S → Prop} {F : Int32 → Int32 → Int32 → Int32 → g_M → Option g_M} {d0 : Nat} (hF : ∀ (a1 : Int32) (a2 : Int32) (a3 : Int32) (a4 : Int32) (μ : g_M) (z : g_M), F a1 a2 a3 a4 μ = some z → g_K (g_XM D cA b) yX12_plans Y_X12_plans d0 0 0 k [.ref 0, .int a1, .int a2, .int a3, .int a4] (μ, g_rfM) (fun r1 σ1 => r1 = none ∧ σ1 = (z, g_rfM))) {N : Nat} : ∀ (n : Nat) (x_3 : Int32) (x_4 : Int32) (x_5 : Int32) (μ : g_M) (z_μ : g_M), f_X12_plans_L38 F N n x_3 x_4 x_5 μ = some z_μ → g_V (g_XM D cA b) Y_X12_plans (d0 + 8) 0 0 Q k 0 0 64 [some (.ref 0), none, none, some (.int x_3), some (.int x_4), none, none] [] (z_μ, g_rfM) → g_V (g_XM D cA b) Y_X12_plans (d0 + 8) 0 0 Q k 0 0 38 [some (.ref 0), none, none, some (.int x_3), some (.int x_4), some (.int x_5), none] [] (μ, g_rfM) := by
  intro n
  induction n with
  | zero =>
    intro x_3 x_4 x_5 μ z_μ h
    rw [f_X12_plans_L38] at h
    cases h
  | succ n ih =>
    intro x_3 x_4 x_5 μ z_μ h hc
    rw [f_X12_plans_L38] at h
    refine g_iload dX12_plans_38 rfl ?_
    refine g_ic4 dX12_plans_40 ?_
    refine g_icmp_ge 64 (by decide) dX12_plans_41 (fun c25 => ?_) (fun c25 => ?_)
    · have h := g_ifp c25 h
      obtain rfl := Option.some.inj h
      exact g_less _ (g_subS (g_subN (g_subN (g_subS (g_subS (g_subN (g_subN g_sub0))))))) hc
    · have h := g_ifn c25 h
      refine g_aload_n dX12_plans_44 rfl ?_
      refine m_getR fl_X12_37 rfl rfl rfl dX12_plans_45 ?_
      refine g_iload dX12_plans_48 rfl ?_
      refine g_aload_n dX12_plans_50 rfl ?_
      refine m_getR fl_X12_34 rfl rfl rfl dX12_plans_51 ?_
      refine g_iload dX12_plans_54 rfl ?_
      obtain ⟨x26, qx26, h⟩ := g_bind h
      refine m_iald rfl qx26 dX12_plans_56 ?_
      obtain ⟨μ27, qμ27, h⟩ := g_bind h
      refine m_iast rfl qμ27 dX12_plans_57 ?_
      refine g_iinc_5 (v := 1) rfl (by decide) (Nat.le_of_ble_eq_true rfl) dX12_plans_58 ?_
      refine g_goto 38 (by decide) dX12_plans_61 ?_
      exact g_less _ (g_subS (g_subN (g_subN (g_subS (g_subS (g_subS (g_subN g_sub0))))))) (ih _ _ _ _ _ h hc)
set_option maxRecDepth 100000 in
set_option maxHeartbeats 4000000 in
theorem k_X12_plans_L146 {D : va_G} {cA : Nat → ClassId} {b k : Nat} {Q : Option Value → g_S → Prop} {F : Int32 → Int32 → Int32 → Int32 → g_M → Option g_M} {d0 : Nat} (hF : ∀ (a1 : Int32) (a2 : Int32) (a3 : Int32) (a4 : Int32) (μ : g_M) (z : g_M), F a1 a2 a3 a4 μ = some z → g_K (g_XM D cA b) yX12_plans Y_X12_plans d0 0 0 k [.ref 0, .int a1, .int a2, .int a3, .int a4] (μ, g_rfM) (fun r1 σ1 => r1 = none ∧ σ1 = (z, g_rfM))) {N : Nat} : ∀ (n : Nat) (x_1 : Int32) (x_2 : Int32) (x_3 : Int32) (x_4 : Int32) (x_5 : Int32) (μ : g_M) (z_μ : g_M), f_X12_plans_L146 F N n x_1 x_2 x_3 x_4 x_5 μ = some z_μ → g_V (g_XM D cA b) Y_X12_plans (d0 + 8) 0 0 Q k 0 0 210 [none, none, none, none, none, none, none] [] (z_μ, g_rfM) → g_V (g_XM D cA b) Y_X12_plans (d0 + 8) 0 0 Q k 0 0 146 [some (.ref 0), some (.int x_1), some (.int x_2), some (.int x_3), some (.int x_4), some (.int x_5), none] [] (μ, g_rfM) := by
  intro n
  induction n with
  | zero =>
    intro x_1 x_2 x_3 x_4 x_5 μ z_μ h
    rw [f_X12_plans_L146] at h
    cases h
  | succ n ih =>
    intro x_1 x_2 x_3 x_4 x_5 μ z_μ h hc
    rw [f_X12_plans_L146] at h
    refine g_iload dX12_plans_146 rfl ?_
    refine g_aload_n dX12_plans_148 rfl ?_
    refine m_getR fl_X12_7 rfl rfl rfl dX12_plans_149 ?_
    refine g_ic0 dX12_plans_152 ?_
    refine m_ialdc 0 rfl rfl (by decide) (by decide) dX12_plans_153 ?_
    refine g_icmp_gt 210 (by decide) dX12_plans_154 (fun c50 => ?_) (fun c50 => ?_)
    · have h := g_ifp c50 h
      obtain rfl := Option.some.inj h
      exact g_less _ (g_subN (g_subN (g_subN (g_subN (g_subN (g_subN (g_subN g_sub0))))))) hc
    · have h := g_ifn c50 h
      refine g_aload_n dX12_plans_157 rfl ?_
      refine m_getR fl_X12_34 rfl rfl rfl dX12_plans_158 ?_
      refine g_iload_n dX12_plans_161 rfl ?_
      refine g_iload dX12_plans_162 rfl ?_
      obtain ⟨μ51, qμ51, h⟩ := g_bind h
      refine m_iast rfl qμ51 dX12_plans_164 ?_
      refine g_aload_n dX12_plans_165 rfl ?_
      refine g_iload dX12_plans_166 rfl ?_
      obtain ⟨⟨x52, μ54⟩, q53, h⟩ := g_bind h
      refine m_cV mt_X12_goesWith ml_X12_287 mv_X12_goesWith dX12_plans_168 (k_X12_goesWith q53) rfl rfl rfl rfl (by omega) ⟨Nat.le_refl _, Nat.le_refl _⟩ (Nat.le_of_ble_eq_true rfl) ?_
      refine g_istore_6 rfl (Nat.le_of_ble_eq_true rfl) dX12_plans_171 ?_
      refine g_aload_n dX12_plans_173 rfl ?_
      refine g_iload_n dX12_plans_174 rfl ?_
      refine g_ic1 dX12_plans_175 ?_
      refine g_iadd dX12_plans_176 ?_
      refine g_iload_n dX12_plans_177 rfl ?_
      refine g_iload_n dX12_plans_178 rfl ?_
      refine g_iload dX12_plans_179 rfl ?_
      refine g_iadd dX12_plans_181 ?_
      refine g_iload dX12_plans_182 rfl ?_
      refine g_if_ne 192 (by decide) dX12_plans_184 (fun c55 => ?_) (fun c55 => ?_)
      · have h := g_ifn c55 h
        refine g_iload dX12_plans_192 rfl ?_
        refine g_ic1 dX12_plans_194 ?_
        refine g_iadd dX12_plans_195 ?_
        obtain ⟨μ58, q57, h⟩ := g_bind h
        refine m_cVv mt_X12_plans ml_X12_290 mv_X12_plans dX12_plans_196 (hF _ _ _ _ _ _ q57) rfl rfl rfl rfl (by omega) ⟨Nat.le_refl _, Nat.le_refl _⟩ (Nat.le_of_ble_eq_true rfl) ?_
        refine g_aload_n dX12_plans_199 rfl ?_
        refine g_iload_n dX12_plans_200 rfl ?_
        obtain ⟨μ61, q60, h⟩ := g_bind h
        refine m_cVv mt_X12_laysBack ml_X12_237 mv_X12_laysBack dX12_plans_201 (k_X12_laysBack q60) rfl rfl rfl rfl (by omega) ⟨Nat.le_refl _, Nat.le_refl _⟩ (Nat.le_of_ble_eq_true rfl) ?_
        refine g_iinc_5 (v := 1) rfl (by decide) (Nat.le_of_ble_eq_true rfl) dX12_plans_204 ?_
        refine g_goto 146 (by decide) dX12_plans_207 ?_
        exact g_less _ (g_subS (g_subS (g_subS (g_subS (g_subS (g_subS (g_subN g_sub0))))))) (ih _ _ _ _ _ _ _ h hc)
      · have h := g_ifp c55 h
        refine g_iload dX12_plans_187 rfl ?_
        refine g_goto 196 (by decide) dX12_plans_189 ?_
        obtain ⟨μ64, q63, h⟩ := g_bind h
        refine m_cVv mt_X12_plans ml_X12_290 mv_X12_plans dX12_plans_196 (hF _ _ _ _ _ _ q63) rfl rfl rfl rfl (by omega) ⟨Nat.le_refl _, Nat.le_refl _⟩ (Nat.le_of_ble_eq_true rfl) ?_
        refine g_aload_n dX12_plans_199 rfl ?_
        refine g_iload_n dX12_plans_200 rfl ?_
        obtain ⟨μ67, q66, h⟩ := g_bind h
        refine m_cVv mt_X12_laysBack ml_X12_237 mv_X12_laysBack dX12_plans_201 (k_X12_laysBack q66) rfl rfl rfl rfl (by omega) ⟨Nat.le_refl _, Nat.le_refl _⟩ (Nat.le_of_ble_eq_true rfl) ?_
        refine g_iinc_5 (v := 1) rfl (by decide) (Nat.le_of_ble_eq_true rfl) dX12_plans_204 ?_
        refine g_goto 146 (by decide) dX12_plans_207 ?_
        exact g_less _ (g_subS (g_subS (g_subS (g_subS (g_subS (g_subS (g_subN g_sub0))))))) (ih _ _ _ _ _ _ _ h hc)
set_option maxRecDepth 100000 in
set_option maxHeartbeats 4000000 in
theorem k_X12_plans {D : va_G} {cA : Nat → ClassId} {b k : Nat} {N : Nat} : ∀ (n : Nat) (a1 : Int32) (a2 : Int32) (a3 : Int32) (a4 : Int32) (μ : g_M) (z : g_M), f_X12_plans N n a1 a2 a3 a4 μ = some z → g_K (g_XM D cA b) yX12_plans Y_X12_plans (8 * n) 0 0 k [.ref 0, .int a1, .int a2, .int a3, .int a4] (μ, g_rfM) (fun r1 σ1 => r1 = none ∧ σ1 = (z, g_rfM)) := by
  intro n
  induction n with
  | zero =>
    intro a1 a2 a3 a4 μ z h
    rw [f_X12_plans] at h
    cases h
  | succ n hF =>
    intro a1 a2 a3 a4 μ z h
    rw [f_X12_plans] at h
    refine g_met (d := 8 * n + 8) 2 (by decide) rfl rfl (Nat.le_of_ble_eq_true rfl) ?_
    refine g_iload_n dX12_plans_0 rfl ?_
    refine g_iload_n dX12_plans_1 rfl ?_
    refine g_icmp_eq 12 (by decide) dX12_plans_2 (fun c1 => ?_) (fun c1 => ?_)
    · have h := g_ifp c1 h
      refine g_iload_n dX12_plans_12 rfl ?_
      refine g_aload_n dX12_plans_13 rfl ?_
      refine m_getI fl_X12_269 rfl rfl dX12_plans_14 ?_
      refine g_icmp_le 64 (by decide) dX12_plans_17 (fun c2 => ?_) (fun c2 => ?_)
      · have h := g_ifp c2 h
        refine g_aload_n dX12_plans_64 rfl ?_
        refine g_dup dX12_plans_65 rfl ?_
        refine m_getI fl_X12_272 rfl rfl dX12_plans_66 ?_
        refine g_iload_n dX12_plans_69 rfl ?_
        refine g_aload_n dX12_plans_70 rfl ?_
        refine m_getI fl_X12_269 rfl rfl dX12_plans_71 ?_
        refine g_icmp_ne 81 (by decide) dX12_plans_74 (fun c3 => ?_) (fun c3 => ?_)
        · have h := g_ifn c3 h
          refine g_ic0 dX12_plans_81 ?_
          refine g_iadd dX12_plans_82 ?_
          obtain ⟨μ4, eμ4, h⟩ := g_let h
          refine m_putI fl_X12_272 fw_12_23 rfl rfl rfl rfl dX12_plans_83 eμ4 ?_
          refine g_aload_n dX12_plans_86 rfl ?_
          obtain ⟨x5, q6, h⟩ := g_bind h
          refine m_cV mt_X12_home ml_X12_137 mv_X12_home dX12_plans_87 (k_X12_home q6) rfl rfl rfl rfl (by omega) ⟨Nat.le_refl _, Nat.le_refl _⟩ (Nat.le_of_ble_eq_true rfl) ?_
          refine g_istore_5 rfl (Nat.le_of_ble_eq_true rfl) dX12_plans_90 ?_
          refine g_aload_n dX12_plans_92 rfl ?_
          refine g_dup dX12_plans_93 rfl ?_
          refine m_getI fl_X12_278 rfl rfl dX12_plans_94 ?_
          refine g_iload dX12_plans_97 rfl ?_
          refine g_ior dX12_plans_99 ?_
          obtain ⟨μ7, eμ7, h⟩ := g_let h
          refine m_putI fl_X12_278 fw_12_27 rfl rfl rfl rfl dX12_plans_100 eμ7 ?_
          refine g_aload_n dX12_plans_103 rfl ?_
          refine g_aload_n dX12_plans_104 rfl ?_
          refine m_getI fl_X12_281 rfl rfl dX12_plans_105 ?_
          refine g_iload dX12_plans_108 rfl ?_
          refine g_icm1 dX12_plans_110 ?_
          refine g_ixor dX12_plans_111 ?_
          refine g_iand dX12_plans_112 ?_
          refine g_if_ne 130 (by decide) dX12_plans_113 (fun c8 => ?_) (fun c8 => ?_)
          · have h := g_ifn c8 h
            refine g_aload_n dX12_plans_130 rfl ?_
            refine m_getI fl_X12_284 rfl rfl dX12_plans_131 ?_
            obtain ⟨μ9, eμ9, h⟩ := g_let h
            refine m_putI fl_X12_284 fw_12_26 rfl rfl rfl rfl dX12_plans_134 eμ9 ?_
            obtain rfl := Option.some.inj h
            exact g_vret rfl (Nat.le_refl _) rfl dX12_plans_137 ⟨rfl, rfl⟩
          · have h := g_ifp c8 h
            refine g_iload dX12_plans_116 rfl ?_
            refine g_aload_n dX12_plans_118 rfl ?_
            refine m_getI fl_X12_284 rfl rfl dX12_plans_119 ?_
            refine g_icmp_ge 130 (by decide) dX12_plans_122 (fun c10 => ?_) (fun c10 => ?_)
            · have h := g_ifp c10 h
              refine g_aload_n dX12_plans_130 rfl ?_
              refine m_getI fl_X12_284 rfl rfl dX12_plans_131 ?_
              obtain ⟨μ11, eμ11, h⟩ := g_let h
              refine m_putI fl_X12_284 fw_12_26 rfl rfl rfl rfl dX12_plans_134 eμ11 ?_
              obtain rfl := Option.some.inj h
              exact g_vret rfl (Nat.le_refl _) rfl dX12_plans_137 ⟨rfl, rfl⟩
            · have h := g_ifn c10 h
              refine g_iload dX12_plans_125 rfl ?_
              refine g_goto 134 (by decide) dX12_plans_127 ?_
              obtain ⟨μ12, eμ12, h⟩ := g_let h
              refine m_putI fl_X12_284 fw_12_26 rfl rfl rfl rfl dX12_plans_134 eμ12 ?_
              obtain rfl := Option.some.inj h
              exact g_vret rfl (Nat.le_refl _) rfl dX12_plans_137 ⟨rfl, rfl⟩
        · have h := g_ifp c3 h
          refine g_ic1 dX12_plans_77 ?_
          refine g_goto 82 (by decide) dX12_plans_78 ?_
          refine g_iadd dX12_plans_82 ?_
          obtain ⟨μ13, eμ13, h⟩ := g_let h
          refine m_putI fl_X12_272 fw_12_23 rfl rfl rfl rfl dX12_plans_83 eμ13 ?_
          refine g_aload_n dX12_plans_86 rfl ?_
          obtain ⟨x14, q15, h⟩ := g_bind h
          refine m_cV mt_X12_home ml_X12_137 mv_X12_home dX12_plans_87 (k_X12_home q15) rfl rfl rfl rfl (by omega) ⟨Nat.le_refl _, Nat.le_refl _⟩ (Nat.le_of_ble_eq_true rfl) ?_
          refine g_istore_5 rfl (Nat.le_of_ble_eq_true rfl) dX12_plans_90 ?_
          refine g_aload_n dX12_plans_92 rfl ?_
          refine g_dup dX12_plans_93 rfl ?_
          refine m_getI fl_X12_278 rfl rfl dX12_plans_94 ?_
          refine g_iload dX12_plans_97 rfl ?_
          refine g_ior dX12_plans_99 ?_
          obtain ⟨μ16, eμ16, h⟩ := g_let h
          refine m_putI fl_X12_278 fw_12_27 rfl rfl rfl rfl dX12_plans_100 eμ16 ?_
          refine g_aload_n dX12_plans_103 rfl ?_
          refine g_aload_n dX12_plans_104 rfl ?_
          refine m_getI fl_X12_281 rfl rfl dX12_plans_105 ?_
          refine g_iload dX12_plans_108 rfl ?_
          refine g_icm1 dX12_plans_110 ?_
          refine g_ixor dX12_plans_111 ?_
          refine g_iand dX12_plans_112 ?_
          refine g_if_ne 130 (by decide) dX12_plans_113 (fun c17 => ?_) (fun c17 => ?_)
          · have h := g_ifn c17 h
            refine g_aload_n dX12_plans_130 rfl ?_
            refine m_getI fl_X12_284 rfl rfl dX12_plans_131 ?_
            obtain ⟨μ18, eμ18, h⟩ := g_let h
            refine m_putI fl_X12_284 fw_12_26 rfl rfl rfl rfl dX12_plans_134 eμ18 ?_
            obtain rfl := Option.some.inj h
            exact g_vret rfl (Nat.le_refl _) rfl dX12_plans_137 ⟨rfl, rfl⟩
          · have h := g_ifp c17 h
            refine g_iload dX12_plans_116 rfl ?_
            refine g_aload_n dX12_plans_118 rfl ?_
            refine m_getI fl_X12_284 rfl rfl dX12_plans_119 ?_
            refine g_icmp_ge 130 (by decide) dX12_plans_122 (fun c19 => ?_) (fun c19 => ?_)
            · have h := g_ifp c19 h
              refine g_aload_n dX12_plans_130 rfl ?_
              refine m_getI fl_X12_284 rfl rfl dX12_plans_131 ?_
              obtain ⟨μ20, eμ20, h⟩ := g_let h
              refine m_putI fl_X12_284 fw_12_26 rfl rfl rfl rfl dX12_plans_134 eμ20 ?_
              obtain rfl := Option.some.inj h
              exact g_vret rfl (Nat.le_refl _) rfl dX12_plans_137 ⟨rfl, rfl⟩
            · have h := g_ifn c19 h
              refine g_iload dX12_plans_125 rfl ?_
              refine g_goto 134 (by decide) dX12_plans_127 ?_
              obtain ⟨μ21, eμ21, h⟩ := g_let h
              refine m_putI fl_X12_284 fw_12_26 rfl rfl rfl rfl dX12_plans_134 eμ21 ?_
              obtain rfl := Option.some.inj h
              exact g_vret rfl (Nat.le_refl _) rfl dX12_plans_137 ⟨rfl, rfl⟩
      · have h := g_ifn c2 h
        refine g_aload_n dX12_plans_20 rfl ?_
        refine g_iload_n dX12_plans_21 rfl ?_
        obtain ⟨μ22, eμ22, h⟩ := g_let h
        refine m_putI fl_X12_269 fw_12_22 rfl rfl rfl rfl dX12_plans_22 eμ22 ?_
        refine g_aload_n dX12_plans_25 rfl ?_
        refine g_ic0 dX12_plans_26 ?_
        obtain ⟨μ23, eμ23, h⟩ := g_let h
        refine m_putI fl_X12_272 fw_12_23 rfl rfl rfl rfl dX12_plans_27 eμ23 ?_
        refine g_aload_n dX12_plans_30 rfl ?_
        refine g_iload_n dX12_plans_31 rfl ?_
        obtain ⟨μ24, eμ24, h⟩ := g_let h
        refine m_putI fl_X12_275 fw_12_24 rfl rfl rfl rfl dX12_plans_32 eμ24 ?_
        refine g_ic0 dX12_plans_35 ?_
        refine g_istore_5 rfl (Nat.le_of_ble_eq_true rfl) dX12_plans_36 ?_
        obtain ⟨μ25, q26, h⟩ := g_bind h
        refine g_less _ (g_subS (g_subN (g_subN (g_subS (g_subS (g_subS (g_subN g_sub0))))))) (k_X12_plans_L38 hF _ _ _ _ _ _ q26 ?_)
        refine g_aload_n dX12_plans_64 rfl ?_
        refine g_dup dX12_plans_65 rfl ?_
        refine m_getI fl_X12_272 rfl rfl dX12_plans_66 ?_
        refine g_iload_n dX12_plans_69 rfl ?_
        refine g_aload_n dX12_plans_70 rfl ?_
        refine m_getI fl_X12_269 rfl rfl dX12_plans_71 ?_
        refine g_icmp_ne 81 (by decide) dX12_plans_74 (fun c27 => ?_) (fun c27 => ?_)
        · have h := g_ifn c27 h
          refine g_ic0 dX12_plans_81 ?_
          refine g_iadd dX12_plans_82 ?_
          obtain ⟨μ28, eμ28, h⟩ := g_let h
          refine m_putI fl_X12_272 fw_12_23 rfl rfl rfl rfl dX12_plans_83 eμ28 ?_
          refine g_aload_n dX12_plans_86 rfl ?_
          obtain ⟨x29, q30, h⟩ := g_bind h
          refine m_cV mt_X12_home ml_X12_137 mv_X12_home dX12_plans_87 (k_X12_home q30) rfl rfl rfl rfl (by omega) ⟨Nat.le_refl _, Nat.le_refl _⟩ (Nat.le_of_ble_eq_true rfl) ?_
          refine g_istore_5 rfl (Nat.le_of_ble_eq_true rfl) dX12_plans_90 ?_
          refine g_aload_n dX12_plans_92 rfl ?_
          refine g_dup dX12_plans_93 rfl ?_
          refine m_getI fl_X12_278 rfl rfl dX12_plans_94 ?_
          refine g_iload dX12_plans_97 rfl ?_
          refine g_ior dX12_plans_99 ?_
          obtain ⟨μ31, eμ31, h⟩ := g_let h
          refine m_putI fl_X12_278 fw_12_27 rfl rfl rfl rfl dX12_plans_100 eμ31 ?_
          refine g_aload_n dX12_plans_103 rfl ?_
          refine g_aload_n dX12_plans_104 rfl ?_
          refine m_getI fl_X12_281 rfl rfl dX12_plans_105 ?_
          refine g_iload dX12_plans_108 rfl ?_
          refine g_icm1 dX12_plans_110 ?_
          refine g_ixor dX12_plans_111 ?_
          refine g_iand dX12_plans_112 ?_
          refine g_if_ne 130 (by decide) dX12_plans_113 (fun c32 => ?_) (fun c32 => ?_)
          · have h := g_ifn c32 h
            refine g_aload_n dX12_plans_130 rfl ?_
            refine m_getI fl_X12_284 rfl rfl dX12_plans_131 ?_
            obtain ⟨μ33, eμ33, h⟩ := g_let h
            refine m_putI fl_X12_284 fw_12_26 rfl rfl rfl rfl dX12_plans_134 eμ33 ?_
            obtain rfl := Option.some.inj h
            exact g_vret rfl (Nat.le_refl _) rfl dX12_plans_137 ⟨rfl, rfl⟩
          · have h := g_ifp c32 h
            refine g_iload dX12_plans_116 rfl ?_
            refine g_aload_n dX12_plans_118 rfl ?_
            refine m_getI fl_X12_284 rfl rfl dX12_plans_119 ?_
            refine g_icmp_ge 130 (by decide) dX12_plans_122 (fun c34 => ?_) (fun c34 => ?_)
            · have h := g_ifp c34 h
              refine g_aload_n dX12_plans_130 rfl ?_
              refine m_getI fl_X12_284 rfl rfl dX12_plans_131 ?_
              obtain ⟨μ35, eμ35, h⟩ := g_let h
              refine m_putI fl_X12_284 fw_12_26 rfl rfl rfl rfl dX12_plans_134 eμ35 ?_
              obtain rfl := Option.some.inj h
              exact g_vret rfl (Nat.le_refl _) rfl dX12_plans_137 ⟨rfl, rfl⟩
            · have h := g_ifn c34 h
              refine g_iload dX12_plans_125 rfl ?_
              refine g_goto 134 (by decide) dX12_plans_127 ?_
              obtain ⟨μ36, eμ36, h⟩ := g_let h
              refine m_putI fl_X12_284 fw_12_26 rfl rfl rfl rfl dX12_plans_134 eμ36 ?_
              obtain rfl := Option.some.inj h
              exact g_vret rfl (Nat.le_refl _) rfl dX12_plans_137 ⟨rfl, rfl⟩
        · have h := g_ifp c27 h
          refine g_ic1 dX12_plans_77 ?_
          refine g_goto 82 (by decide) dX12_plans_78 ?_
          refine g_iadd dX12_plans_82 ?_
          obtain ⟨μ37, eμ37, h⟩ := g_let h
          refine m_putI fl_X12_272 fw_12_23 rfl rfl rfl rfl dX12_plans_83 eμ37 ?_
          refine g_aload_n dX12_plans_86 rfl ?_
          obtain ⟨x38, q39, h⟩ := g_bind h
          refine m_cV mt_X12_home ml_X12_137 mv_X12_home dX12_plans_87 (k_X12_home q39) rfl rfl rfl rfl (by omega) ⟨Nat.le_refl _, Nat.le_refl _⟩ (Nat.le_of_ble_eq_true rfl) ?_
          refine g_istore_5 rfl (Nat.le_of_ble_eq_true rfl) dX12_plans_90 ?_
          refine g_aload_n dX12_plans_92 rfl ?_
          refine g_dup dX12_plans_93 rfl ?_
          refine m_getI fl_X12_278 rfl rfl dX12_plans_94 ?_
          refine g_iload dX12_plans_97 rfl ?_
          refine g_ior dX12_plans_99 ?_
          obtain ⟨μ40, eμ40, h⟩ := g_let h
          refine m_putI fl_X12_278 fw_12_27 rfl rfl rfl rfl dX12_plans_100 eμ40 ?_
          refine g_aload_n dX12_plans_103 rfl ?_
          refine g_aload_n dX12_plans_104 rfl ?_
          refine m_getI fl_X12_281 rfl rfl dX12_plans_105 ?_
          refine g_iload dX12_plans_108 rfl ?_
          refine g_icm1 dX12_plans_110 ?_
          refine g_ixor dX12_plans_111 ?_
          refine g_iand dX12_plans_112 ?_
          refine g_if_ne 130 (by decide) dX12_plans_113 (fun c41 => ?_) (fun c41 => ?_)
          · have h := g_ifn c41 h
            refine g_aload_n dX12_plans_130 rfl ?_
            refine m_getI fl_X12_284 rfl rfl dX12_plans_131 ?_
            obtain ⟨μ42, eμ42, h⟩ := g_let h
            refine m_putI fl_X12_284 fw_12_26 rfl rfl rfl rfl dX12_plans_134 eμ42 ?_
            obtain rfl := Option.some.inj h
            exact g_vret rfl (Nat.le_refl _) rfl dX12_plans_137 ⟨rfl, rfl⟩
          · have h := g_ifp c41 h
            refine g_iload dX12_plans_116 rfl ?_
            refine g_aload_n dX12_plans_118 rfl ?_
            refine m_getI fl_X12_284 rfl rfl dX12_plans_119 ?_
            refine g_icmp_ge 130 (by decide) dX12_plans_122 (fun c43 => ?_) (fun c43 => ?_)
            · have h := g_ifp c43 h
              refine g_aload_n dX12_plans_130 rfl ?_
              refine m_getI fl_X12_284 rfl rfl dX12_plans_131 ?_
              obtain ⟨μ44, eμ44, h⟩ := g_let h
              refine m_putI fl_X12_284 fw_12_26 rfl rfl rfl rfl dX12_plans_134 eμ44 ?_
              obtain rfl := Option.some.inj h
              exact g_vret rfl (Nat.le_refl _) rfl dX12_plans_137 ⟨rfl, rfl⟩
            · have h := g_ifn c43 h
              refine g_iload dX12_plans_125 rfl ?_
              refine g_goto 134 (by decide) dX12_plans_127 ?_
              obtain ⟨μ45, eμ45, h⟩ := g_let h
              refine m_putI fl_X12_284 fw_12_26 rfl rfl rfl rfl dX12_plans_134 eμ45 ?_
              obtain rfl := Option.some.inj h
              exact g_vret rfl (Nat.le_refl _) rfl dX12_plans_137 ⟨rfl, rfl⟩
    · have h := g_ifn c1 h
      refine g_aload_n dX12_plans_5 rfl ?_
      refine m_cV mt_X12_isOver ml_X12_133 mv_X12_isOver dX12_plans_6 (k_X12_isOver rfl) rfl rfl rfl rfl (by omega) ⟨Nat.le_refl _, Nat.le_refl _⟩ (Nat.le_of_ble_eq_true rfl) ?_
      refine g_if_eq 138 (by decide) dX12_plans_9 (fun c46 => ?_) (fun c46 => ?_)
      · have h := g_ifp c46 h
        refine g_aload_n dX12_plans_138 rfl ?_
        refine g_iload_n dX12_plans_139 rfl ?_
        obtain ⟨μ49, q48, h⟩ := g_bind h
        refine m_cVv mt_X12_laysAside ml_X12_234 mv_X12_laysAside dX12_plans_140 (k_X12_laysAside q48) rfl rfl rfl rfl (by omega) ⟨Nat.le_refl _, Nat.le_refl _⟩ (Nat.le_of_ble_eq_true rfl) ?_
        refine g_ic0 dX12_plans_143 ?_
        refine g_istore_5 rfl (Nat.le_of_ble_eq_true rfl) dX12_plans_144 ?_
        obtain ⟨μ50, q51, h⟩ := g_bind h
        refine g_less _ (g_subS (g_subS (g_subS (g_subS (g_subS (g_subS (g_subN g_sub0))))))) (k_X12_plans_L146 hF _ _ _ _ _ _ _ _ q51 ?_)
        obtain rfl := Option.some.inj h
        exact g_vret rfl (Nat.le_refl _) rfl dX12_plans_210 ⟨rfl, rfl⟩
      · have h := g_ifn c46 h
        refine g_iload_n dX12_plans_12 rfl ?_
        refine g_aload_n dX12_plans_13 rfl ?_
        refine m_getI fl_X12_269 rfl rfl dX12_plans_14 ?_
        refine g_icmp_le 64 (by decide) dX12_plans_17 (fun c52 => ?_) (fun c52 => ?_)
        · have h := g_ifp c52 h
          refine g_aload_n dX12_plans_64 rfl ?_
          refine g_dup dX12_plans_65 rfl ?_
          refine m_getI fl_X12_272 rfl rfl dX12_plans_66 ?_
          refine g_iload_n dX12_plans_69 rfl ?_
          refine g_aload_n dX12_plans_70 rfl ?_
          refine m_getI fl_X12_269 rfl rfl dX12_plans_71 ?_
          refine g_icmp_ne 81 (by decide) dX12_plans_74 (fun c53 => ?_) (fun c53 => ?_)
          · have h := g_ifn c53 h
            refine g_ic0 dX12_plans_81 ?_
            refine g_iadd dX12_plans_82 ?_
            obtain ⟨μ54, eμ54, h⟩ := g_let h
            refine m_putI fl_X12_272 fw_12_23 rfl rfl rfl rfl dX12_plans_83 eμ54 ?_
            refine g_aload_n dX12_plans_86 rfl ?_
            obtain ⟨x55, q56, h⟩ := g_bind h
            refine m_cV mt_X12_home ml_X12_137 mv_X12_home dX12_plans_87 (k_X12_home q56) rfl rfl rfl rfl (by omega) ⟨Nat.le_refl _, Nat.le_refl _⟩ (Nat.le_of_ble_eq_true rfl) ?_
            refine g_istore_5 rfl (Nat.le_of_ble_eq_true rfl) dX12_plans_90 ?_
            refine g_aload_n dX12_plans_92 rfl ?_
            refine g_dup dX12_plans_93 rfl ?_
            refine m_getI fl_X12_278 rfl rfl dX12_plans_94 ?_
            refine g_iload dX12_plans_97 rfl ?_
            refine g_ior dX12_plans_99 ?_
            obtain ⟨μ57, eμ57, h⟩ := g_let h
            refine m_putI fl_X12_278 fw_12_27 rfl rfl rfl rfl dX12_plans_100 eμ57 ?_
            refine g_aload_n dX12_plans_103 rfl ?_
            refine g_aload_n dX12_plans_104 rfl ?_
            refine m_getI fl_X12_281 rfl rfl dX12_plans_105 ?_
            refine g_iload dX12_plans_108 rfl ?_
            refine g_icm1 dX12_plans_110 ?_
            refine g_ixor dX12_plans_111 ?_
            refine g_iand dX12_plans_112 ?_
            refine g_if_ne 130 (by decide) dX12_plans_113 (fun c58 => ?_) (fun c58 => ?_)
            · have h := g_ifn c58 h
              refine g_aload_n dX12_plans_130 rfl ?_
              refine m_getI fl_X12_284 rfl rfl dX12_plans_131 ?_
              obtain ⟨μ59, eμ59, h⟩ := g_let h
              refine m_putI fl_X12_284 fw_12_26 rfl rfl rfl rfl dX12_plans_134 eμ59 ?_
              obtain rfl := Option.some.inj h
              exact g_vret rfl (Nat.le_refl _) rfl dX12_plans_137 ⟨rfl, rfl⟩
            · have h := g_ifp c58 h
              refine g_iload dX12_plans_116 rfl ?_
              refine g_aload_n dX12_plans_118 rfl ?_
              refine m_getI fl_X12_284 rfl rfl dX12_plans_119 ?_
              refine g_icmp_ge 130 (by decide) dX12_plans_122 (fun c60 => ?_) (fun c60 => ?_)
              · have h := g_ifp c60 h
                refine g_aload_n dX12_plans_130 rfl ?_
                refine m_getI fl_X12_284 rfl rfl dX12_plans_131 ?_
                obtain ⟨μ61, eμ61, h⟩ := g_let h
                refine m_putI fl_X12_284 fw_12_26 rfl rfl rfl rfl dX12_plans_134 eμ61 ?_
                obtain rfl := Option.some.inj h
                exact g_vret rfl (Nat.le_refl _) rfl dX12_plans_137 ⟨rfl, rfl⟩
              · have h := g_ifn c60 h
                refine g_iload dX12_plans_125 rfl ?_
                refine g_goto 134 (by decide) dX12_plans_127 ?_
                obtain ⟨μ62, eμ62, h⟩ := g_let h
                refine m_putI fl_X12_284 fw_12_26 rfl rfl rfl rfl dX12_plans_134 eμ62 ?_
                obtain rfl := Option.some.inj h
                exact g_vret rfl (Nat.le_refl _) rfl dX12_plans_137 ⟨rfl, rfl⟩
          · have h := g_ifp c53 h
            refine g_ic1 dX12_plans_77 ?_
            refine g_goto 82 (by decide) dX12_plans_78 ?_
            refine g_iadd dX12_plans_82 ?_
            obtain ⟨μ63, eμ63, h⟩ := g_let h
            refine m_putI fl_X12_272 fw_12_23 rfl rfl rfl rfl dX12_plans_83 eμ63 ?_
            refine g_aload_n dX12_plans_86 rfl ?_
            obtain ⟨x64, q65, h⟩ := g_bind h
            refine m_cV mt_X12_home ml_X12_137 mv_X12_home dX12_plans_87 (k_X12_home q65) rfl rfl rfl rfl (by omega) ⟨Nat.le_refl _, Nat.le_refl _⟩ (Nat.le_of_ble_eq_true rfl) ?_
            refine g_istore_5 rfl (Nat.le_of_ble_eq_true rfl) dX12_plans_90 ?_
            refine g_aload_n dX12_plans_92 rfl ?_
            refine g_dup dX12_plans_93 rfl ?_
            refine m_getI fl_X12_278 rfl rfl dX12_plans_94 ?_
            refine g_iload dX12_plans_97 rfl ?_
            refine g_ior dX12_plans_99 ?_
            obtain ⟨μ66, eμ66, h⟩ := g_let h
            refine m_putI fl_X12_278 fw_12_27 rfl rfl rfl rfl dX12_plans_100 eμ66 ?_
            refine g_aload_n dX12_plans_103 rfl ?_
            refine g_aload_n dX12_plans_104 rfl ?_
            refine m_getI fl_X12_281 rfl rfl dX12_plans_105 ?_
            refine g_iload dX12_plans_108 rfl ?_
            refine g_icm1 dX12_plans_110 ?_
            refine g_ixor dX12_plans_111 ?_
            refine g_iand dX12_plans_112 ?_
            refine g_if_ne 130 (by decide) dX12_plans_113 (fun c67 => ?_) (fun c67 => ?_)
            · have h := g_ifn c67 h
              refine g_aload_n dX12_plans_130 rfl ?_
              refine m_getI fl_X12_284 rfl rfl dX12_plans_131 ?_
              obtain ⟨μ68, eμ68, h⟩ := g_let h
              refine m_putI fl_X12_284 fw_12_26 rfl rfl rfl rfl dX12_plans_134 eμ68 ?_
              obtain rfl := Option.some.inj h
              exact g_vret rfl (Nat.le_refl _) rfl dX12_plans_137 ⟨rfl, rfl⟩
            · have h := g_ifp c67 h
              refine g_iload dX12_plans_116 rfl ?_
              refine g_aload_n dX12_plans_118 rfl ?_
              refine m_getI fl_X12_284 rfl rfl dX12_plans_119 ?_
              refine g_icmp_ge 130 (by decide) dX12_plans_122 (fun c69 => ?_) (fun c69 => ?_)
              · have h := g_ifp c69 h
                refine g_aload_n dX12_plans_130 rfl ?_
                refine m_getI fl_X12_284 rfl rfl dX12_plans_131 ?_
                obtain ⟨μ70, eμ70, h⟩ := g_let h
                refine m_putI fl_X12_284 fw_12_26 rfl rfl rfl rfl dX12_plans_134 eμ70 ?_
                obtain rfl := Option.some.inj h
                exact g_vret rfl (Nat.le_refl _) rfl dX12_plans_137 ⟨rfl, rfl⟩
              · have h := g_ifn c69 h
                refine g_iload dX12_plans_125 rfl ?_
                refine g_goto 134 (by decide) dX12_plans_127 ?_
                obtain ⟨μ71, eμ71, h⟩ := g_let h
                refine m_putI fl_X12_284 fw_12_26 rfl rfl rfl rfl dX12_plans_134 eμ71 ?_
                obtain rfl := Option.some.inj h
                exact g_vret rfl (Nat.le_refl _) rfl dX12_plans_137 ⟨rfl, rfl⟩
        · have h := g_ifn c52 h
          refine g_aload_n dX12_plans_20 rfl ?_
          refine g_iload_n dX12_plans_21 rfl ?_
          obtain ⟨μ72, eμ72, h⟩ := g_let h
          refine m_putI fl_X12_269 fw_12_22 rfl rfl rfl rfl dX12_plans_22 eμ72 ?_
          refine g_aload_n dX12_plans_25 rfl ?_
          refine g_ic0 dX12_plans_26 ?_
          obtain ⟨μ73, eμ73, h⟩ := g_let h
          refine m_putI fl_X12_272 fw_12_23 rfl rfl rfl rfl dX12_plans_27 eμ73 ?_
          refine g_aload_n dX12_plans_30 rfl ?_
          refine g_iload_n dX12_plans_31 rfl ?_
          obtain ⟨μ74, eμ74, h⟩ := g_let h
          refine m_putI fl_X12_275 fw_12_24 rfl rfl rfl rfl dX12_plans_32 eμ74 ?_
          refine g_ic0 dX12_plans_35 ?_
          refine g_istore_5 rfl (Nat.le_of_ble_eq_true rfl) dX12_plans_36 ?_
          obtain ⟨μ75, q76, h⟩ := g_bind h
          refine g_less _ (g_subS (g_subN (g_subN (g_subS (g_subS (g_subS (g_subN g_sub0))))))) (k_X12_plans_L38 hF _ _ _ _ _ _ q76 ?_)
          refine g_aload_n dX12_plans_64 rfl ?_
          refine g_dup dX12_plans_65 rfl ?_
          refine m_getI fl_X12_272 rfl rfl dX12_plans_66 ?_
          refine g_iload_n dX12_plans_69 rfl ?_
          refine g_aload_n dX12_plans_70 rfl ?_
          refine m_getI fl_X12_269 rfl rfl dX12_plans_71 ?_
          refine g_icmp_ne 81 (by decide) dX12_plans_74 (fun c77 => ?_) (fun c77 => ?_)
          · have h := g_ifn c77 h
            refine g_ic0 dX12_plans_81 ?_
            refine g_iadd dX12_plans_82 ?_
            obtain ⟨μ78, eμ78, h⟩ := g_let h
            refine m_putI fl_X12_272 fw_12_23 rfl rfl rfl rfl dX12_plans_83 eμ78 ?_
            refine g_aload_n dX12_plans_86 rfl ?_
            obtain ⟨x79, q80, h⟩ := g_bind h
            refine m_cV mt_X12_home ml_X12_137 mv_X12_home dX12_plans_87 (k_X12_home q80) rfl rfl rfl rfl (by omega) ⟨Nat.le_refl _, Nat.le_refl _⟩ (Nat.le_of_ble_eq_true rfl) ?_
            refine g_istore_5 rfl (Nat.le_of_ble_eq_true rfl) dX12_plans_90 ?_
            refine g_aload_n dX12_plans_92 rfl ?_
            refine g_dup dX12_plans_93 rfl ?_
            refine m_getI fl_X12_278 rfl rfl dX12_plans_94 ?_
            refine g_iload dX12_plans_97 rfl ?_
            refine g_ior dX12_plans_99 ?_
            obtain ⟨μ81, eμ81, h⟩ := g_let h
            refine m_putI fl_X12_278 fw_12_27 rfl rfl rfl rfl dX12_plans_100 eμ81 ?_
            refine g_aload_n dX12_plans_103 rfl ?_
            refine g_aload_n dX12_plans_104 rfl ?_
            refine m_getI fl_X12_281 rfl rfl dX12_plans_105 ?_
            refine g_iload dX12_plans_108 rfl ?_
            refine g_icm1 dX12_plans_110 ?_
            refine g_ixor dX12_plans_111 ?_
            refine g_iand dX12_plans_112 ?_
            refine g_if_ne 130 (by decide) dX12_plans_113 (fun c82 => ?_) (fun c82 => ?_)
            · have h := g_ifn c82 h
              refine g_aload_n dX12_plans_130 rfl ?_
              refine m_getI fl_X12_284 rfl rfl dX12_plans_131 ?_
              obtain ⟨μ83, eμ83, h⟩ := g_let h
              refine m_putI fl_X12_284 fw_12_26 rfl rfl rfl rfl dX12_plans_134 eμ83 ?_
              obtain rfl := Option.some.inj h
              exact g_vret rfl (Nat.le_refl _) rfl dX12_plans_137 ⟨rfl, rfl⟩
            · have h := g_ifp c82 h
              refine g_iload dX12_plans_116 rfl ?_
              refine g_aload_n dX12_plans_118 rfl ?_
              refine m_getI fl_X12_284 rfl rfl dX12_plans_119 ?_
              refine g_icmp_ge 130 (by decide) dX12_plans_122 (fun c84 => ?_) (fun c84 => ?_)
              · have h := g_ifp c84 h
                refine g_aload_n dX12_plans_130 rfl ?_
                refine m_getI fl_X12_284 rfl rfl dX12_plans_131 ?_
                obtain ⟨μ85, eμ85, h⟩ := g_let h
                refine m_putI fl_X12_284 fw_12_26 rfl rfl rfl rfl dX12_plans_134 eμ85 ?_
                obtain rfl := Option.some.inj h
                exact g_vret rfl (Nat.le_refl _) rfl dX12_plans_137 ⟨rfl, rfl⟩
              · have h := g_ifn c84 h
                refine g_iload dX12_plans_125 rfl ?_
                refine g_goto 134 (by decide) dX12_plans_127 ?_
                obtain ⟨μ86, eμ86, h⟩ := g_let h
                refine m_putI fl_X12_284 fw_12_26 rfl rfl rfl rfl dX12_plans_134 eμ86 ?_
                obtain rfl := Option.some.inj h
                exact g_vret rfl (Nat.le_refl _) rfl dX12_plans_137 ⟨rfl, rfl⟩
          · have h := g_ifp c77 h
            refine g_ic1 dX12_plans_77 ?_
            refine g_goto 82 (by decide) dX12_plans_78 ?_
            refine g_iadd dX12_plans_82 ?_
            obtain ⟨μ87, eμ87, h⟩ := g_let h
            refine m_putI fl_X12_272 fw_12_23 rfl rfl rfl rfl dX12_plans_83 eμ87 ?_
            refine g_aload_n dX12_plans_86 rfl ?_
            obtain ⟨x88, q89, h⟩ := g_bind h
            refine m_cV mt_X12_home ml_X12_137 mv_X12_home dX12_plans_87 (k_X12_home q89) rfl rfl rfl rfl (by omega) ⟨Nat.le_refl _, Nat.le_refl _⟩ (Nat.le_of_ble_eq_true rfl) ?_
            refine g_istore_5 rfl (Nat.le_of_ble_eq_true rfl) dX12_plans_90 ?_
            refine g_aload_n dX12_plans_92 rfl ?_
            refine g_dup dX12_plans_93 rfl ?_
            refine m_getI fl_X12_278 rfl rfl dX12_plans_94 ?_
            refine g_iload dX12_plans_97 rfl ?_
            refine g_ior dX12_plans_99 ?_
            obtain ⟨μ90, eμ90, h⟩ := g_let h
            refine m_putI fl_X12_278 fw_12_27 rfl rfl rfl rfl dX12_plans_100 eμ90 ?_
            refine g_aload_n dX12_plans_103 rfl ?_
            refine g_aload_n dX12_plans_104 rfl ?_
            refine m_getI fl_X12_281 rfl rfl dX12_plans_105 ?_
            refine g_iload dX12_plans_108 rfl ?_
            refine g_icm1 dX12_plans_110 ?_
            refine g_ixor dX12_plans_111 ?_
            refine g_iand dX12_plans_112 ?_
            refine g_if_ne 130 (by decide) dX12_plans_113 (fun c91 => ?_) (fun c91 => ?_)
            · have h := g_ifn c91 h
              refine g_aload_n dX12_plans_130 rfl ?_
              refine m_getI fl_X12_284 rfl rfl dX12_plans_131 ?_
              obtain ⟨μ92, eμ92, h⟩ := g_let h
              refine m_putI fl_X12_284 fw_12_26 rfl rfl rfl rfl dX12_plans_134 eμ92 ?_
              obtain rfl := Option.some.inj h
              exact g_vret rfl (Nat.le_refl _) rfl dX12_plans_137 ⟨rfl, rfl⟩
            · have h := g_ifp c91 h
              refine g_iload dX12_plans_116 rfl ?_
              refine g_aload_n dX12_plans_118 rfl ?_
              refine m_getI fl_X12_284 rfl rfl dX12_plans_119 ?_
              refine g_icmp_ge 130 (by decide) dX12_plans_122 (fun c93 => ?_) (fun c93 => ?_)
              · have h := g_ifp c93 h
                refine g_aload_n dX12_plans_130 rfl ?_
                refine m_getI fl_X12_284 rfl rfl dX12_plans_131 ?_
                obtain ⟨μ94, eμ94, h⟩ := g_let h
                refine m_putI fl_X12_284 fw_12_26 rfl rfl rfl rfl dX12_plans_134 eμ94 ?_
                obtain rfl := Option.some.inj h
                exact g_vret rfl (Nat.le_refl _) rfl dX12_plans_137 ⟨rfl, rfl⟩
              · have h := g_ifn c93 h
                refine g_iload dX12_plans_125 rfl ?_
                refine g_goto 134 (by decide) dX12_plans_127 ?_
                obtain ⟨μ95, eμ95, h⟩ := g_let h
                refine m_putI fl_X12_284 fw_12_26 rfl rfl rfl rfl dX12_plans_134 eμ95 ?_
                obtain rfl := Option.some.inj h
                exact g_vret rfl (Nat.le_refl _) rfl dX12_plans_137 ⟨rfl, rfl⟩
set_option maxRecDepth 100000 in
set_option maxHeartbeats 4000000 in
theorem k_X12_findsPlans {D : va_G} {cA : Nat → ClassId} {b k : Nat} {N : Nat} {a1 : Int32} {a2 : Int32} {μ : g_M} {z : g_M} (h : f_X12_findsPlans N a1 a2 μ = some z) : g_K (g_XM D cA b) yX12_findsPlans Y_X12_findsPlans 49 0 0 k [.ref 0, .int a1, .int a2] (μ, g_rfM) (fun r1 σ1 => r1 = none ∧ σ1 = (z, g_rfM)) := by
  unfold f_X12_findsPlans at h
  refine g_met 0 (by decide) rfl rfl (Nat.le_of_ble_eq_true rfl) ?_
  refine g_aload_n dX12_findsPlans_0 rfl ?_
  refine g_icm1 dX12_findsPlans_1 ?_
  obtain ⟨μ1, eμ1, h⟩ := g_let h
  refine m_putI fl_X12_269 fw_12_22 rfl rfl rfl rfl dX12_findsPlans_2 eμ1 ?_
  refine g_aload_n dX12_findsPlans_5 rfl ?_
  refine g_ic0 dX12_findsPlans_6 ?_
  obtain ⟨μ2, eμ2, h⟩ := g_let h
  refine m_putI fl_X12_272 fw_12_23 rfl rfl rfl rfl dX12_findsPlans_7 eμ2 ?_
  refine g_aload_n dX12_findsPlans_10 rfl ?_
  refine g_ic0 dX12_findsPlans_11 ?_
  obtain ⟨μ3, eμ3, h⟩ := g_let h
  refine m_putI fl_X12_275 fw_12_24 rfl rfl rfl rfl dX12_findsPlans_12 eμ3 ?_
  refine g_aload_n dX12_findsPlans_15 rfl ?_
  refine g_iload_n dX12_findsPlans_16 rfl ?_
  obtain ⟨μ4, eμ4, h⟩ := g_let h
  refine m_putI fl_X12_281 fw_12_25 rfl rfl rfl rfl dX12_findsPlans_17 eμ4 ?_
  refine g_aload_n dX12_findsPlans_20 rfl ?_
  refine g_bipush (v := 9) dX12_findsPlans_21 (by decide) ?_
  obtain ⟨μ5, eμ5, h⟩ := g_let h
  refine m_putI fl_X12_284 fw_12_26 rfl rfl rfl rfl dX12_findsPlans_23 eμ5 ?_
  refine g_aload_n dX12_findsPlans_26 rfl ?_
  refine g_ic0 dX12_findsPlans_27 ?_
  obtain ⟨μ6, eμ6, h⟩ := g_let h
  refine m_putI fl_X12_278 fw_12_27 rfl rfl rfl rfl dX12_findsPlans_28 eμ6 ?_
  refine g_aload_n dX12_findsPlans_31 rfl ?_
  refine g_ic0 dX12_findsPlans_32 ?_
  refine g_iload_n dX12_findsPlans_33 rfl ?_
  refine g_ic0 dX12_findsPlans_34 ?_
  refine g_ic0 dX12_findsPlans_35 ?_
  obtain ⟨μ9, q8, h⟩ := g_bind h
  refine m_cVv mt_X12_plans ml_X12_290 mv_X12_plans dX12_findsPlans_36 (k_X12_plans _ _ _ _ _ _ _ q8) rfl rfl rfl rfl (by decide) ⟨Nat.le_refl _, Nat.le_refl _⟩ (Nat.le_of_ble_eq_true rfl) ?_
  obtain rfl := Option.some.inj h
  exact g_vret rfl (Nat.le_refl _) rfl dX12_findsPlans_39 ⟨rfl, rfl⟩
set_option maxRecDepth 100000 in
set_option maxHeartbeats 4000000 in
theorem k_X12_isLong {D : va_G} {cA : Nat → ClassId} {b k : Nat} {a1 : Int32} {μ : g_M} {z : Int32} (h : f_X12_isLong a1 = z) : g_K (g_XM D cA b) yX12_isLong Y_X12_isLong 2 0 0 k [.int a1] (μ, g_rfM) (fun r1 σ1 => r1 = some (.int z) ∧ σ1 = (μ, g_rfM)) := by
  unfold f_X12_isLong at h
  refine g_met 0 (by decide) rfl rfl (Nat.le_of_ble_eq_true rfl) ?_
  refine g_iload_n dX12_isLong_0 rfl ?_
  refine g_i2l dX12_isLong_1 ?_
  refine g_lc0 dX12_isLong_2 ?_
  refine g_ldc2 kc_X12_126 dX12_isLong_3 ?_
  refine m_cS mt_X12_isIn ml_X12_66 ms_X12_isIn dX12_isLong_6 (k_X12_isIn rfl) rfl rfl (by decide) ⟨Nat.le_refl _, Nat.le_refl _⟩ (Nat.le_of_ble_eq_true rfl) ?_
  subst h
  exact g_zret rfl (Nat.le_refl _) rfl (zb_X12_isIn (Int32.toInt64 a1) 0 4) dX12_isLong_9 ⟨rfl, rfl⟩
set_option maxRecDepth 100000 in
set_option maxHeartbeats 4000000 in
theorem zb_X12_isLong (a1 : Int32) : narrow .boolean (.int (f_X12_isLong a1)) = .int (f_X12_isLong a1) := by
  unfold f_X12_isLong
  repeat' split
  all_goals first | rfl | apply zb_X12_isIn
set_option maxRecDepth 100000 in
set_option maxHeartbeats 4000000 in
theorem k_X12_best {D : va_G} {cA : Nat → ClassId} {b k : Nat} {N : Nat} {a1 : Int32} {μ : g_M} {z : Int32 × g_M} (h : f_X12_best N a1 μ = some z) : g_K (g_XM D cA b) yX12_best Y_X12_best 50 0 0 k [.ref 0, .int a1] (μ, g_rfM) (fun r1 σ1 => r1 = some (.int z.1) ∧ σ1 = (z.2, g_rfM)) := by
  unfold f_X12_best at h
  refine g_met 0 (by decide) rfl rfl (Nat.le_of_ble_eq_true rfl) ?_
  refine g_iload_n dX12_best_0 rfl ?_
  refine m_cS mt_X12_isLong ml_X12_293 ms_X12_isLong dX12_best_1 (k_X12_isLong rfl) rfl rfl (by decide) ⟨Nat.le_refl _, Nat.le_refl _⟩ (Nat.le_of_ble_eq_true rfl) ?_
  refine g_if_ne 9 (by decide) dX12_best_4 (fun c1 => ?_) (fun c1 => ?_)
  · have h := g_ifn c1 h
    refine g_aload_n dX12_best_9 rfl ?_
    refine g_iload_n dX12_best_10 rfl ?_
    refine g_ic0 dX12_best_11 ?_
    obtain ⟨μ4, q3, h⟩ := g_bind h
    refine m_cVv mt_X12_findsPlans ml_X12_296 mv_X12_findsPlans dX12_best_12 (k_X12_findsPlans q3) rfl rfl rfl rfl (by decide) ⟨Nat.le_refl _, Nat.le_refl _⟩ (Nat.le_of_ble_eq_true rfl) ?_
    refine g_aload_n dX12_best_15 rfl ?_
    refine m_getI fl_X12_269 rfl rfl dX12_best_16 ?_
    obtain rfl := Option.some.inj h
    exact g_iret rfl (Nat.le_refl _) rfl dX12_best_19 ⟨rfl, rfl⟩
  · have h := g_ifp c1 h
    refine g_icm1 dX12_best_7 ?_
    obtain rfl := Option.some.inj h
    exact g_iret rfl (Nat.le_refl _) rfl dX12_best_8 ⟨rfl, rfl⟩
set_option maxRecDepth 100000 in
set_option maxHeartbeats 4000000 in
theorem k_X12_ith {D : va_G} {cA : Nat → ClassId} {b k : Nat} {N : Nat} {a1 : Int32} {a2 : Int32} {μ : g_M} {z : Int32 × g_M} (h : f_X12_ith N a1 a2 μ = some z) : g_K (g_XM D cA b) yX12_ith Y_X12_ith 50 0 0 k [.ref 0, .int a1, .int a2] (μ, g_rfM) (fun r1 σ1 => r1 = some (.int z.1) ∧ σ1 = (z.2, g_rfM)) := by
  unfold f_X12_ith at h
  refine g_met 0 (by decide) rfl rfl (Nat.le_of_ble_eq_true rfl) ?_
  refine g_iload_n dX12_ith_0 rfl ?_
  refine m_cS mt_X12_isLong ml_X12_293 ms_X12_isLong dX12_ith_1 (k_X12_isLong rfl) rfl rfl (by decide) ⟨Nat.le_refl _, Nat.le_refl _⟩ (Nat.le_of_ble_eq_true rfl) ?_
  refine g_if_eq 19 (by decide) dX12_ith_4 (fun c1 => ?_) (fun c1 => ?_)
  · have h := g_ifp c1 h
    refine g_icm1 dX12_ith_19 ?_
    obtain rfl := Option.some.inj h
    exact g_iret rfl (Nat.le_refl _) rfl dX12_ith_20 ⟨rfl, rfl⟩
  · have h := g_ifn c1 h
    refine g_iload_n dX12_ith_7 rfl ?_
    refine g_i2l dX12_ith_8 ?_
    refine g_lc0 dX12_ith_9 ?_
    refine g_ldc2 kc_X12_300 dX12_ith_10 ?_
    refine m_cS mt_X12_isIn ml_X12_66 ms_X12_isIn dX12_ith_13 (k_X12_isIn rfl) rfl rfl (by decide) ⟨Nat.le_refl _, Nat.le_refl _⟩ (Nat.le_of_ble_eq_true rfl) ?_
    refine g_if_ne 21 (by decide) dX12_ith_16 (fun c2 => ?_) (fun c2 => ?_)
    · have h := g_ifn c2 h
      refine g_aload_n dX12_ith_21 rfl ?_
      refine g_iload_n dX12_ith_22 rfl ?_
      refine g_ic0 dX12_ith_23 ?_
      obtain ⟨μ5, q4, h⟩ := g_bind h
      refine m_cVv mt_X12_findsPlans ml_X12_296 mv_X12_findsPlans dX12_ith_24 (k_X12_findsPlans q4) rfl rfl rfl rfl (by decide) ⟨Nat.le_refl _, Nat.le_refl _⟩ (Nat.le_of_ble_eq_true rfl) ?_
      refine g_iload_n dX12_ith_27 rfl ?_
      refine g_aload_n dX12_ith_28 rfl ?_
      refine m_getI fl_X12_275 rfl rfl dX12_ith_29 ?_
      refine g_icmp_ge 44 (by decide) dX12_ith_32 (fun c6 => ?_) (fun c6 => ?_)
      · have h := g_ifp c6 h
        refine g_bipush (v := (-3)) dX12_ith_44 (by decide) ?_
        obtain rfl := Option.some.inj h
        exact g_iret rfl (Nat.le_refl _) rfl dX12_ith_46 ⟨rfl, rfl⟩
      · have h := g_ifn c6 h
        refine g_aload_n dX12_ith_35 rfl ?_
        refine m_getR fl_X12_37 rfl rfl rfl dX12_ith_36 ?_
        refine g_iload_n dX12_ith_39 rfl ?_
        obtain ⟨x7, qx7, h⟩ := g_bind h
        refine m_iald rfl qx7 dX12_ith_40 ?_
        refine g_goto 46 (by decide) dX12_ith_41 ?_
        obtain rfl := Option.some.inj h
        exact g_iret rfl (Nat.le_refl _) rfl dX12_ith_46 ⟨rfl, rfl⟩
    · have h := g_ifp c2 h
      refine g_icm1 dX12_ith_19 ?_
      obtain rfl := Option.some.inj h
      exact g_iret rfl (Nat.le_refl _) rfl dX12_ith_20 ⟨rfl, rfl⟩
set_option maxRecDepth 100000 in
set_option maxHeartbeats 4000000 in
theorem k_X12_ways {D : va_G} {cA : Nat → ClassId} {b k : Nat} {N : Nat} {a1 : Int32} {μ : g_M} {z : Int32 × g_M} (h : f_X12_ways N a1 μ = some z) : g_K (g_XM D cA b) yX12_ways Y_X12_ways 50 0 0 k [.ref 0, .int a1] (μ, g_rfM) (fun r1 σ1 => r1 = some (.int z.1) ∧ σ1 = (z.2, g_rfM)) := by
  unfold f_X12_ways at h
  refine g_met 0 (by decide) rfl rfl (Nat.le_of_ble_eq_true rfl) ?_
  refine g_iload_n dX12_ways_0 rfl ?_
  refine m_cS mt_X12_isLong ml_X12_293 ms_X12_isLong dX12_ways_1 (k_X12_isLong rfl) rfl rfl (by decide) ⟨Nat.le_refl _, Nat.le_refl _⟩ (Nat.le_of_ble_eq_true rfl) ?_
  refine g_if_ne 9 (by decide) dX12_ways_4 (fun c1 => ?_) (fun c1 => ?_)
  · have h := g_ifn c1 h
    refine g_aload_n dX12_ways_9 rfl ?_
    refine g_iload_n dX12_ways_10 rfl ?_
    refine g_ic0 dX12_ways_11 ?_
    obtain ⟨μ4, q3, h⟩ := g_bind h
    refine m_cVv mt_X12_findsPlans ml_X12_296 mv_X12_findsPlans dX12_ways_12 (k_X12_findsPlans q3) rfl rfl rfl rfl (by decide) ⟨Nat.le_refl _, Nat.le_refl _⟩ (Nat.le_of_ble_eq_true rfl) ?_
    refine g_aload_n dX12_ways_15 rfl ?_
    refine m_getI fl_X12_272 rfl rfl dX12_ways_16 ?_
    obtain rfl := Option.some.inj h
    exact g_iret rfl (Nat.le_refl _) rfl dX12_ways_19 ⟨rfl, rfl⟩
  · have h := g_ifp c1 h
    refine g_icm1 dX12_ways_7 ?_
    obtain rfl := Option.some.inj h
    exact g_iret rfl (Nat.le_refl _) rfl dX12_ways_8 ⟨rfl, rfl⟩
set_option maxRecDepth 100000 in
set_option maxHeartbeats 4000000 in
theorem k_X12_isSet {D : va_G} {cA : Nat → ClassId} {b k : Nat} {a1 : Int32} {μ : g_M} {z : Int32} (h : f_X12_isSet a1 μ = z) : g_K (g_XM D cA b) yX12_isSet Y_X12_isSet 2 0 0 k [.ref 0, .int a1] (μ, g_rfM) (fun r1 σ1 => r1 = some (.int z) ∧ σ1 = (μ, g_rfM)) := by
  unfold f_X12_isSet at h
  refine g_met 0 (by decide) rfl rfl (Nat.le_of_ble_eq_true rfl) ?_
  refine g_iload_n dX12_isSet_0 rfl ?_
  refine g_i2l dX12_isSet_1 ?_
  refine g_lc0 dX12_isSet_2 ?_
  refine g_ic1 dX12_isSet_3 ?_
  refine g_aload_n dX12_isSet_4 rfl ?_
  refine m_getR fl_X12_7 rfl rfl rfl dX12_isSet_5 ?_
  refine g_ic0 dX12_isSet_8 ?_
  refine m_ialdc 0 rfl rfl (by decide) (by decide) dX12_isSet_9 ?_
  refine g_ishl dX12_isSet_10 ?_
  refine g_ic1 dX12_isSet_11 ?_
  refine g_isub dX12_isSet_12 ?_
  refine g_i2l dX12_isSet_13 ?_
  refine m_cS mt_X12_isIn ml_X12_66 ms_X12_isIn dX12_isSet_14 (k_X12_isIn rfl) rfl rfl (by decide) ⟨Nat.le_refl _, Nat.le_refl _⟩ (Nat.le_of_ble_eq_true rfl) ?_
  subst h
  exact g_zret rfl (Nat.le_refl _) rfl (zb_X12_isIn (Int32.toInt64 a1) 0 (Int32.toInt64 ((1 <<< ((μ 1 0) &&& 31)) - 1))) dX12_isSet_17 ⟨rfl, rfl⟩
set_option maxRecDepth 100000 in
set_option maxHeartbeats 4000000 in
theorem zb_X12_isSet (a1 : Int32) (μ : g_M) : narrow .boolean (.int (f_X12_isSet a1 μ)) = .int (f_X12_isSet a1 μ) := by
  unfold f_X12_isSet
  repeat' split
  all_goals first | rfl | apply zb_X12_isIn
set_option maxRecDepth 100000 in
set_option maxHeartbeats 4000000 in
theorem k_X12_kept {D : va_G} {cA : Nat → ClassId} {b k : Nat} {N : Nat} {a1 : Int32} {a2 : Int32} {μ : g_M} {z : Int32 × g_M} (h : f_X12_kept N a1 a2 μ = some z) : g_K (g_XM D cA b) yX12_kept Y_X12_kept 50 0 0 k [.ref 0, .int a1, .int a2] (μ, g_rfM) (fun r1 σ1 => r1 = some (.int z.1) ∧ σ1 = (z.2, g_rfM)) := by
  unfold f_X12_kept at h
  refine g_met 0 (by decide) rfl rfl (Nat.le_of_ble_eq_true rfl) ?_
  refine g_iload_n dX12_kept_0 rfl ?_
  refine m_cS mt_X12_isLong ml_X12_293 ms_X12_isLong dX12_kept_1 (k_X12_isLong rfl) rfl rfl (by decide) ⟨Nat.le_refl _, Nat.le_refl _⟩ (Nat.le_of_ble_eq_true rfl) ?_
  refine g_if_eq 15 (by decide) dX12_kept_4 (fun c1 => ?_) (fun c1 => ?_)
  · have h := g_ifp c1 h
    refine g_icm1 dX12_kept_15 ?_
    obtain rfl := Option.some.inj h
    exact g_iret rfl (Nat.le_refl _) rfl dX12_kept_16 ⟨rfl, rfl⟩
  · have h := g_ifn c1 h
    refine g_aload_n dX12_kept_7 rfl ?_
    refine g_iload_n dX12_kept_8 rfl ?_
    refine m_cV mt_X12_isSet ml_X12_302 mv_X12_isSet dX12_kept_9 (k_X12_isSet rfl) rfl rfl rfl rfl (by decide) ⟨Nat.le_refl _, Nat.le_refl _⟩ (Nat.le_of_ble_eq_true rfl) ?_
    refine g_if_ne 17 (by decide) dX12_kept_12 (fun c2 => ?_) (fun c2 => ?_)
    · have h := g_ifn c2 h
      refine g_aload_n dX12_kept_17 rfl ?_
      refine g_iload_n dX12_kept_18 rfl ?_
      refine g_iload_n dX12_kept_19 rfl ?_
      obtain ⟨μ5, q4, h⟩ := g_bind h
      refine m_cVv mt_X12_findsPlans ml_X12_296 mv_X12_findsPlans dX12_kept_20 (k_X12_findsPlans q4) rfl rfl rfl rfl (by decide) ⟨Nat.le_refl _, Nat.le_refl _⟩ (Nat.le_of_ble_eq_true rfl) ?_
      refine g_aload_n dX12_kept_23 rfl ?_
      refine m_getI fl_X12_284 rfl rfl dX12_kept_24 ?_
      refine g_bipush (v := 9) dX12_kept_27 (by decide) ?_
      refine g_icmp_ge 39 (by decide) dX12_kept_29 (fun c6 => ?_) (fun c6 => ?_)
      · have h := g_ifp c6 h
        refine g_bipush (v := (-3)) dX12_kept_39 (by decide) ?_
        obtain rfl := Option.some.inj h
        exact g_iret rfl (Nat.le_refl _) rfl dX12_kept_41 ⟨rfl, rfl⟩
      · have h := g_ifn c6 h
        refine g_aload_n dX12_kept_32 rfl ?_
        refine m_getI fl_X12_284 rfl rfl dX12_kept_33 ?_
        refine g_goto 41 (by decide) dX12_kept_36 ?_
        obtain rfl := Option.some.inj h
        exact g_iret rfl (Nat.le_refl _) rfl dX12_kept_41 ⟨rfl, rfl⟩
    · have h := g_ifp c2 h
      refine g_icm1 dX12_kept_15 ?_
      obtain rfl := Option.some.inj h
      exact g_iret rfl (Nat.le_refl _) rfl dX12_kept_16 ⟨rfl, rfl⟩
set_option maxRecDepth 100000 in
set_option maxHeartbeats 4000000 in
theorem k_X12_bars_L25 {D : va_G} {cA : Nat → ClassId} {b k : Nat} {Q : Option Value → g_S → Prop} {N : Nat} : ∀ (n : Nat) (x_2 : Int32) (x_3 : Int32) (μ : g_M) (z : (Int32 × g_M) ⊕ (Unit)), f_X12_bars_L25 N n x_2 x_3 μ = some z → (∀ q : Int32 × g_M, z = .inl q → Q (some (.int q.1)) (q.2, g_rfM)) → (z = .inr () → g_V (g_XM D cA b) Y_X12_bars 50 0 0 Q k 0 0 59 [none, none, none, none] [] (μ, g_rfM)) → g_V (g_XM D cA b) Y_X12_bars 50 0 0 Q k 0 0 25 [some (.ref 0), none, some (.int x_2), some (.int x_3)] [] (μ, g_rfM) := by
  intro n
  induction n with
  | zero =>
    intro x_2 x_3 μ z h
    rw [f_X12_bars_L25] at h
    cases h
  | succ n ih =>
    intro x_2 x_3 μ z h hr hc
    rw [f_X12_bars_L25] at h
    refine g_iload_n dX12_bars_25 rfl ?_
    refine g_aload_n dX12_bars_26 rfl ?_
    refine m_getR fl_X12_7 rfl rfl rfl dX12_bars_27 ?_
    refine g_ic0 dX12_bars_30 ?_
    refine m_ialdc 0 rfl rfl (by decide) (by decide) dX12_bars_31 ?_
    refine g_icmp_ge 59 (by decide) dX12_bars_32 (fun c6 => ?_) (fun c6 => ?_)
    · have h := g_ifp c6 h
      obtain rfl := Option.some.inj h
      exact g_less _ (g_subN (g_subN (g_subN (g_subN g_sub0)))) (hc  rfl)
    · have h := g_ifn c6 h
      refine g_iload_n dX12_bars_35 rfl ?_
      refine g_aload_n dX12_bars_36 rfl ?_
      refine m_getI fl_X12_278 rfl rfl dX12_bars_37 ?_
      refine g_icm1 dX12_bars_40 ?_
      refine g_ixor dX12_bars_41 ?_
      refine g_iand dX12_bars_42 ?_
      refine g_iload_n dX12_bars_43 rfl ?_
      refine g_ishr dX12_bars_44 ?_
      refine g_ic1 dX12_bars_45 ?_
      refine g_iand dX12_bars_46 ?_
      refine g_ic1 dX12_bars_47 ?_
      refine g_icmp_ne 53 (by decide) dX12_bars_48 (fun c7 => ?_) (fun c7 => ?_)
      · have h := g_ifn c7 h
        refine g_iinc_3 (v := 1) rfl (by decide) (Nat.le_of_ble_eq_true rfl) dX12_bars_53 ?_
        refine g_goto 25 (by decide) dX12_bars_56 ?_
        exact g_less _ (g_subS (g_subN (g_subS (g_subS g_sub0)))) (ih _ _ _ _ h hr hc)
      · have h := g_ifp c7 h
        refine g_iload_n dX12_bars_51 rfl ?_
        obtain rfl := Option.some.inj h
        exact g_iret rfl (Nat.le_refl _) rfl dX12_bars_52 (hr _ rfl)
set_option maxRecDepth 100000 in
set_option maxHeartbeats 4000000 in
theorem k_X12_bars {D : va_G} {cA : Nat → ClassId} {b k : Nat} {N : Nat} {a1 : Int32} {a2 : Int32} {μ : g_M} {z : Int32 × g_M} (h : f_X12_bars N a1 a2 μ = some z) : g_K (g_XM D cA b) yX12_bars Y_X12_bars 50 0 0 k [.ref 0, .int a1, .int a2] (μ, g_rfM) (fun r1 σ1 => r1 = some (.int z.1) ∧ σ1 = (z.2, g_rfM)) := by
  unfold f_X12_bars at h
  refine g_met 1 (by decide) rfl rfl (Nat.le_of_ble_eq_true rfl) ?_
  refine g_iload_n dX12_bars_0 rfl ?_
  refine m_cS mt_X12_isLong ml_X12_293 ms_X12_isLong dX12_bars_1 (k_X12_isLong rfl) rfl rfl (by decide) ⟨Nat.le_refl _, Nat.le_refl _⟩ (Nat.le_of_ble_eq_true rfl) ?_
  refine g_if_eq 15 (by decide) dX12_bars_4 (fun c1 => ?_) (fun c1 => ?_)
  · have h := g_ifp c1 h
    refine g_icm1 dX12_bars_15 ?_
    obtain rfl := Option.some.inj h
    exact g_iret rfl (Nat.le_refl _) rfl dX12_bars_16 ⟨rfl, rfl⟩
  · have h := g_ifn c1 h
    refine g_aload_n dX12_bars_7 rfl ?_
    refine g_iload_n dX12_bars_8 rfl ?_
    refine m_cV mt_X12_isSet ml_X12_302 mv_X12_isSet dX12_bars_9 (k_X12_isSet rfl) rfl rfl rfl rfl (by decide) ⟨Nat.le_refl _, Nat.le_refl _⟩ (Nat.le_of_ble_eq_true rfl) ?_
    refine g_if_ne 17 (by decide) dX12_bars_12 (fun c2 => ?_) (fun c2 => ?_)
    · have h := g_ifn c2 h
      refine g_aload_n dX12_bars_17 rfl ?_
      refine g_iload_n dX12_bars_18 rfl ?_
      refine g_iload_n dX12_bars_19 rfl ?_
      obtain ⟨μ5, q4, h⟩ := g_bind h
      refine m_cVv mt_X12_findsPlans ml_X12_296 mv_X12_findsPlans dX12_bars_20 (k_X12_findsPlans q4) rfl rfl rfl rfl (by decide) ⟨Nat.le_refl _, Nat.le_refl _⟩ (Nat.le_of_ble_eq_true rfl) ?_
      refine g_ic0 dX12_bars_23 ?_
      refine g_istore_3 rfl (Nat.le_of_ble_eq_true rfl) dX12_bars_24 ?_
      obtain ⟨w7, q6, h⟩ := g_bind h
      refine g_less _ (g_subS (g_subN (g_subS (g_subS g_sub0)))) (k_X12_bars_L25 _ _ _ _ _ q6 ?_ ?_)
      · intro q0 e0
        subst e0
        cases h
        exact ⟨rfl, rfl⟩
      · intro  e0
        subst e0
        try dsimp only at h
        refine g_bipush (v := (-3)) dX12_bars_59 (by decide) ?_
        obtain rfl := Option.some.inj h
        exact g_iret rfl (Nat.le_refl _) rfl dX12_bars_61 ⟨rfl, rfl⟩
    · have h := g_ifp c2 h
      refine g_icm1 dX12_bars_15 ?_
      obtain rfl := Option.some.inj h
      exact g_iret rfl (Nat.le_refl _) rfl dX12_bars_16 ⟨rfl, rfl⟩
set_option maxRecDepth 100000 in
set_option maxHeartbeats 4000000 in
theorem k_X12_valueFrom_L27 {D : va_G} {cA : Nat → ClassId} {b k : Nat} {Q : Option Value → g_S → Prop} {F : Int32 → Int32 → g_M → Option (Int32 × g_M)} {d0 : Nat} (hF : ∀ (a1 : Int32) (a2 : Int32) (μ : g_M) (z : Int32 × g_M), F a1 a2 μ = some z → g_K (g_XM D cA b) yX12_valueFrom Y_X12_valueFrom d0 0 0 k [.ref 0, .int a1, .int a2] (μ, g_rfM) (fun r1 σ1 => r1 = some (.int z.1) ∧ σ1 = (z.2, g_rfM))) {N : Nat} : ∀ (n : Nat) (x_1 : Int32) (x_2 : Int32) (x_3 : Int32) (x_4 : Int32) (x_5 : Int32) (μ : g_M) (z_3 : Int32) (z_4 : Int32) (z_μ : g_M), f_X12_valueFrom_L27 F N n x_1 x_2 x_3 x_4 x_5 μ = some (z_3, z_4, z_μ) → g_V (g_XM D cA b) Y_X12_valueFrom (d0 + 8) 0 0 Q k 0 0 103 [some (.ref 0), none, none, some (.int z_3), some (.int z_4), none, none, none] [] (z_μ, g_rfM) → g_V (g_XM D cA b) Y_X12_valueFrom (d0 + 8) 0 0 Q k 0 0 27 [some (.ref 0), some (.int x_1), some (.int x_2), some (.int x_3), some (.int x_4), some (.int x_5), none, none] [] (μ, g_rfM) := by
  intro n
  induction n with
  | zero =>
    intro x_1 x_2 x_3 x_4 x_5 μ z_3 z_4 z_μ h
    rw [f_X12_valueFrom_L27] at h
    cases h
  | succ n ih =>
    intro x_1 x_2 x_3 x_4 x_5 μ z_3 z_4 z_μ h hc
    rw [f_X12_valueFrom_L27] at h
    refine g_iload dX12_valueFrom_27 rfl ?_
    refine g_aload_n dX12_valueFrom_29 rfl ?_
    refine m_getR fl_X12_7 rfl rfl rfl dX12_valueFrom_30 ?_
    refine g_ic0 dX12_valueFrom_33 ?_
    refine m_ialdc 0 rfl rfl (by decide) (by decide) dX12_valueFrom_34 ?_
    refine g_icmp_gt 103 (by decide) dX12_valueFrom_35 (fun c6 => ?_) (fun c6 => ?_)
    · have h := g_ifp c6 h
      obtain ⟨rfl, rfl, rfl⟩ := g_inj3 h
      exact g_less _ (g_subS (g_subN (g_subN (g_subS (g_subS (g_subN (g_subN (g_subN g_sub0)))))))) hc
    · have h := g_ifn c6 h
      refine g_aload_n dX12_valueFrom_38 rfl ?_
      refine g_iload dX12_valueFrom_39 rfl ?_
      obtain ⟨⟨x7, μ9⟩, q8, h⟩ := g_bind h
      refine m_cV mt_X12_goesWith ml_X12_287 mv_X12_goesWith dX12_valueFrom_41 (k_X12_goesWith q8) rfl rfl rfl rfl (by omega) ⟨Nat.le_refl _, Nat.le_refl _⟩ (Nat.le_of_ble_eq_true rfl) ?_
      refine g_istore_6 rfl (Nat.le_of_ble_eq_true rfl) dX12_valueFrom_44 ?_
      refine g_iload dX12_valueFrom_46 rfl ?_
      refine g_aload_n dX12_valueFrom_48 rfl ?_
      refine g_iload_n dX12_valueFrom_49 rfl ?_
      refine g_ic1 dX12_valueFrom_50 ?_
      refine g_iadd dX12_valueFrom_51 ?_
      refine g_iload_n dX12_valueFrom_52 rfl ?_
      obtain ⟨⟨x10, μ12⟩, q11, h⟩ := g_bind h
      refine m_cV mt_X12_valueFrom ml_X12_305 mv_X12_valueFrom dX12_valueFrom_53 (hF _ _ _ _ q11) rfl rfl rfl rfl (by omega) ⟨Nat.le_refl _, Nat.le_refl _⟩ (Nat.le_of_ble_eq_true rfl) ?_
      refine g_iadd dX12_valueFrom_56 ?_
      obtain ⟨x13, ex13, h⟩ := g_let h
      refine g_top ex13 ?_
      refine g_istore_7 rfl (Nat.le_of_ble_eq_true rfl) dX12_valueFrom_57 ?_
      refine g_aload_n dX12_valueFrom_59 rfl ?_
      refine g_iload_n dX12_valueFrom_60 rfl ?_
      obtain ⟨μ16, q15, h⟩ := g_bind h
      refine m_cVv mt_X12_laysBack ml_X12_237 mv_X12_laysBack dX12_valueFrom_61 (k_X12_laysBack q15) rfl rfl rfl rfl (by omega) ⟨Nat.le_refl _, Nat.le_refl _⟩ (Nat.le_of_ble_eq_true rfl) ?_
      refine g_iload dX12_valueFrom_64 rfl ?_
      refine g_if_lt 90 (by decide) dX12_valueFrom_66 (fun c17 => ?_) (fun c17 => ?_)
      · have h := g_ifp c17 h
        refine g_iload dX12_valueFrom_90 rfl ?_
        refine g_istore_3 rfl (Nat.le_of_ble_eq_true rfl) dX12_valueFrom_92 ?_
        refine g_iload dX12_valueFrom_93 rfl ?_
        refine g_istore_4 rfl (Nat.le_of_ble_eq_true rfl) dX12_valueFrom_95 ?_
        refine g_iinc_5 (v := 1) rfl (by decide) (Nat.le_of_ble_eq_true rfl) dX12_valueFrom_97 ?_
        refine g_goto 27 (by decide) dX12_valueFrom_100 ?_
        exact g_less _ (g_subS (g_subS (g_subS (g_subS (g_subS (g_subS (g_subN (g_subN g_sub0)))))))) (ih _ _ _ _ _ _ _ _ _ h hc)
      · have h := g_ifn c17 h
        refine g_iload_n dX12_valueFrom_69 rfl ?_
        refine g_ic2 dX12_valueFrom_70 ?_
        refine g_irem dX12_valueFrom_71 (by decide) ?_
        refine g_if_ne 84 (by decide) dX12_valueFrom_72 (fun c18 => ?_) (fun c18 => ?_)
        · have h := g_ifn c18 h
          refine g_iload dX12_valueFrom_84 rfl ?_
          refine g_iload_n dX12_valueFrom_86 rfl ?_
          refine g_icmp_ge 97 (by decide) dX12_valueFrom_87 (fun c19 => ?_) (fun c19 => ?_)
          · have h := g_ifp c19 h
            refine g_iinc_5 (v := 1) rfl (by decide) (Nat.le_of_ble_eq_true rfl) dX12_valueFrom_97 ?_
            refine g_goto 27 (by decide) dX12_valueFrom_100 ?_
            exact g_less _ (g_subS (g_subS (g_subS (g_subS (g_subS (g_subS (g_subN (g_subN g_sub0)))))))) (ih _ _ _ _ _ _ _ _ _ h hc)
          · have h := g_ifn c19 h
            refine g_iload dX12_valueFrom_90 rfl ?_
            refine g_istore_3 rfl (Nat.le_of_ble_eq_true rfl) dX12_valueFrom_92 ?_
            refine g_iload dX12_valueFrom_93 rfl ?_
            refine g_istore_4 rfl (Nat.le_of_ble_eq_true rfl) dX12_valueFrom_95 ?_
            refine g_iinc_5 (v := 1) rfl (by decide) (Nat.le_of_ble_eq_true rfl) dX12_valueFrom_97 ?_
            refine g_goto 27 (by decide) dX12_valueFrom_100 ?_
            exact g_less _ (g_subS (g_subS (g_subS (g_subS (g_subS (g_subS (g_subN (g_subN g_sub0)))))))) (ih _ _ _ _ _ _ _ _ _ h hc)
        · have h := g_ifp c18 h
          refine g_iload dX12_valueFrom_75 rfl ?_
          refine g_iload_n dX12_valueFrom_77 rfl ?_
          refine g_icmp_le 97 (by decide) dX12_valueFrom_78 (fun c20 => ?_) (fun c20 => ?_)
          · have h := g_ifp c20 h
            refine g_iinc_5 (v := 1) rfl (by decide) (Nat.le_of_ble_eq_true rfl) dX12_valueFrom_97 ?_
            refine g_goto 27 (by decide) dX12_valueFrom_100 ?_
            exact g_less _ (g_subS (g_subS (g_subS (g_subS (g_subS (g_subS (g_subN (g_subN g_sub0)))))))) (ih _ _ _ _ _ _ _ _ _ h hc)
          · have h := g_ifn c20 h
            refine g_goto 90 (by decide) dX12_valueFrom_81 ?_
            refine g_iload dX12_valueFrom_90 rfl ?_
            refine g_istore_3 rfl (Nat.le_of_ble_eq_true rfl) dX12_valueFrom_92 ?_
            refine g_iload dX12_valueFrom_93 rfl ?_
            refine g_istore_4 rfl (Nat.le_of_ble_eq_true rfl) dX12_valueFrom_95 ?_
            refine g_iinc_5 (v := 1) rfl (by decide) (Nat.le_of_ble_eq_true rfl) dX12_valueFrom_97 ?_
            refine g_goto 27 (by decide) dX12_valueFrom_100 ?_
            exact g_less _ (g_subS (g_subS (g_subS (g_subS (g_subS (g_subS (g_subN (g_subN g_sub0)))))))) (ih _ _ _ _ _ _ _ _ _ h hc)
set_option maxRecDepth 100000 in
set_option maxHeartbeats 4000000 in
theorem k_X12_valueFrom {D : va_G} {cA : Nat → ClassId} {b k : Nat} {N : Nat} : ∀ (n : Nat) (a1 : Int32) (a2 : Int32) (μ : g_M) (z : Int32 × g_M), f_X12_valueFrom N n a1 a2 μ = some z → g_K (g_XM D cA b) yX12_valueFrom Y_X12_valueFrom (8 * n) 0 0 k [.ref 0, .int a1, .int a2] (μ, g_rfM) (fun r1 σ1 => r1 = some (.int z.1) ∧ σ1 = (z.2, g_rfM)) := by
  intro n
  induction n with
  | zero =>
    intro a1 a2 μ z h
    rw [f_X12_valueFrom] at h
    cases h
  | succ n hF =>
    intro a1 a2 μ z h
    rw [f_X12_valueFrom] at h
    refine g_met (d := 8 * n + 8) 5 (by decide) rfl rfl (Nat.le_of_ble_eq_true rfl) ?_
    refine g_iload_n dX12_valueFrom_0 rfl ?_
    refine g_iload_n dX12_valueFrom_1 rfl ?_
    refine g_icmp_eq 12 (by decide) dX12_valueFrom_2 (fun c1 => ?_) (fun c1 => ?_)
    · have h := g_ifp c1 h
      refine g_ic0 dX12_valueFrom_12 ?_
      obtain rfl := Option.some.inj h
      exact g_iret rfl (Nat.le_refl _) rfl dX12_valueFrom_13 ⟨rfl, rfl⟩
    · have h := g_ifn c1 h
      refine g_aload_n dX12_valueFrom_5 rfl ?_
      refine m_cV mt_X12_isOver ml_X12_133 mv_X12_isOver dX12_valueFrom_6 (k_X12_isOver rfl) rfl rfl rfl rfl (by omega) ⟨Nat.le_refl _, Nat.le_refl _⟩ (Nat.le_of_ble_eq_true rfl) ?_
      refine g_if_eq 14 (by decide) dX12_valueFrom_9 (fun c2 => ?_) (fun c2 => ?_)
      · have h := g_ifp c2 h
        refine g_aload_n dX12_valueFrom_14 rfl ?_
        refine g_iload_n dX12_valueFrom_15 rfl ?_
        obtain ⟨μ5, q4, h⟩ := g_bind h
        refine m_cVv mt_X12_laysAside ml_X12_234 mv_X12_laysAside dX12_valueFrom_16 (k_X12_laysAside q4) rfl rfl rfl rfl (by omega) ⟨Nat.le_refl _, Nat.le_refl _⟩ (Nat.le_of_ble_eq_true rfl) ?_
        refine g_ic0 dX12_valueFrom_19 ?_
        refine g_istore_3 rfl (Nat.le_of_ble_eq_true rfl) dX12_valueFrom_20 ?_
        refine g_icm1 dX12_valueFrom_21 ?_
        refine g_istore_4 rfl (Nat.le_of_ble_eq_true rfl) dX12_valueFrom_22 ?_
        refine g_ic0 dX12_valueFrom_24 ?_
        refine g_istore_5 rfl (Nat.le_of_ble_eq_true rfl) dX12_valueFrom_25 ?_
        obtain ⟨⟨x6, x7, μ8⟩, q9, h⟩ := g_bind h
        refine g_less _ (g_subS (g_subS (g_subS (g_subS (g_subS (g_subS (g_subN (g_subN g_sub0)))))))) (k_X12_valueFrom_L27 hF _ _ _ _ _ _ _ _ _ _ q9 ?_)
        refine g_aload_n dX12_valueFrom_103 rfl ?_
        refine g_iload dX12_valueFrom_104 rfl ?_
        obtain ⟨μ10, eμ10, h⟩ := g_let h
        refine m_putI fl_X12_308 fw_12_28 rfl rfl rfl rfl dX12_valueFrom_106 eμ10 ?_
        refine g_iload_n dX12_valueFrom_109 rfl ?_
        obtain rfl := Option.some.inj h
        exact g_iret rfl (Nat.le_refl _) rfl dX12_valueFrom_110 ⟨rfl, rfl⟩
      · have h := g_ifn c2 h
        refine g_ic0 dX12_valueFrom_12 ?_
        obtain rfl := Option.some.inj h
        exact g_iret rfl (Nat.le_refl _) rfl dX12_valueFrom_13 ⟨rfl, rfl⟩
set_option maxRecDepth 100000 in
set_option maxHeartbeats 4000000 in
theorem k_X12_game {D : va_G} {cA : Nat → ClassId} {b k : Nat} {N : Nat} {a1 : Int32} {μ : g_M} {z : Int32 × g_M} (h : f_X12_game N a1 μ = some z) : g_K (g_XM D cA b) yX12_game Y_X12_game 49 0 0 k [.ref 0, .int a1] (μ, g_rfM) (fun r1 σ1 => r1 = some (.int z.1) ∧ σ1 = (z.2, g_rfM)) := by
  unfold f_X12_game at h
  refine g_met 0 (by decide) rfl rfl (Nat.le_of_ble_eq_true rfl) ?_
  refine g_iload_n dX12_game_0 rfl ?_
  refine g_i2l dX12_game_1 ?_
  refine g_lc1 dX12_game_2 ?_
  refine g_ldc2 kc_X12_126 dX12_game_3 ?_
  refine m_cS mt_X12_isIn ml_X12_66 ms_X12_isIn dX12_game_6 (k_X12_isIn rfl) rfl rfl (by decide) ⟨Nat.le_refl _, Nat.le_refl _⟩ (Nat.le_of_ble_eq_true rfl) ?_
  refine g_if_eq 21 (by decide) dX12_game_9 (fun c1 => ?_) (fun c1 => ?_)
  · have h := g_ifp c1 h
    refine g_icm1 dX12_game_21 ?_
    obtain rfl := Option.some.inj h
    exact g_iret rfl (Nat.le_refl _) rfl dX12_game_22 ⟨rfl, rfl⟩
  · have h := g_ifn c1 h
    refine g_aload_n dX12_game_12 rfl ?_
    refine g_ic0 dX12_game_13 ?_
    refine g_iload_n dX12_game_14 rfl ?_
    obtain ⟨⟨x2, μ4⟩, q3, h⟩ := g_bind h
    refine m_cV mt_X12_valueFrom ml_X12_305 mv_X12_valueFrom dX12_game_15 (k_X12_valueFrom _ _ _ _ _ q3) rfl rfl rfl rfl (by decide) ⟨Nat.le_refl _, Nat.le_refl _⟩ (Nat.le_of_ble_eq_true rfl) ?_
    refine g_goto 22 (by decide) dX12_game_18 ?_
    obtain rfl := Option.some.inj h
    exact g_iret rfl (Nat.le_refl _) rfl dX12_game_22 ⟨rfl, rfl⟩
set_option maxRecDepth 100000 in
set_option maxHeartbeats 4000000 in
theorem k_X12_play {D : va_G} {cA : Nat → ClassId} {b k : Nat} {N : Nat} {a1 : Int32} {μ : g_M} {z : Int32 × g_M} (h : f_X12_play N a1 μ = some z) : g_K (g_XM D cA b) yX12_play Y_X12_play 49 0 0 k [.ref 0, .int a1] (μ, g_rfM) (fun r1 σ1 => r1 = some (.int z.1) ∧ σ1 = (z.2, g_rfM)) := by
  unfold f_X12_play at h
  refine g_met 1 (by decide) rfl rfl (Nat.le_of_ble_eq_true rfl) ?_
  refine g_iload_n dX12_play_0 rfl ?_
  refine g_i2l dX12_play_1 ?_
  refine g_lc1 dX12_play_2 ?_
  refine g_ldc2 kc_X12_126 dX12_play_3 ?_
  refine m_cS mt_X12_isIn ml_X12_66 ms_X12_isIn dX12_play_6 (k_X12_isIn rfl) rfl rfl (by decide) ⟨Nat.le_refl _, Nat.le_refl _⟩ (Nat.le_of_ble_eq_true rfl) ?_
  refine g_if_ne 14 (by decide) dX12_play_9 (fun c1 => ?_) (fun c1 => ?_)
  · have h := g_ifn c1 h
    refine g_aload_n dX12_play_14 rfl ?_
    refine m_cV mt_X12_isOver ml_X12_133 mv_X12_isOver dX12_play_15 (k_X12_isOver rfl) rfl rfl rfl rfl (by decide) ⟨Nat.le_refl _, Nat.le_refl _⟩ (Nat.le_of_ble_eq_true rfl) ?_
    refine g_if_eq 24 (by decide) dX12_play_18 (fun c2 => ?_) (fun c2 => ?_)
    · have h := g_ifp c2 h
      refine g_aload_n dX12_play_24 rfl ?_
      refine g_ic0 dX12_play_25 ?_
      refine g_iload_n dX12_play_26 rfl ?_
      obtain ⟨⟨x3, μ5⟩, q4, h⟩ := g_bind h
      refine m_cV mt_X12_valueFrom ml_X12_305 mv_X12_valueFrom dX12_play_27 (k_X12_valueFrom _ _ _ _ _ q4) rfl rfl rfl rfl (by decide) ⟨Nat.le_refl _, Nat.le_refl _⟩ (Nat.le_of_ble_eq_true rfl) ?_
      refine g_istore_2 rfl (Nat.le_of_ble_eq_true rfl) dX12_play_30 ?_
      refine g_aload_n dX12_play_31 rfl ?_
      refine m_getI fl_X12_308 rfl rfl dX12_play_32 ?_
      obtain rfl := Option.some.inj h
      exact g_iret rfl (Nat.le_refl _) rfl dX12_play_35 ⟨rfl, rfl⟩
    · have h := g_ifn c2 h
      refine g_bipush (v := (-3)) dX12_play_21 (by decide) ?_
      obtain rfl := Option.some.inj h
      exact g_iret rfl (Nat.le_refl _) rfl dX12_play_23 ⟨rfl, rfl⟩
  · have h := g_ifp c1 h
    refine g_icm1 dX12_play_12 ?_
    obtain rfl := Option.some.inj h
    exact g_iret rfl (Nat.le_refl _) rfl dX12_play_13 ⟨rfl, rfl⟩
set_option maxRecDepth 100000 in
set_option maxHeartbeats 4000000 in
theorem k_X12_report {D : va_G} {cA : Nat → ClassId} {b k : Nat} {a1 : Int32} {a2 : Int32} {a3 : Int32} {a4 : Int32} {μ : g_M} {z : Int32 × g_M} (h : f_X12_report a1 a2 a3 a4 μ = some z) : g_K (g_XM D cA b) yX12_report Y_X12_report 2 0 0 k [.ref 0, .int a1, .int a2, .int a3, .int a4] (μ, g_rfM) (fun r1 σ1 => r1 = some (.int z.1) ∧ σ1 = (z.2, g_rfM)) := by
  unfold f_X12_report at h
  refine g_met 1 (by decide) rfl rfl (Nat.le_of_ble_eq_true rfl) ?_
  refine g_iload_n dX12_report_0 rfl ?_
  refine g_i2l dX12_report_1 ?_
  refine g_lc1 dX12_report_2 ?_
  refine g_ldc2 kc_X12_64 dX12_report_3 ?_
  refine m_cS mt_X12_isIn ml_X12_66 ms_X12_isIn dX12_report_6 (k_X12_isIn rfl) rfl rfl (by decide) ⟨Nat.le_refl _, Nat.le_refl _⟩ (Nat.le_of_ble_eq_true rfl) ?_
  refine g_if_eq 52 (by decide) dX12_report_9 (fun c1 => ?_) (fun c1 => ?_)
  · have h := g_ifp c1 h
    refine g_icm1 dX12_report_52 ?_
    obtain rfl := Option.some.inj h
    exact g_iret rfl (Nat.le_refl _) rfl dX12_report_53 ⟨rfl, rfl⟩
  · have h := g_ifn c1 h
    refine g_iload_n dX12_report_12 rfl ?_
    refine g_i2l dX12_report_13 ?_
    refine g_lc0 dX12_report_14 ?_
    refine g_ldc2 kc_X12_72 dX12_report_15 ?_
    refine m_cS mt_X12_isIn ml_X12_66 ms_X12_isIn dX12_report_18 (k_X12_isIn rfl) rfl rfl (by decide) ⟨Nat.le_refl _, Nat.le_refl _⟩ (Nat.le_of_ble_eq_true rfl) ?_
    refine g_if_eq 52 (by decide) dX12_report_21 (fun c2 => ?_) (fun c2 => ?_)
    · have h := g_ifp c2 h
      refine g_icm1 dX12_report_52 ?_
      obtain rfl := Option.some.inj h
      exact g_iret rfl (Nat.le_refl _) rfl dX12_report_53 ⟨rfl, rfl⟩
    · have h := g_ifn c2 h
      refine g_iload_n dX12_report_24 rfl ?_
      refine g_i2l dX12_report_25 ?_
      refine g_ldc2 kc_X12_311 dX12_report_26 ?_
      refine g_ldc2 kc_X12_313 dX12_report_29 ?_
      refine m_cS mt_X12_isIn ml_X12_66 ms_X12_isIn dX12_report_32 (k_X12_isIn rfl) rfl rfl (by decide) ⟨Nat.le_refl _, Nat.le_refl _⟩ (Nat.le_of_ble_eq_true rfl) ?_
      refine g_if_eq 52 (by decide) dX12_report_35 (fun c3 => ?_) (fun c3 => ?_)
      · have h := g_ifp c3 h
        refine g_icm1 dX12_report_52 ?_
        obtain rfl := Option.some.inj h
        exact g_iret rfl (Nat.le_refl _) rfl dX12_report_53 ⟨rfl, rfl⟩
      · have h := g_ifn c3 h
        refine g_iload dX12_report_38 rfl ?_
        refine g_i2l dX12_report_40 ?_
        refine g_iload_n dX12_report_41 rfl ?_
        refine g_i2l dX12_report_42 ?_
        refine g_ldc2 kc_X12_313 dX12_report_43 ?_
        refine m_cS mt_X12_isIn ml_X12_66 ms_X12_isIn dX12_report_46 (k_X12_isIn rfl) rfl rfl (by decide) ⟨Nat.le_refl _, Nat.le_refl _⟩ (Nat.le_of_ble_eq_true rfl) ?_
        refine g_if_ne 54 (by decide) dX12_report_49 (fun c4 => ?_) (fun c4 => ?_)
        · have h := g_ifn c4 h
          refine g_aload_n dX12_report_54 rfl ?_
          refine m_getR fl_X12_7 rfl rfl rfl dX12_report_55 ?_
          refine g_bipush (v := 6) dX12_report_58 (by decide) ?_
          refine m_ialdc 6 rfl rfl (by decide) (by decide) dX12_report_60 ?_
          refine g_bipush (v := 6) dX12_report_61 (by decide) ?_
          refine g_icmp_ne 69 (by decide) dX12_report_63 (fun c5 => ?_) (fun c5 => ?_)
          · have h := g_ifn c5 h
            refine g_bipush (v := 70) dX12_report_69 (by decide) ?_
            refine g_ic4 dX12_report_71 ?_
            refine g_aload_n dX12_report_72 rfl ?_
            refine m_getR fl_X12_7 rfl rfl rfl dX12_report_73 ?_
            refine g_bipush (v := 6) dX12_report_76 (by decide) ?_
            refine m_ialdc 6 rfl rfl (by decide) (by decide) dX12_report_78 ?_
            refine g_imul dX12_report_79 ?_
            refine g_iadd dX12_report_80 ?_
            obtain ⟨x6, ex6, h⟩ := g_let h
            refine g_top ex6 ?_
            refine g_istore_5 rfl (Nat.le_of_ble_eq_true rfl) dX12_report_81 ?_
            refine g_aload_n dX12_report_83 rfl ?_
            refine m_getR fl_X12_7 rfl rfl rfl dX12_report_84 ?_
            refine g_iload dX12_report_87 rfl ?_
            refine g_iload_n dX12_report_89 rfl ?_
            obtain ⟨μ7, qμ7, h⟩ := g_bind h
            refine m_iast rfl qμ7 dX12_report_90 ?_
            refine g_aload_n dX12_report_91 rfl ?_
            refine m_getR fl_X12_7 rfl rfl rfl dX12_report_92 ?_
            refine g_iload dX12_report_95 rfl ?_
            refine g_ic1 dX12_report_97 ?_
            refine g_iadd dX12_report_98 ?_
            refine g_iload_n dX12_report_99 rfl ?_
            obtain ⟨μ8, qμ8, h⟩ := g_bind h
            refine m_iast rfl qμ8 dX12_report_100 ?_
            refine g_aload_n dX12_report_101 rfl ?_
            refine m_getR fl_X12_7 rfl rfl rfl dX12_report_102 ?_
            refine g_iload dX12_report_105 rfl ?_
            refine g_ic2 dX12_report_107 ?_
            refine g_iadd dX12_report_108 ?_
            refine g_iload_n dX12_report_109 rfl ?_
            obtain ⟨μ9, qμ9, h⟩ := g_bind h
            refine m_iast rfl qμ9 dX12_report_110 ?_
            refine g_aload_n dX12_report_111 rfl ?_
            refine m_getR fl_X12_7 rfl rfl rfl dX12_report_112 ?_
            refine g_iload dX12_report_115 rfl ?_
            refine g_ic3 dX12_report_117 ?_
            refine g_iadd dX12_report_118 ?_
            refine g_iload dX12_report_119 rfl ?_
            obtain ⟨μ10, qμ10, h⟩ := g_bind h
            refine m_iast rfl qμ10 dX12_report_121 ?_
            refine g_aload_n dX12_report_122 rfl ?_
            refine m_getR fl_X12_7 rfl rfl rfl dX12_report_123 ?_
            refine g_bipush (v := 6) dX12_report_126 (by decide) ?_
            refine g_dup2 dX12_report_128 rfl rfl ?_
            refine m_ialdc 6 rfl rfl (by decide) (by decide) dX12_report_129 ?_
            refine g_ic1 dX12_report_130 ?_
            refine g_iadd dX12_report_131 ?_
            obtain ⟨μ11, eμ11, h⟩ := g_let h
            refine m_iastc 6 rfl rfl (by decide) (by decide) dX12_report_132 eμ11 ?_
            refine g_aload_n dX12_report_133 rfl ?_
            refine m_getR fl_X12_7 rfl rfl rfl dX12_report_134 ?_
            refine g_bipush (v := 6) dX12_report_137 (by decide) ?_
            refine m_ialdc 6 rfl rfl (by decide) (by decide) dX12_report_139 ?_
            refine g_ic1 dX12_report_140 ?_
            refine g_isub dX12_report_141 ?_
            obtain rfl := Option.some.inj h
            exact g_iret rfl (Nat.le_refl _) rfl dX12_report_142 ⟨rfl, rfl⟩
          · have h := g_ifp c5 h
            refine g_bipush (v := (-2)) dX12_report_66 (by decide) ?_
            obtain rfl := Option.some.inj h
            exact g_iret rfl (Nat.le_refl _) rfl dX12_report_68 ⟨rfl, rfl⟩
        · have h := g_ifp c4 h
          refine g_icm1 dX12_report_52 ?_
          obtain rfl := Option.some.inj h
          exact g_iret rfl (Nat.le_refl _) rfl dX12_report_53 ⟨rfl, rfl⟩
set_option maxRecDepth 100000 in
set_option maxHeartbeats 4000000 in
theorem k_X12_forget {D : va_G} {cA : Nat → ClassId} {b k : Nat} {μ : g_M} {z : Int32 × g_M} (h : f_X12_forget μ = some z) : g_K (g_XM D cA b) yX12_forget Y_X12_forget 2 0 0 k [.ref 0] (μ, g_rfM) (fun r1 σ1 => r1 = some (.int z.1) ∧ σ1 = (z.2, g_rfM)) := by
  unfold f_X12_forget at h
  refine g_met 0 (by decide) rfl rfl (Nat.le_of_ble_eq_true rfl) ?_
  refine g_aload_n dX12_forget_0 rfl ?_
  refine g_bipush (v := 6) dX12_forget_1 (by decide) ?_
  refine g_ic0 dX12_forget_3 ?_
  obtain ⟨⟨x1, μ3⟩, q2, h⟩ := g_bind h
  refine m_cV mt_X12_becomes ml_X12_128 mv_X12_becomes dX12_forget_4 (k_X12_becomes q2) rfl rfl rfl rfl (by decide) ⟨Nat.le_refl _, Nat.le_refl _⟩ (Nat.le_of_ble_eq_true rfl) ?_
  obtain rfl := Option.some.inj h
  exact g_iret rfl (Nat.le_refl _) rfl dX12_forget_7 ⟨rfl, rfl⟩
set_option maxRecDepth 100000 in
set_option maxHeartbeats 4000000 in
theorem k_X12_isFit_L6 {D : va_G} {cA : Nat → ClassId} {b k : Nat} {Q : Option Value → g_S → Prop} {N : Nat} : ∀ (n : Nat) (x_1 : Int32) (x_2 : Int32) (x_3 : Int32) (x_4 : Int32) (x_5 : Int32) (μ : g_M) (z_4 : Int32), f_X12_isFit_L6 N n x_1 x_2 x_3 x_4 x_5 μ = some z_4 → g_V (g_XM D cA b) Y_X12_isFit 3 0 0 Q k 0 0 99 [none, none, none, none, some (.int z_4), none, none] [] (μ, g_rfM) → g_V (g_XM D cA b) Y_X12_isFit 3 0 0 Q k 0 0 6 [some (.ref 0), some (.int x_1), some (.int x_2), some (.int x_3), some (.int x_4), some (.int x_5), none] [] (μ, g_rfM) := by
  intro n
  induction n with
  | zero =>
    intro x_1 x_2 x_3 x_4 x_5 μ z_4 h
    rw [f_X12_isFit_L6] at h
    cases h
  | succ n ih =>
    intro x_1 x_2 x_3 x_4 x_5 μ z_4 h hc
    rw [f_X12_isFit_L6] at h
    refine g_iload dX12_isFit_6 rfl ?_
    refine g_aload_n dX12_isFit_8 rfl ?_
    refine m_getR fl_X12_7 rfl rfl rfl dX12_isFit_9 ?_
    refine g_bipush (v := 6) dX12_isFit_12 (by decide) ?_
    refine m_ialdc 6 rfl rfl (by decide) (by decide) dX12_isFit_14 ?_
    refine g_icmp_ge 99 (by decide) dX12_isFit_15 (fun c1 => ?_) (fun c1 => ?_)
    · have h := g_ifp c1 h
      obtain rfl := Option.some.inj h
      exact g_less _ (g_subN (g_subN (g_subN (g_subN (g_subS (g_subN (g_subN g_sub0))))))) hc
    · have h := g_ifn c1 h
      refine g_bipush (v := 70) dX12_isFit_18 (by decide) ?_
      refine g_ic4 dX12_isFit_20 ?_
      refine g_iload dX12_isFit_21 rfl ?_
      refine g_imul dX12_isFit_23 ?_
      refine g_iadd dX12_isFit_24 ?_
      obtain ⟨x2, ex2, h⟩ := g_let h
      refine g_top ex2 ?_
      refine g_istore_6 rfl (Nat.le_of_ble_eq_true rfl) dX12_isFit_25 ?_
      refine g_iload dX12_isFit_27 rfl ?_
      refine g_iload dX12_isFit_29 rfl ?_
      refine g_iload_n dX12_isFit_31 rfl ?_
      refine g_icmp_eq 85 (by decide) dX12_isFit_32 (fun c3 => ?_) (fun c3 => ?_)
      · have h := g_ifp c3 h
        refine g_ic1 dX12_isFit_85 ?_
        refine g_goto 90 (by decide) dX12_isFit_86 ?_
        refine g_iand dX12_isFit_90 ?_
        obtain ⟨x4, ex4, h⟩ := g_let h
        refine g_top ex4 ?_
        refine g_istore_4 rfl (Nat.le_of_ble_eq_true rfl) dX12_isFit_91 ?_
        refine g_iinc_5 (v := 1) rfl (by decide) (Nat.le_of_ble_eq_true rfl) dX12_isFit_93 ?_
        refine g_goto 6 (by decide) dX12_isFit_96 ?_
        exact g_less _ (g_subS (g_subS (g_subS (g_subS (g_subS (g_subS (g_subN g_sub0))))))) (ih _ _ _ _ _ _ _ h hc)
      · have h := g_ifn c3 h
        refine g_aload_n dX12_isFit_35 rfl ?_
        refine m_getR fl_X12_7 rfl rfl rfl dX12_isFit_36 ?_
        refine g_iload dX12_isFit_39 rfl ?_
        obtain ⟨x5, qx5, h⟩ := g_bind h
        refine m_iald rfl qx5 dX12_isFit_41 ?_
        refine g_ic5 dX12_isFit_42 ?_
        refine g_aload_n dX12_isFit_43 rfl ?_
        refine m_getR fl_X12_7 rfl rfl rfl dX12_isFit_44 ?_
        refine g_iload dX12_isFit_47 rfl ?_
        refine g_ic1 dX12_isFit_49 ?_
        refine g_iadd dX12_isFit_50 ?_
        obtain ⟨x6, qx6, h⟩ := g_bind h
        refine m_iald rfl qx6 dX12_isFit_51 ?_
        refine g_iload_n dX12_isFit_52 rfl ?_
        refine g_iload_n dX12_isFit_53 rfl ?_
        refine g_ic0 dX12_isFit_54 ?_
        refine m_cS mt_X12_longsBy ml_X12_81 ms_X12_longsBy dX12_isFit_55 (k_X12_longsBy rfl) rfl rfl (by decide) ⟨Nat.le_refl _, Nat.le_refl _⟩ (Nat.le_of_ble_eq_true rfl) ?_
        refine g_i2l dX12_isFit_58 ?_
        refine g_aload_n dX12_isFit_59 rfl ?_
        refine m_getR fl_X12_7 rfl rfl rfl dX12_isFit_60 ?_
        refine g_iload dX12_isFit_63 rfl ?_
        refine g_ic2 dX12_isFit_65 ?_
        refine g_iadd dX12_isFit_66 ?_
        obtain ⟨x7, qx7, h⟩ := g_bind h
        refine m_iald rfl qx7 dX12_isFit_67 ?_
        refine g_i2l dX12_isFit_68 ?_
        refine g_aload_n dX12_isFit_69 rfl ?_
        refine m_getR fl_X12_7 rfl rfl rfl dX12_isFit_70 ?_
        refine g_iload dX12_isFit_73 rfl ?_
        refine g_ic3 dX12_isFit_75 ?_
        refine g_iadd dX12_isFit_76 ?_
        obtain ⟨x8, qx8, h⟩ := g_bind h
        refine m_iald rfl qx8 dX12_isFit_77 ?_
        refine g_i2l dX12_isFit_78 ?_
        refine m_cS mt_X12_isIn ml_X12_66 ms_X12_isIn dX12_isFit_79 (k_X12_isIn rfl) rfl rfl (by decide) ⟨Nat.le_refl _, Nat.le_refl _⟩ (Nat.le_of_ble_eq_true rfl) ?_
        refine g_if_eq 89 (by decide) dX12_isFit_82 (fun c9 => ?_) (fun c9 => ?_)
        · have h := g_ifp c9 h
          refine g_ic0 dX12_isFit_89 ?_
          refine g_iand dX12_isFit_90 ?_
          obtain ⟨x10, ex10, h⟩ := g_let h
          refine g_top ex10 ?_
          refine g_istore_4 rfl (Nat.le_of_ble_eq_true rfl) dX12_isFit_91 ?_
          refine g_iinc_5 (v := 1) rfl (by decide) (Nat.le_of_ble_eq_true rfl) dX12_isFit_93 ?_
          refine g_goto 6 (by decide) dX12_isFit_96 ?_
          exact g_less _ (g_subS (g_subS (g_subS (g_subS (g_subS (g_subS (g_subN g_sub0))))))) (ih _ _ _ _ _ _ _ h hc)
        · have h := g_ifn c9 h
          refine g_ic1 dX12_isFit_85 ?_
          refine g_goto 90 (by decide) dX12_isFit_86 ?_
          refine g_iand dX12_isFit_90 ?_
          obtain ⟨x11, ex11, h⟩ := g_let h
          refine g_top ex11 ?_
          refine g_istore_4 rfl (Nat.le_of_ble_eq_true rfl) dX12_isFit_91 ?_
          refine g_iinc_5 (v := 1) rfl (by decide) (Nat.le_of_ble_eq_true rfl) dX12_isFit_93 ?_
          refine g_goto 6 (by decide) dX12_isFit_96 ?_
          exact g_less _ (g_subS (g_subS (g_subS (g_subS (g_subS (g_subS (g_subN g_sub0))))))) (ih _ _ _ _ _ _ _ h hc)
set_option maxRecDepth 100000 in
set_option maxHeartbeats 4000000 in
theorem k_X12_isFit {D : va_G} {cA : Nat → ClassId} {b k : Nat} {N : Nat} {a1 : Int32} {a2 : Int32} {a3 : Int32} {μ : g_M} {z : Int32} (h : f_X12_isFit N a1 a2 a3 μ = some z) : g_K (g_XM D cA b) yX12_isFit Y_X12_isFit 3 0 0 k [.ref 0, .int a1, .int a2, .int a3] (μ, g_rfM) (fun r1 σ1 => r1 = some (.int z) ∧ σ1 = (μ, g_rfM)) := by
  unfold f_X12_isFit at h
  refine g_met 3 (by decide) rfl rfl (Nat.le_of_ble_eq_true rfl) ?_
  refine g_ic1 dX12_isFit_0 ?_
  refine g_istore_4 rfl (Nat.le_of_ble_eq_true rfl) dX12_isFit_1 ?_
  refine g_ic0 dX12_isFit_3 ?_
  refine g_istore_5 rfl (Nat.le_of_ble_eq_true rfl) dX12_isFit_4 ?_
  obtain ⟨x1, q2, h⟩ := g_bind h
  refine g_less _ (g_subS (g_subS (g_subS (g_subS (g_subS (g_subS (g_subN g_sub0))))))) (k_X12_isFit_L6 _ _ _ _ _ _ _ _ q2 ?_)
  refine g_iload dX12_isFit_99 rfl ?_
  obtain ⟨x3, qx3, h⟩ := g_bind h
  obtain ⟨rfl, nx3⟩ := g_zc_n qx3
  obtain rfl := Option.some.inj h
  exact g_zret rfl (Nat.le_refl _) rfl nx3 dX12_isFit_101 ⟨rfl, rfl⟩
set_option maxRecDepth 100000 in
set_option maxHeartbeats 4000000 in
theorem k_X12_findsFits_L13 {D : va_G} {cA : Nat → ClassId} {b k : Nat} {Q : Option Value → g_S → Prop} {N : Nat} : ∀ (n : Nat) (x_1 : Int32) (x_2 : Int32) (μ : g_M) (z_μ : g_M), f_X12_findsFits_L13 N n x_1 x_2 μ = some z_μ → g_V (g_XM D cA b) Y_X12_findsFits 4 0 0 Q k 0 0 71 [none, none, none] [] (z_μ, g_rfM) → g_V (g_XM D cA b) Y_X12_findsFits 4 0 0 Q k 0 0 13 [some (.ref 0), some (.int x_1), some (.int x_2)] [] (μ, g_rfM) := by
  intro n
  induction n with
  | zero =>
    intro x_1 x_2 μ z_μ h
    rw [f_X12_findsFits_L13] at h
    cases h
  | succ n ih =>
    intro x_1 x_2 μ z_μ h hc
    rw [f_X12_findsFits_L13] at h
    refine g_iload_n dX12_findsFits_13 rfl ?_
    refine g_sipush (v := 160) dX12_findsFits_14 (by decide) ?_
    refine g_icmp_ge 71 (by decide) dX12_findsFits_17 (fun c3 => ?_) (fun c3 => ?_)
    · have h := g_ifp c3 h
      obtain rfl := Option.some.inj h
      exact g_less _ (g_subN (g_subN (g_subN g_sub0))) hc
    · have h := g_ifn c3 h
      refine g_aload_n dX12_findsFits_20 rfl ?_
      refine g_iload_n dX12_findsFits_21 rfl ?_
      refine g_bipush (v := 10) dX12_findsFits_22 (by decide) ?_
      refine g_idiv dX12_findsFits_24 (by decide) ?_
      refine g_iload_n dX12_findsFits_25 rfl ?_
      refine g_bipush (v := 10) dX12_findsFits_26 (by decide) ?_
      refine g_irem dX12_findsFits_28 (by decide) ?_
      refine g_iload_n dX12_findsFits_29 rfl ?_
      obtain ⟨x4, q5, h⟩ := g_bind h
      refine m_cV mt_X12_isFit ml_X12_321 mv_X12_isFit dX12_findsFits_30 (k_X12_isFit q5) rfl rfl rfl rfl (by decide) ⟨Nat.le_refl _, Nat.le_refl _⟩ (Nat.le_of_ble_eq_true rfl) ?_
      refine g_if_eq 65 (by decide) dX12_findsFits_33 (fun c6 => ?_) (fun c6 => ?_)
      · have h := g_ifp c6 h
        refine g_iinc_2 (v := 1) rfl (by decide) (Nat.le_of_ble_eq_true rfl) dX12_findsFits_65 ?_
        refine g_goto 13 (by decide) dX12_findsFits_68 ?_
        exact g_less _ (g_subS (g_subS (g_subS g_sub0))) (ih _ _ _ _ h hc)
      · have h := g_ifn c6 h
        refine g_aload_n dX12_findsFits_36 rfl ?_
        refine g_aload_n dX12_findsFits_37 rfl ?_
        refine m_getI fl_X12_315 rfl rfl dX12_findsFits_38 ?_
        refine g_if_ne 48 (by decide) dX12_findsFits_41 (fun c7 => ?_) (fun c7 => ?_)
        · have h := g_ifn c7 h
          refine g_aload_n dX12_findsFits_48 rfl ?_
          refine m_getI fl_X12_318 rfl rfl dX12_findsFits_49 ?_
          obtain ⟨μ8, eμ8, h⟩ := g_let h
          refine m_putI fl_X12_318 fw_12_30 rfl rfl rfl rfl dX12_findsFits_52 eμ8 ?_
          refine g_aload_n dX12_findsFits_55 rfl ?_
          refine g_dup dX12_findsFits_56 rfl ?_
          refine m_getI fl_X12_315 rfl rfl dX12_findsFits_57 ?_
          refine g_ic1 dX12_findsFits_60 ?_
          refine g_iadd dX12_findsFits_61 ?_
          obtain ⟨μ9, eμ9, h⟩ := g_let h
          refine m_putI fl_X12_315 fw_12_29 rfl rfl rfl rfl dX12_findsFits_62 eμ9 ?_
          refine g_iinc_2 (v := 1) rfl (by decide) (Nat.le_of_ble_eq_true rfl) dX12_findsFits_65 ?_
          refine g_goto 13 (by decide) dX12_findsFits_68 ?_
          exact g_less _ (g_subS (g_subS (g_subS g_sub0))) (ih _ _ _ _ h hc)
        · have h := g_ifp c7 h
          refine g_iload_n dX12_findsFits_44 rfl ?_
          refine g_goto 52 (by decide) dX12_findsFits_45 ?_
          obtain ⟨μ10, eμ10, h⟩ := g_let h
          refine m_putI fl_X12_318 fw_12_30 rfl rfl rfl rfl dX12_findsFits_52 eμ10 ?_
          refine g_aload_n dX12_findsFits_55 rfl ?_
          refine g_dup dX12_findsFits_56 rfl ?_
          refine m_getI fl_X12_315 rfl rfl dX12_findsFits_57 ?_
          refine g_ic1 dX12_findsFits_60 ?_
          refine g_iadd dX12_findsFits_61 ?_
          obtain ⟨μ11, eμ11, h⟩ := g_let h
          refine m_putI fl_X12_315 fw_12_29 rfl rfl rfl rfl dX12_findsFits_62 eμ11 ?_
          refine g_iinc_2 (v := 1) rfl (by decide) (Nat.le_of_ble_eq_true rfl) dX12_findsFits_65 ?_
          refine g_goto 13 (by decide) dX12_findsFits_68 ?_
          exact g_less _ (g_subS (g_subS (g_subS g_sub0))) (ih _ _ _ _ h hc)
set_option maxRecDepth 100000 in
set_option maxHeartbeats 4000000 in
theorem k_X12_findsFits {D : va_G} {cA : Nat → ClassId} {b k : Nat} {N : Nat} {a1 : Int32} {μ : g_M} {z : g_M} (h : f_X12_findsFits N a1 μ = some z) : g_K (g_XM D cA b) yX12_findsFits Y_X12_findsFits 4 0 0 k [.ref 0, .int a1] (μ, g_rfM) (fun r1 σ1 => r1 = none ∧ σ1 = (z, g_rfM)) := by
  unfold f_X12_findsFits at h
  refine g_met 1 (by decide) rfl rfl (Nat.le_of_ble_eq_true rfl) ?_
  refine g_aload_n dX12_findsFits_0 rfl ?_
  refine g_ic0 dX12_findsFits_1 ?_
  obtain ⟨μ1, eμ1, h⟩ := g_let h
  refine m_putI fl_X12_315 fw_12_29 rfl rfl rfl rfl dX12_findsFits_2 eμ1 ?_
  refine g_aload_n dX12_findsFits_5 rfl ?_
  refine g_bipush (v := (-3)) dX12_findsFits_6 (by decide) ?_
  obtain ⟨μ2, eμ2, h⟩ := g_let h
  refine m_putI fl_X12_318 fw_12_30 rfl rfl rfl rfl dX12_findsFits_8 eμ2 ?_
  refine g_ic0 dX12_findsFits_11 ?_
  refine g_istore_2 rfl (Nat.le_of_ble_eq_true rfl) dX12_findsFits_12 ?_
  obtain ⟨μ3, q4, h⟩ := g_bind h
  refine g_less _ (g_subS (g_subS (g_subS g_sub0))) (k_X12_findsFits_L13 _ _ _ _ _ q4 ?_)
  obtain rfl := Option.some.inj h
  exact g_vret rfl (Nat.le_refl _) rfl dX12_findsFits_71 ⟨rfl, rfl⟩
