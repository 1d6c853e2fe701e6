set_option maxRecDepth 100000 in
set_option maxHeartbeats 4000000 in
theorem k_X12_doHere {D : va_G} {cA : Nat → ClassId} {b k : Nat} {μ : g_M} {z : Int32} (h : f_X12_doHere μ = some z) : g_K (g_XM D cA b) yX12_doHere Y_X12_doHere 3 0 0 k [.ref 0] (μ, g_rfM) (fun r1 σ1 => r1 = some (.int z) ∧ σ1 = (μ, g_rfM)) := by
  unfold f_X12_doHere at h
  refine g_met 0 (by decide) rfl rfl (Nat.le_of_ble_eq_true rfl) ?_
  refine g_aload_n dX12_doHere_0 rfl ?_
  refine m_getI fl_X12_163 rfl rfl dX12_doHere_1 ?_
  refine g_ic1 dX12_doHere_4 ?_
  refine g_icmp_ne 51 (by decide) dX12_doHere_5 (fun c1 => ?_) (fun c1 => ?_)
  · have h := g_ifn c1 h
    refine g_aload_n dX12_doHere_51 rfl ?_
    refine g_ic4 dX12_doHere_52 ?_
    refine g_bipush (v := 115) dX12_doHere_53 (by decide) ?_
    refine g_bipush (v := 116) dX12_doHere_55 (by decide) ?_
    refine g_bipush (v := 97) dX12_doHere_57 (by decide) ?_
    refine g_bipush (v := 121) dX12_doHere_59 (by decide) ?_
    obtain ⟨x2, q3, h⟩ := g_bind h
    refine m_cV mt_X12_isName ml_X12_176 mv_X12_isName dX12_doHere_61 (k_X12_isName q3) rfl rfl rfl rfl (by decide) ⟨Nat.le_refl _, Nat.le_refl _⟩ (Nat.le_of_ble_eq_true rfl) ?_
    refine g_if_eq 69 (by decide) dX12_doHere_64 (fun c4 => ?_) (fun c4 => ?_)
    · have h := g_ifp c4 h
      refine g_aload_n dX12_doHere_69 rfl ?_
      refine g_ic3 dX12_doHere_70 ?_
      refine g_bipush (v := 115) dX12_doHere_71 (by decide) ?_
      refine g_bipush (v := 104) dX12_doHere_73 (by decide) ?_
      refine g_bipush (v := 121) dX12_doHere_75 (by decide) ?_
      refine g_bipush (v := 121) dX12_doHere_77 (by decide) ?_
      obtain ⟨x5, q6, h⟩ := g_bind h
      refine m_cV mt_X12_isName ml_X12_176 mv_X12_isName dX12_doHere_79 (k_X12_isName q6) rfl rfl rfl rfl (by decide) ⟨Nat.le_refl _, Nat.le_refl _⟩ (Nat.le_of_ble_eq_true rfl) ?_
      refine g_if_eq 89 (by decide) dX12_doHere_82 (fun c7 => ?_) (fun c7 => ?_)
      · have h := g_ifp c7 h
        refine g_icm1 dX12_doHere_89 ?_
        obtain rfl := Option.some.inj h
        exact g_iret rfl (Nat.le_refl _) rfl dX12_doHere_90 ⟨rfl, rfl⟩
      · have h := g_ifn c7 h
        refine g_ic2 dX12_doHere_85 ?_
        refine g_goto 90 (by decide) dX12_doHere_86 ?_
        obtain rfl := Option.some.inj h
        exact g_iret rfl (Nat.le_refl _) rfl dX12_doHere_90 ⟨rfl, rfl⟩
    · have h := g_ifn c4 h
      refine g_ic1 dX12_doHere_67 ?_
      obtain rfl := Option.some.inj h
      exact g_iret rfl (Nat.le_refl _) rfl dX12_doHere_68 ⟨rfl, rfl⟩
  · have h := g_ifp c1 h
    refine g_aload_n dX12_doHere_8 rfl ?_
    refine m_getI fl_X12_148 rfl rfl dX12_doHere_9 ?_
    refine g_aload_n dX12_doHere_12 rfl ?_
    refine m_getI fl_X12_151 rfl rfl dX12_doHere_13 ?_
    refine g_isub dX12_doHere_16 ?_
    refine g_ic2 dX12_doHere_17 ?_
    refine g_icmp_ne 51 (by decide) dX12_doHere_18 (fun c8 => ?_) (fun c8 => ?_)
    · have h := g_ifn c8 h
      refine g_aload_n dX12_doHere_51 rfl ?_
      refine g_ic4 dX12_doHere_52 ?_
      refine g_bipush (v := 115) dX12_doHere_53 (by decide) ?_
      refine g_bipush (v := 116) dX12_doHere_55 (by decide) ?_
      refine g_bipush (v := 97) dX12_doHere_57 (by decide) ?_
      refine g_bipush (v := 121) dX12_doHere_59 (by decide) ?_
      obtain ⟨x9, q10, h⟩ := g_bind h
      refine m_cV mt_X12_isName ml_X12_176 mv_X12_isName dX12_doHere_61 (k_X12_isName q10) rfl rfl rfl rfl (by decide) ⟨Nat.le_refl _, Nat.le_refl _⟩ (Nat.le_of_ble_eq_true rfl) ?_
      refine g_if_eq 69 (by decide) dX12_doHere_64 (fun c11 => ?_) (fun c11 => ?_)
      · have h := g_ifp c11 h
        refine g_aload_n dX12_doHere_69 rfl ?_
        refine g_ic3 dX12_doHere_70 ?_
        refine g_bipush (v := 115) dX12_doHere_71 (by decide) ?_
        refine g_bipush (v := 104) dX12_doHere_73 (by decide) ?_
        refine g_bipush (v := 121) dX12_doHere_75 (by decide) ?_
        refine g_bipush (v := 121) dX12_doHere_77 (by decide) ?_
        obtain ⟨x12, q13, h⟩ := g_bind h
        refine m_cV mt_X12_isName ml_X12_176 mv_X12_isName dX12_doHere_79 (k_X12_isName q13) rfl rfl rfl rfl (by decide) ⟨Nat.le_refl _, Nat.le_refl _⟩ (Nat.le_of_ble_eq_true rfl) ?_
        refine g_if_eq 89 (by decide) dX12_doHere_82 (fun c14 => ?_) (fun c14 => ?_)
        · have h := g_ifp c14 h
          refine g_icm1 dX12_doHere_89 ?_
          obtain rfl := Option.some.inj h
          exact g_iret rfl (Nat.le_refl _) rfl dX12_doHere_90 ⟨rfl, rfl⟩
        · have h := g_ifn c14 h
          refine g_ic2 dX12_doHere_85 ?_
          refine g_goto 90 (by decide) dX12_doHere_86 ?_
          obtain rfl := Option.some.inj h
          exact g_iret rfl (Nat.le_refl _) rfl dX12_doHere_90 ⟨rfl, rfl⟩
      · have h := g_ifn c11 h
        refine g_ic1 dX12_doHere_67 ?_
        obtain rfl := Option.some.inj h
        exact g_iret rfl (Nat.le_refl _) rfl dX12_doHere_68 ⟨rfl, rfl⟩
    · have h := g_ifp c8 h
      refine g_aload_n dX12_doHere_21 rfl ?_
      refine g_aload_n dX12_doHere_22 rfl ?_
      refine m_getI fl_X12_151 rfl rfl dX12_doHere_23 ?_
      obtain ⟨x15, q16, h⟩ := g_bind h
      refine m_cV mt_X12_byteAt ml_X12_154 mv_X12_byteAt dX12_doHere_26 (k_X12_byteAt q16) rfl rfl rfl rfl (by decide) ⟨Nat.le_refl _, Nat.le_refl _⟩ (Nat.le_of_ble_eq_true rfl) ?_
      refine g_bipush (v := 103) dX12_doHere_29 (by decide) ?_
      refine g_icmp_ne 51 (by decide) dX12_doHere_31 (fun c17 => ?_) (fun c17 => ?_)
      · have h := g_ifn c17 h
        refine g_aload_n dX12_doHere_51 rfl ?_
        refine g_ic4 dX12_doHere_52 ?_
        refine g_bipush (v := 115) dX12_doHere_53 (by decide) ?_
        refine g_bipush (v := 116) dX12_doHere_55 (by decide) ?_
        refine g_bipush (v := 97) dX12_doHere_57 (by decide) ?_
        refine g_bipush (v := 121) dX12_doHere_59 (by decide) ?_
        obtain ⟨x18, q19, h⟩ := g_bind h
        refine m_cV mt_X12_isName ml_X12_176 mv_X12_isName dX12_doHere_61 (k_X12_isName q19) rfl rfl rfl rfl (by decide) ⟨Nat.le_refl _, Nat.le_refl _⟩ (Nat.le_of_ble_eq_true rfl) ?_
        refine g_if_eq 69 (by decide) dX12_doHere_64 (fun c20 => ?_) (fun c20 => ?_)
        · have h := g_ifp c20 h
          refine g_aload_n dX12_doHere_69 rfl ?_
          refine g_ic3 dX12_doHere_70 ?_
          refine g_bipush (v := 115) dX12_doHere_71 (by decide) ?_
          refine g_bipush (v := 104) dX12_doHere_73 (by decide) ?_
          refine g_bipush (v := 121) dX12_doHere_75 (by decide) ?_
          refine g_bipush (v := 121) dX12_doHere_77 (by decide) ?_
          obtain ⟨x21, q22, h⟩ := g_bind h
          refine m_cV mt_X12_isName ml_X12_176 mv_X12_isName dX12_doHere_79 (k_X12_isName q22) rfl rfl rfl rfl (by decide) ⟨Nat.le_refl _, Nat.le_refl _⟩ (Nat.le_of_ble_eq_true rfl) ?_
          refine g_if_eq 89 (by decide) dX12_doHere_82 (fun c23 => ?_) (fun c23 => ?_)
          · have h := g_ifp c23 h
            refine g_icm1 dX12_doHere_89 ?_
            obtain rfl := Option.some.inj h
            exact g_iret rfl (Nat.le_refl _) rfl dX12_doHere_90 ⟨rfl, rfl⟩
          · have h := g_ifn c23 h
            refine g_ic2 dX12_doHere_85 ?_
            refine g_goto 90 (by decide) dX12_doHere_86 ?_
            obtain rfl := Option.some.inj h
            exact g_iret rfl (Nat.le_refl _) rfl dX12_doHere_90 ⟨rfl, rfl⟩
        · have h := g_ifn c20 h
          refine g_ic1 dX12_doHere_67 ?_
          obtain rfl := Option.some.inj h
          exact g_iret rfl (Nat.le_refl _) rfl dX12_doHere_68 ⟨rfl, rfl⟩
      · have h := g_ifp c17 h
        refine g_aload_n dX12_doHere_34 rfl ?_
        refine g_aload_n dX12_doHere_35 rfl ?_
        refine m_getI fl_X12_151 rfl rfl dX12_doHere_36 ?_
        refine g_ic1 dX12_doHere_39 ?_
        refine g_iadd dX12_doHere_40 ?_
        obtain ⟨x24, q25, h⟩ := g_bind h
        refine m_cV mt_X12_byteAt ml_X12_154 mv_X12_byteAt dX12_doHere_41 (k_X12_byteAt q25) rfl rfl rfl rfl (by decide) ⟨Nat.le_refl _, Nat.le_refl _⟩ (Nat.le_of_ble_eq_true rfl) ?_
        refine g_bipush (v := 111) dX12_doHere_44 (by decide) ?_
        refine g_icmp_ne 51 (by decide) dX12_doHere_46 (fun c26 => ?_) (fun c26 => ?_)
        · have h := g_ifn c26 h
          refine g_aload_n dX12_doHere_51 rfl ?_
          refine g_ic4 dX12_doHere_52 ?_
          refine g_bipush (v := 115) dX12_doHere_53 (by decide) ?_
          refine g_bipush (v := 116) dX12_doHere_55 (by decide) ?_
          refine g_bipush (v := 97) dX12_doHere_57 (by decide) ?_
          refine g_bipush (v := 121) dX12_doHere_59 (by decide) ?_
          obtain ⟨x27, q28, h⟩ := g_bind h
          refine m_cV mt_X12_isName ml_X12_176 mv_X12_isName dX12_doHere_61 (k_X12_isName q28) rfl rfl rfl rfl (by decide) ⟨Nat.le_refl _, Nat.le_refl _⟩ (Nat.le_of_ble_eq_true rfl) ?_
          refine g_if_eq 69 (by decide) dX12_doHere_64 (fun c29 => ?_) (fun c29 => ?_)
          · have h := g_ifp c29 h
            refine g_aload_n dX12_doHere_69 rfl ?_
            refine g_ic3 dX12_doHere_70 ?_
            refine g_bipush (v := 115) dX12_doHere_71 (by decide) ?_
            refine g_bipush (v := 104) dX12_doHere_73 (by decide) ?_
            refine g_bipush (v := 121) dX12_doHere_75 (by decide) ?_
            refine g_bipush (v := 121) dX12_doHere_77 (by decide) ?_
            obtain ⟨x30, q31, h⟩ := g_bind h
            refine m_cV mt_X12_isName ml_X12_176 mv_X12_isName dX12_doHere_79 (k_X12_isName q31) rfl rfl rfl rfl (by decide) ⟨Nat.le_refl _, Nat.le_refl _⟩ (Nat.le_of_ble_eq_true rfl) ?_
            refine g_if_eq 89 (by decide) dX12_doHere_82 (fun c32 => ?_) (fun c32 => ?_)
            · have h := g_ifp c32 h
              refine g_icm1 dX12_doHere_89 ?_
              obtain rfl := Option.some.inj h
              exact g_iret rfl (Nat.le_refl _) rfl dX12_doHere_90 ⟨rfl, rfl⟩
            · have h := g_ifn c32 h
              refine g_ic2 dX12_doHere_85 ?_
              refine g_goto 90 (by decide) dX12_doHere_86 ?_
              obtain rfl := Option.some.inj h
              exact g_iret rfl (Nat.le_refl _) rfl dX12_doHere_90 ⟨rfl, rfl⟩
          · have h := g_ifn c29 h
            refine g_ic1 dX12_doHere_67 ?_
            obtain rfl := Option.some.inj h
            exact g_iret rfl (Nat.le_refl _) rfl dX12_doHere_68 ⟨rfl, rfl⟩
        · have h := g_ifp c26 h
          refine g_ic0 dX12_doHere_49 ?_
          obtain rfl := Option.some.inj h
          exact g_iret rfl (Nat.le_refl _) rfl dX12_doHere_50 ⟨rfl, rfl⟩
set_option maxRecDepth 100000 in
set_option maxHeartbeats 4000000 in
theorem k_X12_factHere {D : va_G} {cA : Nat → ClassId} {b k : Nat} {μ : g_M} {z : Int32} (h : f_X12_factHere μ = some z) : g_K (g_XM D cA b) yX12_factHere Y_X12_factHere 3 0 0 k [.ref 0] (μ, g_rfM) (fun r1 σ1 => r1 = some (.int z) ∧ σ1 = (μ, g_rfM)) := by
  unfold f_X12_factHere at h
  refine g_met 0 (by decide) rfl rfl (Nat.le_of_ble_eq_true rfl) ?_
  refine g_aload_n dX12_factHere_0 rfl ?_
  refine g_ic5 dX12_factHere_1 ?_
  refine g_bipush (v := 110) dX12_factHere_2 (by decide) ?_
  refine g_bipush (v := 105) dX12_factHere_4 (by decide) ?_
  refine g_bipush (v := 103) dX12_factHere_6 (by decide) ?_
  refine g_bipush (v := 116) dX12_factHere_8 (by decide) ?_
  obtain ⟨x1, q2, h⟩ := g_bind h
  refine m_cV mt_X12_isName ml_X12_176 mv_X12_isName dX12_factHere_10 (k_X12_isName q2) rfl rfl rfl rfl (by decide) ⟨Nat.le_refl _, Nat.le_refl _⟩ (Nat.le_of_ble_eq_true rfl) ?_
  refine g_if_eq 33 (by decide) dX12_factHere_13 (fun c3 => ?_) (fun c3 => ?_)
  · have h := g_ifp c3 h
    refine g_aload_n dX12_factHere_33 rfl ?_
    refine g_ic4 dX12_factHere_34 ?_
    refine g_bipush (v := 119) dX12_factHere_35 (by decide) ?_
    refine g_bipush (v := 97) dX12_factHere_37 (by decide) ?_
    refine g_bipush (v := 114) dX12_factHere_39 (by decide) ?_
    refine g_bipush (v := 109) dX12_factHere_41 (by decide) ?_
    obtain ⟨x4, q5, h⟩ := g_bind h
    refine m_cV mt_X12_isName ml_X12_176 mv_X12_isName dX12_factHere_43 (k_X12_isName q5) rfl rfl rfl rfl (by decide) ⟨Nat.le_refl _, Nat.le_refl _⟩ (Nat.le_of_ble_eq_true rfl) ?_
    refine g_if_eq 51 (by decide) dX12_factHere_46 (fun c6 => ?_) (fun c6 => ?_)
    · have h := g_ifp c6 h
      refine g_aload_n dX12_factHere_51 rfl ?_
      refine g_ic5 dX12_factHere_52 ?_
      refine g_bipush (v := 112) dX12_factHere_53 (by decide) ?_
      refine g_bipush (v := 108) dX12_factHere_55 (by decide) ?_
      refine g_bipush (v := 97) dX12_factHere_57 (by decide) ?_
      refine g_bipush (v := 101) dX12_factHere_59 (by decide) ?_
      obtain ⟨x7, q8, h⟩ := g_bind h
      refine m_cV mt_X12_isName ml_X12_176 mv_X12_isName dX12_factHere_61 (k_X12_isName q8) rfl rfl rfl rfl (by decide) ⟨Nat.le_refl _, Nat.le_refl _⟩ (Nat.le_of_ble_eq_true rfl) ?_
      refine g_if_eq 84 (by decide) dX12_factHere_64 (fun c9 => ?_) (fun c9 => ?_)
      · have h := g_ifp c9 h
        refine g_aload_n dX12_factHere_84 rfl ?_
        refine g_ic4 dX12_factHere_85 ?_
        refine g_bipush (v := 102) dX12_factHere_86 (by decide) ?_
        refine g_bipush (v := 105) dX12_factHere_88 (by decide) ?_
        refine g_bipush (v := 114) dX12_factHere_90 (by decide) ?_
        refine g_bipush (v := 101) dX12_factHere_92 (by decide) ?_
        obtain ⟨x10, q11, h⟩ := g_bind h
        refine m_cV mt_X12_isName ml_X12_176 mv_X12_isName dX12_factHere_94 (k_X12_isName q11) rfl rfl rfl rfl (by decide) ⟨Nat.le_refl _, Nat.le_refl _⟩ (Nat.le_of_ble_eq_true rfl) ?_
        refine g_if_eq 102 (by decide) dX12_factHere_97 (fun c12 => ?_) (fun c12 => ?_)
        · have h := g_ifp c12 h
          refine g_aload_n dX12_factHere_102 rfl ?_
          refine g_bipush (v := 6) dX12_factHere_103 (by decide) ?_
          refine g_bipush (v := 110) dX12_factHere_105 (by decide) ?_
          refine g_bipush (v := 117) dX12_factHere_107 (by decide) ?_
          refine g_bipush (v := 109) dX12_factHere_109 (by decide) ?_
          refine g_bipush (v := 114) dX12_factHere_111 (by decide) ?_
          obtain ⟨x13, q14, h⟩ := g_bind h
          refine m_cV mt_X12_isName ml_X12_176 mv_X12_isName dX12_factHere_113 (k_X12_isName q14) rfl rfl rfl rfl (by decide) ⟨Nat.le_refl _, Nat.le_refl _⟩ (Nat.le_of_ble_eq_true rfl) ?_
          refine g_if_eq 137 (by decide) dX12_factHere_116 (fun c15 => ?_) (fun c15 => ?_)
          · have h := g_ifp c15 h
            refine g_icm1 dX12_factHere_137 ?_
            obtain rfl := Option.some.inj h
            exact g_iret rfl (Nat.le_refl _) rfl dX12_factHere_138 ⟨rfl, rfl⟩
          · have h := g_ifn c15 h
            refine g_aload_n dX12_factHere_119 rfl ?_
            refine g_ic2 dX12_factHere_120 ?_
            refine g_bipush (v := 109) dX12_factHere_121 (by decide) ?_
            refine g_bipush (v := 98) dX12_factHere_123 (by decide) ?_
            refine g_bipush (v := 101) dX12_factHere_125 (by decide) ?_
            obtain ⟨x16, q17, h⟩ := g_bind h
            refine m_cV mt_X12_isSame ml_X12_180 mv_X12_isSame dX12_factHere_127 (k_X12_isSame q17) rfl rfl rfl rfl (by decide) ⟨Nat.le_refl _, Nat.le_refl _⟩ (Nat.le_of_ble_eq_true rfl) ?_
            refine g_if_eq 137 (by decide) dX12_factHere_130 (fun c18 => ?_) (fun c18 => ?_)
            · have h := g_ifp c18 h
              refine g_icm1 dX12_factHere_137 ?_
              obtain rfl := Option.some.inj h
              exact g_iret rfl (Nat.le_refl _) rfl dX12_factHere_138 ⟨rfl, rfl⟩
            · have h := g_ifn c18 h
              refine g_ic4 dX12_factHere_133 ?_
              refine g_goto 138 (by decide) dX12_factHere_134 ?_
              obtain rfl := Option.some.inj h
              exact g_iret rfl (Nat.le_refl _) rfl dX12_factHere_138 ⟨rfl, rfl⟩
        · have h := g_ifn c12 h
          refine g_ic3 dX12_factHere_100 ?_
          obtain rfl := Option.some.inj h
          exact g_iret rfl (Nat.le_refl _) rfl dX12_factHere_101 ⟨rfl, rfl⟩
      · have h := g_ifn c9 h
        refine g_aload_n dX12_factHere_67 rfl ?_
        refine g_aload_n dX12_factHere_68 rfl ?_
        refine m_getI fl_X12_151 rfl rfl dX12_factHere_69 ?_
        refine g_ic3 dX12_factHere_72 ?_
        refine g_iadd dX12_factHere_73 ?_
        obtain ⟨x19, q20, h⟩ := g_bind h
        refine m_cV mt_X12_byteAt ml_X12_154 mv_X12_byteAt dX12_factHere_74 (k_X12_byteAt q20) rfl rfl rfl rfl (by decide) ⟨Nat.le_refl _, Nat.le_refl _⟩ (Nat.le_of_ble_eq_true rfl) ?_
        refine g_bipush (v := 99) dX12_factHere_77 (by decide) ?_
        refine g_icmp_ne 84 (by decide) dX12_factHere_79 (fun c21 => ?_) (fun c21 => ?_)
        · have h := g_ifn c21 h
          refine g_aload_n dX12_factHere_84 rfl ?_
          refine g_ic4 dX12_factHere_85 ?_
          refine g_bipush (v := 102) dX12_factHere_86 (by decide) ?_
          refine g_bipush (v := 105) dX12_factHere_88 (by decide) ?_
          refine g_bipush (v := 114) dX12_factHere_90 (by decide) ?_
          refine g_bipush (v := 101) dX12_factHere_92 (by decide) ?_
          obtain ⟨x22, q23, h⟩ := g_bind h
          refine m_cV mt_X12_isName ml_X12_176 mv_X12_isName dX12_factHere_94 (k_X12_isName q23) rfl rfl rfl rfl (by decide) ⟨Nat.le_refl _, Nat.le_refl _⟩ (Nat.le_of_ble_eq_true rfl) ?_
          refine g_if_eq 102 (by decide) dX12_factHere_97 (fun c24 => ?_) (fun c24 => ?_)
          · have h := g_ifp c24 h
            refine g_aload_n dX12_factHere_102 rfl ?_
            refine g_bipush (v := 6) dX12_factHere_103 (by decide) ?_
            refine g_bipush (v := 110) dX12_factHere_105 (by decide) ?_
            refine g_bipush (v := 117) dX12_factHere_107 (by decide) ?_
            refine g_bipush (v := 109) dX12_factHere_109 (by decide) ?_
            refine g_bipush (v := 114) dX12_factHere_111 (by decide) ?_
            obtain ⟨x25, q26, h⟩ := g_bind h
            refine m_cV mt_X12_isName ml_X12_176 mv_X12_isName dX12_factHere_113 (k_X12_isName q26) rfl rfl rfl rfl (by decide) ⟨Nat.le_refl _, Nat.le_refl _⟩ (Nat.le_of_ble_eq_true rfl) ?_
            refine g_if_eq 137 (by decide) dX12_factHere_116 (fun c27 => ?_) (fun c27 => ?_)
            · have h := g_ifp c27 h
              refine g_icm1 dX12_factHere_137 ?_
              obtain rfl := Option.some.inj h
              exact g_iret rfl (Nat.le_refl _) rfl dX12_factHere_138 ⟨rfl, rfl⟩
            · have h := g_ifn c27 h
              refine g_aload_n dX12_factHere_119 rfl ?_
              refine g_ic2 dX12_factHere_120 ?_
              refine g_bipush (v := 109) dX12_factHere_121 (by decide) ?_
              refine g_bipush (v := 98) dX12_factHere_123 (by decide) ?_
              refine g_bipush (v := 101) dX12_factHere_125 (by decide) ?_
              obtain ⟨x28, q29, h⟩ := g_bind h
              refine m_cV mt_X12_isSame ml_X12_180 mv_X12_isSame dX12_factHere_127 (k_X12_isSame q29) rfl rfl rfl rfl (by decide) ⟨Nat.le_refl _, Nat.le_refl _⟩ (Nat.le_of_ble_eq_true rfl) ?_
              refine g_if_eq 137 (by decide) dX12_factHere_130 (fun c30 => ?_) (fun c30 => ?_)
              · have h := g_ifp c30 h
                refine g_icm1 dX12_factHere_137 ?_
                obtain rfl := Option.some.inj h
                exact g_iret rfl (Nat.le_refl _) rfl dX12_factHere_138 ⟨rfl, rfl⟩
              · have h := g_ifn c30 h
                refine g_ic4 dX12_factHere_133 ?_
                refine g_goto 138 (by decide) dX12_factHere_134 ?_
                obtain rfl := Option.some.inj h
                exact g_iret rfl (Nat.le_refl _) rfl dX12_factHere_138 ⟨rfl, rfl⟩
          · have h := g_ifn c24 h
            refine g_ic3 dX12_factHere_100 ?_
            obtain rfl := Option.some.inj h
            exact g_iret rfl (Nat.le_refl _) rfl dX12_factHere_101 ⟨rfl, rfl⟩
        · have h := g_ifp c21 h
          refine g_ic2 dX12_factHere_82 ?_
          obtain rfl := Option.some.inj h
          exact g_iret rfl (Nat.le_refl _) rfl dX12_factHere_83 ⟨rfl, rfl⟩
    · have h := g_ifn c6 h
      refine g_ic1 dX12_factHere_49 ?_
      obtain rfl := Option.some.inj h
      exact g_iret rfl (Nat.le_refl _) rfl dX12_factHere_50 ⟨rfl, rfl⟩
  · have h := g_ifn c3 h
    refine g_aload_n dX12_factHere_16 rfl ?_
    refine g_aload_n dX12_factHere_17 rfl ?_
    refine m_getI fl_X12_151 rfl rfl dX12_factHere_18 ?_
    refine g_ic3 dX12_factHere_21 ?_
    refine g_iadd dX12_factHere_22 ?_
    obtain ⟨x31, q32, h⟩ := g_bind h
    refine m_cV mt_X12_byteAt ml_X12_154 mv_X12_byteAt dX12_factHere_23 (k_X12_byteAt q32) rfl rfl rfl rfl (by decide) ⟨Nat.le_refl _, Nat.le_refl _⟩ (Nat.le_of_ble_eq_true rfl) ?_
    refine g_bipush (v := 104) dX12_factHere_26 (by decide) ?_
    refine g_icmp_ne 33 (by decide) dX12_factHere_28 (fun c33 => ?_) (fun c33 => ?_)
    · have h := g_ifn c33 h
      refine g_aload_n dX12_factHere_33 rfl ?_
      refine g_ic4 dX12_factHere_34 ?_
      refine g_bipush (v := 119) dX12_factHere_35 (by decide) ?_
      refine g_bipush (v := 97) dX12_factHere_37 (by decide) ?_
      refine g_bipush (v := 114) dX12_factHere_39 (by decide) ?_
      refine g_bipush (v := 109) dX12_factHere_41 (by decide) ?_
      obtain ⟨x34, q35, h⟩ := g_bind h
      refine m_cV mt_X12_isName ml_X12_176 mv_X12_isName dX12_factHere_43 (k_X12_isName q35) rfl rfl rfl rfl (by decide) ⟨Nat.le_refl _, Nat.le_refl _⟩ (Nat.le_of_ble_eq_true rfl) ?_
      refine g_if_eq 51 (by decide) dX12_factHere_46 (fun c36 => ?_) (fun c36 => ?_)
      · have h := g_ifp c36 h
        refine g_aload_n dX12_factHere_51 rfl ?_
        refine g_ic5 dX12_factHere_52 ?_
        refine g_bipush (v := 112) dX12_factHere_53 (by decide) ?_
        refine g_bipush (v := 108) dX12_factHere_55 (by decide) ?_
        refine g_bipush (v := 97) dX12_factHere_57 (by decide) ?_
        refine g_bipush (v := 101) dX12_factHere_59 (by decide) ?_
        obtain ⟨x37, q38, h⟩ := g_bind h
        refine m_cV mt_X12_isName ml_X12_176 mv_X12_isName dX12_factHere_61 (k_X12_isName q38) rfl rfl rfl rfl (by decide) ⟨Nat.le_refl _, Nat.le_refl _⟩ (Nat.le_of_ble_eq_true rfl) ?_
        refine g_if_eq 84 (by decide) dX12_factHere_64 (fun c39 => ?_) (fun c39 => ?_)
        · have h := g_ifp c39 h
          refine g_aload_n dX12_factHere_84 rfl ?_
          refine g_ic4 dX12_factHere_85 ?_
          refine g_bipush (v := 102) dX12_factHere_86 (by decide) ?_
          refine g_bipush (v := 105) dX12_factHere_88 (by decide) ?_
          refine g_bipush (v := 114) dX12_factHere_90 (by decide) ?_
          refine g_bipush (v := 101) dX12_factHere_92 (by decide) ?_
          obtain ⟨x40, q41, h⟩ := g_bind h
          refine m_cV mt_X12_isName ml_X12_176 mv_X12_isName dX12_factHere_94 (k_X12_isName q41) rfl rfl rfl rfl (by decide) ⟨Nat.le_refl _, Nat.le_refl _⟩ (Nat.le_of_ble_eq_true rfl) ?_
          refine g_if_eq 102 (by decide) dX12_factHere_97 (fun c42 => ?_) (fun c42 => ?_)
          · have h := g_ifp c42 h
            refine g_aload_n dX12_factHere_102 rfl ?_
            refine g_bipush (v := 6) dX12_factHere_103 (by decide) ?_
            refine g_bipush (v := 110) dX12_factHere_105 (by decide) ?_
            refine g_bipush (v := 117) dX12_factHere_107 (by decide) ?_
            refine g_bipush (v := 109) dX12_factHere_109 (by decide) ?_
            refine g_bipush (v := 114) dX12_factHere_111 (by decide) ?_
            obtain ⟨x43, q44, h⟩ := g_bind h
            refine m_cV mt_X12_isName ml_X12_176 mv_X12_isName dX12_factHere_113 (k_X12_isName q44) rfl rfl rfl rfl (by decide) ⟨Nat.le_refl _, Nat.le_refl _⟩ (Nat.le_of_ble_eq_true rfl) ?_
            refine g_if_eq 137 (by decide) dX12_factHere_116 (fun c45 => ?_) (fun c45 => ?_)
            · have h := g_ifp c45 h
              refine g_icm1 dX12_factHere_137 ?_
              obtain rfl := Option.some.inj h
              exact g_iret rfl (Nat.le_refl _) rfl dX12_factHere_138 ⟨rfl, rfl⟩
            · have h := g_ifn c45 h
              refine g_aload_n dX12_factHere_119 rfl ?_
              refine g_ic2 dX12_factHere_120 ?_
              refine g_bipush (v := 109) dX12_factHere_121 (by decide) ?_
              refine g_bipush (v := 98) dX12_factHere_123 (by decide) ?_
              refine g_bipush (v := 101) dX12_factHere_125 (by decide) ?_
              obtain ⟨x46, q47, h⟩ := g_bind h
              refine m_cV mt_X12_isSame ml_X12_180 mv_X12_isSame dX12_factHere_127 (k_X12_isSame q47) rfl rfl rfl rfl (by decide) ⟨Nat.le_refl _, Nat.le_refl _⟩ (Nat.le_of_ble_eq_true rfl) ?_
              refine g_if_eq 137 (by decide) dX12_factHere_130 (fun c48 => ?_) (fun c48 => ?_)
              · have h := g_ifp c48 h
                refine g_icm1 dX12_factHere_137 ?_
                obtain rfl := Option.some.inj h
                exact g_iret rfl (Nat.le_refl _) rfl dX12_factHere_138 ⟨rfl, rfl⟩
              · have h := g_ifn c48 h
                refine g_ic4 dX12_factHere_133 ?_
                refine g_goto 138 (by decide) dX12_factHere_134 ?_
                obtain rfl := Option.some.inj h
                exact g_iret rfl (Nat.le_refl _) rfl dX12_factHere_138 ⟨rfl, rfl⟩
          · have h := g_ifn c42 h
            refine g_ic3 dX12_factHere_100 ?_
            obtain rfl := Option.some.inj h
            exact g_iret rfl (Nat.le_refl _) rfl dX12_factHere_101 ⟨rfl, rfl⟩
        · have h := g_ifn c39 h
          refine g_aload_n dX12_factHere_67 rfl ?_
          refine g_aload_n dX12_factHere_68 rfl ?_
          refine m_getI fl_X12_151 rfl rfl dX12_factHere_69 ?_
          refine g_ic3 dX12_factHere_72 ?_
          refine g_iadd dX12_factHere_73 ?_
          obtain ⟨x49, q50, h⟩ := g_bind h
          refine m_cV mt_X12_byteAt ml_X12_154 mv_X12_byteAt dX12_factHere_74 (k_X12_byteAt q50) rfl rfl rfl rfl (by decide) ⟨Nat.le_refl _, Nat.le_refl _⟩ (Nat.le_of_ble_eq_true rfl) ?_
          refine g_bipush (v := 99) dX12_factHere_77 (by decide) ?_
          refine g_icmp_ne 84 (by decide) dX12_factHere_79 (fun c51 => ?_) (fun c51 => ?_)
          · have h := g_ifn c51 h
            refine g_aload_n dX12_factHere_84 rfl ?_
            refine g_ic4 dX12_factHere_85 ?_
            refine g_bipush (v := 102) dX12_factHere_86 (by decide) ?_
            refine g_bipush (v := 105) dX12_factHere_88 (by decide) ?_
            refine g_bipush (v := 114) dX12_factHere_90 (by decide) ?_
            refine g_bipush (v := 101) dX12_factHere_92 (by decide) ?_
            obtain ⟨x52, q53, h⟩ := g_bind h
            refine m_cV mt_X12_isName ml_X12_176 mv_X12_isName dX12_factHere_94 (k_X12_isName q53) rfl rfl rfl rfl (by decide) ⟨Nat.le_refl _, Nat.le_refl _⟩ (Nat.le_of_ble_eq_true rfl) ?_
            refine g_if_eq 102 (by decide) dX12_factHere_97 (fun c54 => ?_) (fun c54 => ?_)
            · have h := g_ifp c54 h
              refine g_aload_n dX12_factHere_102 rfl ?_
              refine g_bipush (v := 6) dX12_factHere_103 (by decide) ?_
              refine g_bipush (v := 110) dX12_factHere_105 (by decide) ?_
              refine g_bipush (v := 117) dX12_factHere_107 (by decide) ?_
              refine g_bipush (v := 109) dX12_factHere_109 (by decide) ?_
              refine g_bipush (v := 114) dX12_factHere_111 (by decide) ?_
              obtain ⟨x55, q56, h⟩ := g_bind h
              refine m_cV mt_X12_isName ml_X12_176 mv_X12_isName dX12_factHere_113 (k_X12_isName q56) rfl rfl rfl rfl (by decide) ⟨Nat.le_refl _, Nat.le_refl _⟩ (Nat.le_of_ble_eq_true rfl) ?_
              refine g_if_eq 137 (by decide) dX12_factHere_116 (fun c57 => ?_) (fun c57 => ?_)
              · have h := g_ifp c57 h
                refine g_icm1 dX12_factHere_137 ?_
                obtain rfl := Option.some.inj h
                exact g_iret rfl (Nat.le_refl _) rfl dX12_factHere_138 ⟨rfl, rfl⟩
              · have h := g_ifn c57 h
                refine g_aload_n dX12_factHere_119 rfl ?_
                refine g_ic2 dX12_factHere_120 ?_
                refine g_bipush (v := 109) dX12_factHere_121 (by decide) ?_
                refine g_bipush (v := 98) dX12_factHere_123 (by decide) ?_
                refine g_bipush (v := 101) dX12_factHere_125 (by decide) ?_
                obtain ⟨x58, q59, h⟩ := g_bind h
                refine m_cV mt_X12_isSame ml_X12_180 mv_X12_isSame dX12_factHere_127 (k_X12_isSame q59) rfl rfl rfl rfl (by decide) ⟨Nat.le_refl _, Nat.le_refl _⟩ (Nat.le_of_ble_eq_true rfl) ?_
                refine g_if_eq 137 (by decide) dX12_factHere_130 (fun c60 => ?_) (fun c60 => ?_)
                · have h := g_ifp c60 h
                  refine g_icm1 dX12_factHere_137 ?_
                  obtain rfl := Option.some.inj h
                  exact g_iret rfl (Nat.le_refl _) rfl dX12_factHere_138 ⟨rfl, rfl⟩
                · have h := g_ifn c60 h
                  refine g_ic4 dX12_factHere_133 ?_
                  refine g_goto 138 (by decide) dX12_factHere_134 ?_
                  obtain rfl := Option.some.inj h
                  exact g_iret rfl (Nat.le_refl _) rfl dX12_factHere_138 ⟨rfl, rfl⟩
            · have h := g_ifn c54 h
              refine g_ic3 dX12_factHere_100 ?_
              obtain rfl := Option.some.inj h
              exact g_iret rfl (Nat.le_refl _) rfl dX12_factHere_101 ⟨rfl, rfl⟩
          · have h := g_ifp c51 h
            refine g_ic2 dX12_factHere_82 ?_
            obtain rfl := Option.some.inj h
            exact g_iret rfl (Nat.le_refl _) rfl dX12_factHere_83 ⟨rfl, rfl⟩
      · have h := g_ifn c36 h
        refine g_ic1 dX12_factHere_49 ?_
        obtain rfl := Option.some.inj h
        exact g_iret rfl (Nat.le_refl _) rfl dX12_factHere_50 ⟨rfl, rfl⟩
    · have h := g_ifp c33 h
      refine g_ic0 dX12_factHere_31 ?_
      obtain rfl := Option.some.inj h
      exact g_iret rfl (Nat.le_refl _) rfl dX12_factHere_32 ⟨rfl, rfl⟩
set_option maxRecDepth 100000 in
set_option maxHeartbeats 4000000 in
theorem k_X12_isTwo {D : va_G} {cA : Nat → ClassId} {b k : Nat} {a1 : Int32} {a2 : Int32} {μ : g_M} {z : Int32} (h : f_X12_isTwo a1 a2 μ = some z) : g_K (g_XM D cA b) yX12_isTwo Y_X12_isTwo 2 0 0 k [.ref 0, .int a1, .int a2] (μ, g_rfM) (fun r1 σ1 => r1 = some (.int z) ∧ σ1 = (μ, g_rfM)) := by
  unfold f_X12_isTwo at h
  refine g_met 0 (by decide) rfl rfl (Nat.le_of_ble_eq_true rfl) ?_
  refine g_aload_n dX12_isTwo_0 rfl ?_
  refine m_getI fl_X12_163 rfl rfl dX12_isTwo_1 ?_
  refine g_ic1 dX12_isTwo_4 ?_
  refine g_icmp_ne 51 (by decide) dX12_isTwo_5 (fun c1 => ?_) (fun c1 => ?_)
  · have h := g_ifn c1 h
    refine g_ic0 dX12_isTwo_51 ?_
    obtain rfl := Option.some.inj h
    exact g_zret rfl (Nat.le_refl _) rfl rfl dX12_isTwo_52 ⟨rfl, rfl⟩
  · have h := g_ifp c1 h
    refine g_aload_n dX12_isTwo_8 rfl ?_
    refine m_getI fl_X12_148 rfl rfl dX12_isTwo_9 ?_
    refine g_aload_n dX12_isTwo_12 rfl ?_
    refine m_getI fl_X12_151 rfl rfl dX12_isTwo_13 ?_
    refine g_isub dX12_isTwo_16 ?_
    refine g_ic2 dX12_isTwo_17 ?_
    refine g_icmp_ne 51 (by decide) dX12_isTwo_18 (fun c2 => ?_) (fun c2 => ?_)
    · have h := g_ifn c2 h
      refine g_ic0 dX12_isTwo_51 ?_
      obtain rfl := Option.some.inj h
      exact g_zret rfl (Nat.le_refl _) rfl rfl dX12_isTwo_52 ⟨rfl, rfl⟩
    · have h := g_ifp c2 h
      refine g_aload_n dX12_isTwo_21 rfl ?_
      refine g_aload_n dX12_isTwo_22 rfl ?_
      refine m_getI fl_X12_151 rfl rfl dX12_isTwo_23 ?_
      obtain ⟨x3, q4, h⟩ := g_bind h
      refine m_cV mt_X12_byteAt ml_X12_154 mv_X12_byteAt dX12_isTwo_26 (k_X12_byteAt q4) rfl rfl rfl rfl (by decide) ⟨Nat.le_refl _, Nat.le_refl _⟩ (Nat.le_of_ble_eq_true rfl) ?_
      refine g_iload_n dX12_isTwo_29 rfl ?_
      refine g_icmp_ne 51 (by decide) dX12_isTwo_30 (fun c5 => ?_) (fun c5 => ?_)
      · have h := g_ifn c5 h
        refine g_ic0 dX12_isTwo_51 ?_
        obtain rfl := Option.some.inj h
        exact g_zret rfl (Nat.le_refl _) rfl rfl dX12_isTwo_52 ⟨rfl, rfl⟩
      · have h := g_ifp c5 h
        refine g_aload_n dX12_isTwo_33 rfl ?_
        refine g_aload_n dX12_isTwo_34 rfl ?_
        refine m_getI fl_X12_151 rfl rfl dX12_isTwo_35 ?_
        refine g_ic1 dX12_isTwo_38 ?_
        refine g_iadd dX12_isTwo_39 ?_
        obtain ⟨x6, q7, h⟩ := g_bind h
        refine m_cV mt_X12_byteAt ml_X12_154 mv_X12_byteAt dX12_isTwo_40 (k_X12_byteAt q7) rfl rfl rfl rfl (by decide) ⟨Nat.le_refl _, Nat.le_refl _⟩ (Nat.le_of_ble_eq_true rfl) ?_
        refine g_iload_n dX12_isTwo_43 rfl ?_
        refine g_icmp_ne 51 (by decide) dX12_isTwo_44 (fun c8 => ?_) (fun c8 => ?_)
        · have h := g_ifn c8 h
          refine g_ic0 dX12_isTwo_51 ?_
          obtain rfl := Option.some.inj h
          exact g_zret rfl (Nat.le_refl _) rfl rfl dX12_isTwo_52 ⟨rfl, rfl⟩
        · have h := g_ifp c8 h
          refine g_ic1 dX12_isTwo_47 ?_
          refine g_goto 52 (by decide) dX12_isTwo_48 ?_
          obtain rfl := Option.some.inj h
          exact g_zret rfl (Nat.le_refl _) rfl rfl dX12_isTwo_52 ⟨rfl, rfl⟩
set_option maxRecDepth 100000 in
set_option maxHeartbeats 4000000 in
theorem k_X12_steps {D : va_G} {cA : Nat → ClassId} {b k : Nat} {a1 : Int32} {a2 : Int32} {a3 : Int32} {μ : g_M} {z : g_M} (h : f_X12_steps a1 a2 a3 μ = some z) : g_K (g_XM D cA b) yX12_steps Y_X12_steps 1 0 0 k [.ref 0, .int a1, .int a2, .int a3] (μ, g_rfM) (fun r1 σ1 => r1 = none ∧ σ1 = (z, g_rfM)) := by
  unfold f_X12_steps at h
  refine g_met 0 (by decide) rfl rfl (Nat.le_of_ble_eq_true rfl) ?_
  refine g_aload_n dX12_steps_0 rfl ?_
  refine m_getI fl_X12_169 rfl rfl dX12_steps_1 ?_
  refine g_if_ne 76 (by decide) dX12_steps_4 (fun c1 => ?_) (fun c1 => ?_)
  · have h := g_ifn c1 h
    obtain rfl := Option.some.inj h
    exact g_vret rfl (Nat.le_refl _) rfl dX12_steps_76 ⟨rfl, rfl⟩
  · have h := g_ifp c1 h
    refine g_aload_n dX12_steps_7 rfl ?_
    refine m_getR fl_X12_7 rfl rfl rfl dX12_steps_8 ?_
    refine g_bipush (v := 94) dX12_steps_11 (by decide) ?_
    refine g_ic3 dX12_steps_13 ?_
    refine g_aload_n dX12_steps_14 rfl ?_
    refine m_getR fl_X12_7 rfl rfl rfl dX12_steps_15 ?_
    refine g_bipush (v := 7) dX12_steps_18 (by decide) ?_
    refine m_ialdc 7 rfl rfl (by decide) (by decide) dX12_steps_20 ?_
    refine g_imul dX12_steps_21 ?_
    refine g_iadd dX12_steps_22 ?_
    refine g_iload_n dX12_steps_23 rfl ?_
    obtain ⟨μ2, qμ2, h⟩ := g_bind h
    refine m_iast rfl qμ2 dX12_steps_24 ?_
    refine g_aload_n dX12_steps_25 rfl ?_
    refine m_getR fl_X12_7 rfl rfl rfl dX12_steps_26 ?_
    refine g_bipush (v := 94) dX12_steps_29 (by decide) ?_
    refine g_ic3 dX12_steps_31 ?_
    refine g_aload_n dX12_steps_32 rfl ?_
    refine m_getR fl_X12_7 rfl rfl rfl dX12_steps_33 ?_
    refine g_bipush (v := 7) dX12_steps_36 (by decide) ?_
    refine m_ialdc 7 rfl rfl (by decide) (by decide) dX12_steps_38 ?_
    refine g_imul dX12_steps_39 ?_
    refine g_iadd dX12_steps_40 ?_
    refine g_ic1 dX12_steps_41 ?_
    refine g_iadd dX12_steps_42 ?_
    refine g_iload_n dX12_steps_43 rfl ?_
    obtain ⟨μ3, qμ3, h⟩ := g_bind h
    refine m_iast rfl qμ3 dX12_steps_44 ?_
    refine g_aload_n dX12_steps_45 rfl ?_
    refine m_getR fl_X12_7 rfl rfl rfl dX12_steps_46 ?_
    refine g_bipush (v := 94) dX12_steps_49 (by decide) ?_
    refine g_ic3 dX12_steps_51 ?_
    refine g_aload_n dX12_steps_52 rfl ?_
    refine m_getR fl_X12_7 rfl rfl rfl dX12_steps_53 ?_
    refine g_bipush (v := 7) dX12_steps_56 (by decide) ?_
    refine m_ialdc 7 rfl rfl (by decide) (by decide) dX12_steps_58 ?_
    refine g_imul dX12_steps_59 ?_
    refine g_iadd dX12_steps_60 ?_
    refine g_ic2 dX12_steps_61 ?_
    refine g_iadd dX12_steps_62 ?_
    refine g_iload_n dX12_steps_63 rfl ?_
    obtain ⟨μ4, qμ4, h⟩ := g_bind h
    refine m_iast rfl qμ4 dX12_steps_64 ?_
    refine g_aload_n dX12_steps_65 rfl ?_
    refine m_getR fl_X12_7 rfl rfl rfl dX12_steps_66 ?_
    refine g_bipush (v := 7) dX12_steps_69 (by decide) ?_
    refine g_dup2 dX12_steps_71 rfl rfl ?_
    refine m_ialdc 7 rfl rfl (by decide) (by decide) dX12_steps_72 ?_
    refine g_ic1 dX12_steps_73 ?_
    refine g_iadd dX12_steps_74 ?_
    obtain ⟨μ5, eμ5, h⟩ := g_let h
    refine m_iastc 7 rfl rfl (by decide) (by decide) dX12_steps_75 eμ5 ?_
    obtain rfl := Option.some.inj h
    exact g_vret rfl (Nat.le_refl _) rfl dX12_steps_76 ⟨rfl, rfl⟩
set_option maxRecDepth 100000 in
set_option maxHeartbeats 4000000 in
theorem k_X12_valueHere {D : va_G} {cA : Nat → ClassId} {b k : Nat} {N : Nat} {μ : g_M} {z : Int32 × g_M} (h : f_X12_valueHere N μ = some z) : g_K (g_XM D cA b) yX12_valueHere Y_X12_valueHere 4 0 0 k [.ref 0] (μ, g_rfM) (fun r1 σ1 => r1 = some (.int z.1) ∧ σ1 = (z.2, g_rfM)) := by
  unfold f_X12_valueHere at h
  refine g_met 2 (by decide) rfl rfl (Nat.le_of_ble_eq_true rfl) ?_
  refine g_aload_n dX12_valueHere_0 rfl ?_
  obtain ⟨x1, q2, h⟩ := g_bind h
  refine m_cV mt_X12_factHere ml_X12_184 mv_X12_factHere dX12_valueHere_1 (k_X12_factHere q2) rfl rfl rfl rfl (by decide) ⟨Nat.le_refl _, Nat.le_refl _⟩ (Nat.le_of_ble_eq_true rfl) ?_
  refine g_istore_1 rfl (Nat.le_of_ble_eq_true rfl) dX12_valueHere_4 ?_
  refine g_iload_n dX12_valueHere_5 rfl ?_
  refine g_if_lt 17 (by decide) dX12_valueHere_6 (fun c3 => ?_) (fun c3 => ?_)
  · have h := g_ifp c3 h
    refine g_aload_n dX12_valueHere_17 rfl ?_
    refine m_getI fl_X12_166 rfl rfl dX12_valueHere_18 ?_
    refine g_istore_2 rfl (Nat.le_of_ble_eq_true rfl) dX12_valueHere_21 ?_
    refine g_aload_n dX12_valueHere_22 rfl ?_
    refine g_iload_n dX12_valueHere_23 rfl ?_
    refine g_if_ge 48 (by decide) dX12_valueHere_24 (fun c4 => ?_) (fun c4 => ?_)
    · have h := g_ifp c4 h
      refine g_ic1 dX12_valueHere_48 ?_
      refine g_goto 53 (by decide) dX12_valueHere_49 ?_
      obtain ⟨μ7, q6, h⟩ := g_bind h
      refine m_cVv mt_X12_needs ml_X12_187 mv_X12_needs dX12_valueHere_53 (k_X12_needs q6) rfl rfl rfl rfl (by decide) ⟨Nat.le_refl _, Nat.le_refl _⟩ (Nat.le_of_ble_eq_true rfl) ?_
      refine g_iload_n dX12_valueHere_56 rfl ?_
      obtain rfl := Option.some.inj h
      exact g_iret rfl (Nat.le_refl _) rfl dX12_valueHere_57 ⟨rfl, rfl⟩
    · have h := g_ifn c4 h
      refine g_aload_n dX12_valueHere_27 rfl ?_
      refine m_getI fl_X12_163 rfl rfl dX12_valueHere_28 ?_
      refine g_ic2 dX12_valueHere_31 ?_
      refine g_icmp_ne 52 (by decide) dX12_valueHere_32 (fun c8 => ?_) (fun c8 => ?_)
      · have h := g_ifn c8 h
        refine g_ic0 dX12_valueHere_52 ?_
        obtain ⟨μ11, q10, h⟩ := g_bind h
        refine m_cVv mt_X12_needs ml_X12_187 mv_X12_needs dX12_valueHere_53 (k_X12_needs q10) rfl rfl rfl rfl (by decide) ⟨Nat.le_refl _, Nat.le_refl _⟩ (Nat.le_of_ble_eq_true rfl) ?_
        refine g_iload_n dX12_valueHere_56 rfl ?_
        obtain rfl := Option.some.inj h
        exact g_iret rfl (Nat.le_refl _) rfl dX12_valueHere_57 ⟨rfl, rfl⟩
      · have h := g_ifp c8 h
        refine g_aload_n dX12_valueHere_35 rfl ?_
        refine m_getI fl_X12_148 rfl rfl dX12_valueHere_36 ?_
        refine g_aload_n dX12_valueHere_39 rfl ?_
        refine m_getI fl_X12_151 rfl rfl dX12_valueHere_40 ?_
        refine g_isub dX12_valueHere_43 ?_
        refine g_ic4 dX12_valueHere_44 ?_
        refine g_icmp_gt 52 (by decide) dX12_valueHere_45 (fun c12 => ?_) (fun c12 => ?_)
        · have h := g_ifp c12 h
          refine g_ic0 dX12_valueHere_52 ?_
          obtain ⟨μ15, q14, h⟩ := g_bind h
          refine m_cVv mt_X12_needs ml_X12_187 mv_X12_needs dX12_valueHere_53 (k_X12_needs q14) rfl rfl rfl rfl (by decide) ⟨Nat.le_refl _, Nat.le_refl _⟩ (Nat.le_of_ble_eq_true rfl) ?_
          refine g_iload_n dX12_valueHere_56 rfl ?_
          obtain rfl := Option.some.inj h
          exact g_iret rfl (Nat.le_refl _) rfl dX12_valueHere_57 ⟨rfl, rfl⟩
        · have h := g_ifn c12 h
          refine g_ic1 dX12_valueHere_48 ?_
          refine g_goto 53 (by decide) dX12_valueHere_49 ?_
          obtain ⟨μ18, q17, h⟩ := g_bind h
          refine m_cVv mt_X12_needs ml_X12_187 mv_X12_needs dX12_valueHere_53 (k_X12_needs q17) rfl rfl rfl rfl (by decide) ⟨Nat.le_refl _, Nat.le_refl _⟩ (Nat.le_of_ble_eq_true rfl) ?_
          refine g_iload_n dX12_valueHere_56 rfl ?_
          obtain rfl := Option.some.inj h
          exact g_iret rfl (Nat.le_refl _) rfl dX12_valueHere_57 ⟨rfl, rfl⟩
  · have h := g_ifn c3 h
    refine g_sipush (v := 10000) dX12_valueHere_9 (by decide) ?_
    refine g_iload_n dX12_valueHere_12 rfl ?_
    refine g_iadd dX12_valueHere_13 ?_
    refine g_goto 21 (by decide) dX12_valueHere_14 ?_
    obtain ⟨x19, ex19, h⟩ := g_let h
    refine g_top ex19 ?_
    refine g_istore_2 rfl (Nat.le_of_ble_eq_true rfl) dX12_valueHere_21 ?_
    refine g_aload_n dX12_valueHere_22 rfl ?_
    refine g_iload_n dX12_valueHere_23 rfl ?_
    refine g_if_ge 48 (by decide) dX12_valueHere_24 (fun c20 => ?_) (fun c20 => ?_)
    · have h := g_ifp c20 h
      refine g_ic1 dX12_valueHere_48 ?_
      refine g_goto 53 (by decide) dX12_valueHere_49 ?_
      obtain ⟨μ23, q22, h⟩ := g_bind h
      refine m_cVv mt_X12_needs ml_X12_187 mv_X12_needs dX12_valueHere_53 (k_X12_needs q22) rfl rfl rfl rfl (by decide) ⟨Nat.le_refl _, Nat.le_refl _⟩ (Nat.le_of_ble_eq_true rfl) ?_
      refine g_iload_n dX12_valueHere_56 rfl ?_
      obtain rfl := Option.some.inj h
      exact g_iret rfl (Nat.le_refl _) rfl dX12_valueHere_57 ⟨rfl, rfl⟩
    · have h := g_ifn c20 h
      refine g_aload_n dX12_valueHere_27 rfl ?_
      refine m_getI fl_X12_163 rfl rfl dX12_valueHere_28 ?_
      refine g_ic2 dX12_valueHere_31 ?_
      refine g_icmp_ne 52 (by decide) dX12_valueHere_32 (fun c24 => ?_) (fun c24 => ?_)
      · have h := g_ifn c24 h
        refine g_ic0 dX12_valueHere_52 ?_
        obtain ⟨μ27, q26, h⟩ := g_bind h
        refine m_cVv mt_X12_needs ml_X12_187 mv_X12_needs dX12_valueHere_53 (k_X12_needs q26) rfl rfl rfl rfl (by decide) ⟨Nat.le_refl _, Nat.le_refl _⟩ (Nat.le_of_ble_eq_true rfl) ?_
        refine g_iload_n dX12_valueHere_56 rfl ?_
        obtain rfl := Option.some.inj h
        exact g_iret rfl (Nat.le_refl _) rfl dX12_valueHere_57 ⟨rfl, rfl⟩
      · have h := g_ifp c24 h
        refine g_aload_n dX12_valueHere_35 rfl ?_
        refine m_getI fl_X12_148 rfl rfl dX12_valueHere_36 ?_
        refine g_aload_n dX12_valueHere_39 rfl ?_
        refine m_getI fl_X12_151 rfl rfl dX12_valueHere_40 ?_
        refine g_isub dX12_valueHere_43 ?_
        refine g_ic4 dX12_valueHere_44 ?_
        refine g_icmp_gt 52 (by decide) dX12_valueHere_45 (fun c28 => ?_) (fun c28 => ?_)
        · have h := g_ifp c28 h
          refine g_ic0 dX12_valueHere_52 ?_
          obtain ⟨μ31, q30, h⟩ := g_bind h
          refine m_cVv mt_X12_needs ml_X12_187 mv_X12_needs dX12_valueHere_53 (k_X12_needs q30) rfl rfl rfl rfl (by decide) ⟨Nat.le_refl _, Nat.le_refl _⟩ (Nat.le_of_ble_eq_true rfl) ?_
          refine g_iload_n dX12_valueHere_56 rfl ?_
          obtain rfl := Option.some.inj h
          exact g_iret rfl (Nat.le_refl _) rfl dX12_valueHere_57 ⟨rfl, rfl⟩
        · have h := g_ifn c28 h
          refine g_ic1 dX12_valueHere_48 ?_
          refine g_goto 53 (by decide) dX12_valueHere_49 ?_
          obtain ⟨μ34, q33, h⟩ := g_bind h
          refine m_cVv mt_X12_needs ml_X12_187 mv_X12_needs dX12_valueHere_53 (k_X12_needs q33) rfl rfl rfl rfl (by decide) ⟨Nat.le_refl _, Nat.le_refl _⟩ (Nat.le_of_ble_eq_true rfl) ?_
          refine g_iload_n dX12_valueHere_56 rfl ?_
          obtain rfl := Option.some.inj h
          exact g_iret rfl (Nat.le_refl _) rfl dX12_valueHere_57 ⟨rfl, rfl⟩
set_option maxRecDepth 100000 in
set_option maxHeartbeats 4000000 in
theorem k_X12_comparesHere {D : va_G} {cA : Nat → ClassId} {b k : Nat} {N : Nat} {μ : g_M} {z : g_M} (h : f_X12_comparesHere N μ = some z) : g_K (g_XM D cA b) yX12_comparesHere Y_X12_comparesHere 5 0 0 k [.ref 0] (μ, g_rfM) (fun r1 σ1 => r1 = none ∧ σ1 = (z, g_rfM)) := by
  unfold f_X12_comparesHere at h
  refine g_met 3 (by decide) rfl rfl (Nat.le_of_ble_eq_true rfl) ?_
  refine g_aload_n dX12_comparesHere_0 rfl ?_
  obtain ⟨⟨x1, μ3⟩, q2, h⟩ := g_bind h
  refine m_cV mt_X12_valueHere ml_X12_191 mv_X12_valueHere dX12_comparesHere_1 (k_X12_valueHere q2) rfl rfl rfl rfl (by decide) ⟨Nat.le_refl _, Nat.le_refl _⟩ (Nat.le_of_ble_eq_true rfl) ?_
  refine g_istore_1 rfl (Nat.le_of_ble_eq_true rfl) dX12_comparesHere_4 ?_
  refine g_aload_n dX12_comparesHere_5 rfl ?_
  refine g_bipush (v := 60) dX12_comparesHere_6 (by decide) ?_
  obtain ⟨x4, q5, h⟩ := g_bind h
  refine m_cV mt_X12_isByte ml_X12_194 mv_X12_isByte dX12_comparesHere_8 (k_X12_isByte q5) rfl rfl rfl rfl (by decide) ⟨Nat.le_refl _, Nat.le_refl _⟩ (Nat.le_of_ble_eq_true rfl) ?_
  refine g_if_eq 18 (by decide) dX12_comparesHere_11 (fun c6 => ?_) (fun c6 => ?_)
  · have h := g_ifp c6 h
    refine g_aload_n dX12_comparesHere_18 rfl ?_
    refine g_bipush (v := 61) dX12_comparesHere_19 (by decide) ?_
    obtain ⟨x7, q8, h⟩ := g_bind h
    refine m_cV mt_X12_isByte ml_X12_194 mv_X12_isByte dX12_comparesHere_21 (k_X12_isByte q8) rfl rfl rfl rfl (by decide) ⟨Nat.le_refl _, Nat.le_refl _⟩ (Nat.le_of_ble_eq_true rfl) ?_
    refine g_if_eq 31 (by decide) dX12_comparesHere_24 (fun c9 => ?_) (fun c9 => ?_)
    · have h := g_ifp c9 h
      refine g_ic2 dX12_comparesHere_31 ?_
      refine g_istore_2 rfl (Nat.le_of_ble_eq_true rfl) dX12_comparesHere_32 ?_
      refine g_aload_n dX12_comparesHere_33 rfl ?_
      refine g_aload_n dX12_comparesHere_34 rfl ?_
      refine g_bipush (v := 60) dX12_comparesHere_35 (by decide) ?_
      obtain ⟨x10, q11, h⟩ := g_bind h
      refine m_cV mt_X12_isByte ml_X12_194 mv_X12_isByte dX12_comparesHere_37 (k_X12_isByte q11) rfl rfl rfl rfl (by decide) ⟨Nat.le_refl _, Nat.le_refl _⟩ (Nat.le_of_ble_eq_true rfl) ?_
      refine g_if_ne 61 (by decide) dX12_comparesHere_40 (fun c12 => ?_) (fun c12 => ?_)
      · have h := g_ifn c12 h
        refine g_ic1 dX12_comparesHere_61 ?_
        refine g_goto 66 (by decide) dX12_comparesHere_62 ?_
        obtain ⟨μ15, q14, h⟩ := g_bind h
        refine m_cVv mt_X12_needs ml_X12_187 mv_X12_needs dX12_comparesHere_66 (k_X12_needs q14) rfl rfl rfl rfl (by decide) ⟨Nat.le_refl _, Nat.le_refl _⟩ (Nat.le_of_ble_eq_true rfl) ?_
        refine g_aload_n dX12_comparesHere_69 rfl ?_
        obtain ⟨⟨x16, μ18⟩, q17, h⟩ := g_bind h
        refine m_cV mt_X12_valueHere ml_X12_191 mv_X12_valueHere dX12_comparesHere_70 (k_X12_valueHere q17) rfl rfl rfl rfl (by decide) ⟨Nat.le_refl _, Nat.le_refl _⟩ (Nat.le_of_ble_eq_true rfl) ?_
        refine g_istore_3 rfl (Nat.le_of_ble_eq_true rfl) dX12_comparesHere_73 ?_
        refine g_aload_n dX12_comparesHere_74 rfl ?_
        refine g_iload_n dX12_comparesHere_75 rfl ?_
        refine g_iload_n dX12_comparesHere_76 rfl ?_
        refine g_iload_n dX12_comparesHere_77 rfl ?_
        obtain ⟨μ21, q20, h⟩ := g_bind h
        refine m_cVv mt_X12_steps ml_X12_197 mv_X12_steps dX12_comparesHere_78 (k_X12_steps q20) rfl rfl rfl rfl (by decide) ⟨Nat.le_refl _, Nat.le_refl _⟩ (Nat.le_of_ble_eq_true rfl) ?_
        obtain rfl := Option.some.inj h
        exact g_vret rfl (Nat.le_refl _) rfl dX12_comparesHere_81 ⟨rfl, rfl⟩
      · have h := g_ifp c12 h
        refine g_aload_n dX12_comparesHere_43 rfl ?_
        refine g_bipush (v := 61) dX12_comparesHere_44 (by decide) ?_
        obtain ⟨x22, q23, h⟩ := g_bind h
        refine m_cV mt_X12_isByte ml_X12_194 mv_X12_isByte dX12_comparesHere_46 (k_X12_isByte q23) rfl rfl rfl rfl (by decide) ⟨Nat.le_refl _, Nat.le_refl _⟩ (Nat.le_of_ble_eq_true rfl) ?_
        refine g_if_ne 61 (by decide) dX12_comparesHere_49 (fun c24 => ?_) (fun c24 => ?_)
        · have h := g_ifn c24 h
          refine g_ic1 dX12_comparesHere_61 ?_
          refine g_goto 66 (by decide) dX12_comparesHere_62 ?_
          obtain ⟨μ27, q26, h⟩ := g_bind h
          refine m_cVv mt_X12_needs ml_X12_187 mv_X12_needs dX12_comparesHere_66 (k_X12_needs q26) rfl rfl rfl rfl (by decide) ⟨Nat.le_refl _, Nat.le_refl _⟩ (Nat.le_of_ble_eq_true rfl) ?_
          refine g_aload_n dX12_comparesHere_69 rfl ?_
          obtain ⟨⟨x28, μ30⟩, q29, h⟩ := g_bind h
          refine m_cV mt_X12_valueHere ml_X12_191 mv_X12_valueHere dX12_comparesHere_70 (k_X12_valueHere q29) rfl rfl rfl rfl (by decide) ⟨Nat.le_refl _, Nat.le_refl _⟩ (Nat.le_of_ble_eq_true rfl) ?_
          refine g_istore_3 rfl (Nat.le_of_ble_eq_true rfl) dX12_comparesHere_73 ?_
          refine g_aload_n dX12_comparesHere_74 rfl ?_
          refine g_iload_n dX12_comparesHere_75 rfl ?_
          refine g_iload_n dX12_comparesHere_76 rfl ?_
          refine g_iload_n dX12_comparesHere_77 rfl ?_
          obtain ⟨μ33, q32, h⟩ := g_bind h
          refine m_cVv mt_X12_steps ml_X12_197 mv_X12_steps dX12_comparesHere_78 (k_X12_steps q32) rfl rfl rfl rfl (by decide) ⟨Nat.le_refl _, Nat.le_refl _⟩ (Nat.le_of_ble_eq_true rfl) ?_
          obtain rfl := Option.some.inj h
          exact g_vret rfl (Nat.le_refl _) rfl dX12_comparesHere_81 ⟨rfl, rfl⟩
        · have h := g_ifp c24 h
          refine g_aload_n dX12_comparesHere_52 rfl ?_
          refine g_bipush (v := 62) dX12_comparesHere_53 (by decide) ?_
          obtain ⟨x34, q35, h⟩ := g_bind h
          refine m_cV mt_X12_isByte ml_X12_194 mv_X12_isByte dX12_comparesHere_55 (k_X12_isByte q35) rfl rfl rfl rfl (by decide) ⟨Nat.le_refl _, Nat.le_refl _⟩ (Nat.le_of_ble_eq_true rfl) ?_
          refine g_if_eq 65 (by decide) dX12_comparesHere_58 (fun c36 => ?_) (fun c36 => ?_)
          · have h := g_ifp c36 h
            refine g_ic0 dX12_comparesHere_65 ?_
            obtain ⟨μ39, q38, h⟩ := g_bind h
            refine m_cVv mt_X12_needs ml_X12_187 mv_X12_needs dX12_comparesHere_66 (k_X12_needs q38) rfl rfl rfl rfl (by decide) ⟨Nat.le_refl _, Nat.le_refl _⟩ (Nat.le_of_ble_eq_true rfl) ?_
            refine g_aload_n dX12_comparesHere_69 rfl ?_
            obtain ⟨⟨x40, μ42⟩, q41, h⟩ := g_bind h
            refine m_cV mt_X12_valueHere ml_X12_191 mv_X12_valueHere dX12_comparesHere_70 (k_X12_valueHere q41) rfl rfl rfl rfl (by decide) ⟨Nat.le_refl _, Nat.le_refl _⟩ (Nat.le_of_ble_eq_true rfl) ?_
            refine g_istore_3 rfl (Nat.le_of_ble_eq_true rfl) dX12_comparesHere_73 ?_
            refine g_aload_n dX12_comparesHere_74 rfl ?_
            refine g_iload_n dX12_comparesHere_75 rfl ?_
            refine g_iload_n dX12_comparesHere_76 rfl ?_
            refine g_iload_n dX12_comparesHere_77 rfl ?_
            obtain ⟨μ45, q44, h⟩ := g_bind h
            refine m_cVv mt_X12_steps ml_X12_197 mv_X12_steps dX12_comparesHere_78 (k_X12_steps q44) rfl rfl rfl rfl (by decide) ⟨Nat.le_refl _, Nat.le_refl _⟩ (Nat.le_of_ble_eq_true rfl) ?_
            obtain rfl := Option.some.inj h
            exact g_vret rfl (Nat.le_refl _) rfl dX12_comparesHere_81 ⟨rfl, rfl⟩
          · have h := g_ifn c36 h
            refine g_ic1 dX12_comparesHere_61 ?_
            refine g_goto 66 (by decide) dX12_comparesHere_62 ?_
            obtain ⟨μ48, q47, h⟩ := g_bind h
            refine m_cVv mt_X12_needs ml_X12_187 mv_X12_needs dX12_comparesHere_66 (k_X12_needs q47) rfl rfl rfl rfl (by decide) ⟨Nat.le_refl _, Nat.le_refl _⟩ (Nat.le_of_ble_eq_true rfl) ?_
            refine g_aload_n dX12_comparesHere_69 rfl ?_
            obtain ⟨⟨x49, μ51⟩, q50, h⟩ := g_bind h
            refine m_cV mt_X12_valueHere ml_X12_191 mv_X12_valueHere dX12_comparesHere_70 (k_X12_valueHere q50) rfl rfl rfl rfl (by decide) ⟨Nat.le_refl _, Nat.le_refl _⟩ (Nat.le_of_ble_eq_true rfl) ?_
            refine g_istore_3 rfl (Nat.le_of_ble_eq_true rfl) dX12_comparesHere_73 ?_
            refine g_aload_n dX12_comparesHere_74 rfl ?_
            refine g_iload_n dX12_comparesHere_75 rfl ?_
            refine g_iload_n dX12_comparesHere_76 rfl ?_
            refine g_iload_n dX12_comparesHere_77 rfl ?_
            obtain ⟨μ54, q53, h⟩ := g_bind h
            refine m_cVv mt_X12_steps ml_X12_197 mv_X12_steps dX12_comparesHere_78 (k_X12_steps q53) rfl rfl rfl rfl (by decide) ⟨Nat.le_refl _, Nat.le_refl _⟩ (Nat.le_of_ble_eq_true rfl) ?_
            obtain rfl := Option.some.inj h
            exact g_vret rfl (Nat.le_refl _) rfl dX12_comparesHere_81 ⟨rfl, rfl⟩
    · have h := g_ifn c9 h
      refine g_ic1 dX12_comparesHere_27 ?_
      refine g_goto 32 (by decide) dX12_comparesHere_28 ?_
      refine g_istore_2 rfl (Nat.le_of_ble_eq_true rfl) dX12_comparesHere_32 ?_
      refine g_aload_n dX12_comparesHere_33 rfl ?_
      refine g_aload_n dX12_comparesHere_34 rfl ?_
      refine g_bipush (v := 60) dX12_comparesHere_35 (by decide) ?_
      obtain ⟨x55, q56, h⟩ := g_bind h
      refine m_cV mt_X12_isByte ml_X12_194 mv_X12_isByte dX12_comparesHere_37 (k_X12_isByte q56) rfl rfl rfl rfl (by decide) ⟨Nat.le_refl _, Nat.le_refl _⟩ (Nat.le_of_ble_eq_true rfl) ?_
      refine g_if_ne 61 (by decide) dX12_comparesHere_40 (fun c57 => ?_) (fun c57 => ?_)
      · have h := g_ifn c57 h
        refine g_ic1 dX12_comparesHere_61 ?_
        refine g_goto 66 (by decide) dX12_comparesHere_62 ?_
        obtain ⟨μ60, q59, h⟩ := g_bind h
        refine m_cVv mt_X12_needs ml_X12_187 mv_X12_needs dX12_comparesHere_66 (k_X12_needs q59) rfl rfl rfl rfl (by decide) ⟨Nat.le_refl _, Nat.le_refl _⟩ (Nat.le_of_ble_eq_true rfl) ?_
        refine g_aload_n dX12_comparesHere_69 rfl ?_
        obtain ⟨⟨x61, μ63⟩, q62, h⟩ := g_bind h
        refine m_cV mt_X12_valueHere ml_X12_191 mv_X12_valueHere dX12_comparesHere_70 (k_X12_valueHere q62) rfl rfl rfl rfl (by decide) ⟨Nat.le_refl _, Nat.le_refl _⟩ (Nat.le_of_ble_eq_true rfl) ?_
        refine g_istore_3 rfl (Nat.le_of_ble_eq_true rfl) dX12_comparesHere_73 ?_
        refine g_aload_n dX12_comparesHere_74 rfl ?_
        refine g_iload_n dX12_comparesHere_75 rfl ?_
        refine g_iload_n dX12_comparesHere_76 rfl ?_
        refine g_iload_n dX12_comparesHere_77 rfl ?_
        obtain ⟨μ66, q65, h⟩ := g_bind h
        refine m_cVv mt_X12_steps ml_X12_197 mv_X12_steps dX12_comparesHere_78 (k_X12_steps q65) rfl rfl rfl rfl (by decide) ⟨Nat.le_refl _, Nat.le_refl _⟩ (Nat.le_of_ble_eq_true rfl) ?_
        obtain rfl := Option.some.inj h
        exact g_vret rfl (Nat.le_refl _) rfl dX12_comparesHere_81 ⟨rfl, rfl⟩
      · have h := g_ifp c57 h
        refine g_aload_n dX12_comparesHere_43 rfl ?_
        refine g_bipush (v := 61) dX12_comparesHere_44 (by decide) ?_
        obtain ⟨x67, q68, h⟩ := g_bind h
        refine m_cV mt_X12_isByte ml_X12_194 mv_X12_isByte dX12_comparesHere_46 (k_X12_isByte q68) rfl rfl rfl rfl (by decide) ⟨Nat.le_refl _, Nat.le_refl _⟩ (Nat.le_of_ble_eq_true rfl) ?_
        refine g_if_ne 61 (by decide) dX12_comparesHere_49 (fun c69 => ?_) (fun c69 => ?_)
        · have h := g_ifn c69 h
          refine g_ic1 dX12_comparesHere_61 ?_
          refine g_goto 66 (by decide) dX12_comparesHere_62 ?_
          obtain ⟨μ72, q71, h⟩ := g_bind h
          refine m_cVv mt_X12_needs ml_X12_187 mv_X12_needs dX12_comparesHere_66 (k_X12_needs q71) rfl rfl rfl rfl (by decide) ⟨Nat.le_refl _, Nat.le_refl _⟩ (Nat.le_of_ble_eq_true rfl) ?_
          refine g_aload_n dX12_comparesHere_69 rfl ?_
          obtain ⟨⟨x73, μ75⟩, q74, h⟩ := g_bind h
          refine m_cV mt_X12_valueHere ml_X12_191 mv_X12_valueHere dX12_comparesHere_70 (k_X12_valueHere q74) rfl rfl rfl rfl (by decide) ⟨Nat.le_refl _, Nat.le_refl _⟩ (Nat.le_of_ble_eq_true rfl) ?_
          refine g_istore_3 rfl (Nat.le_of_ble_eq_true rfl) dX12_comparesHere_73 ?_
          refine g_aload_n dX12_comparesHere_74 rfl ?_
          refine g_iload_n dX12_comparesHere_75 rfl ?_
          refine g_iload_n dX12_comparesHere_76 rfl ?_
          refine g_iload_n dX12_comparesHere_77 rfl ?_
          obtain ⟨μ78, q77, h⟩ := g_bind h
          refine m_cVv mt_X12_steps ml_X12_197 mv_X12_steps dX12_comparesHere_78 (k_X12_steps q77) rfl rfl rfl rfl (by decide) ⟨Nat.le_refl _, Nat.le_refl _⟩ (Nat.le_of_ble_eq_true rfl) ?_
          obtain rfl := Option.some.inj h
          exact g_vret rfl (Nat.le_refl _) rfl dX12_comparesHere_81 ⟨rfl, rfl⟩
        · have h := g_ifp c69 h
          refine g_aload_n dX12_comparesHere_52 rfl ?_
          refine g_bipush (v := 62) dX12_comparesHere_53 (by decide) ?_
          obtain ⟨x79, q80, h⟩ := g_bind h
          refine m_cV mt_X12_isByte ml_X12_194 mv_X12_isByte dX12_comparesHere_55 (k_X12_isByte q80) rfl rfl rfl rfl (by decide) ⟨Nat.le_refl _, Nat.le_refl _⟩ (Nat.le_of_ble_eq_true rfl) ?_
          refine g_if_eq 65 (by decide) dX12_comparesHere_58 (fun c81 => ?_) (fun c81 => ?_)
          · have h := g_ifp c81 h
            refine g_ic0 dX12_comparesHere_65 ?_
            obtain ⟨μ84, q83, h⟩ := g_bind h
            refine m_cVv mt_X12_needs ml_X12_187 mv_X12_needs dX12_comparesHere_66 (k_X12_needs q83) rfl rfl rfl rfl (by decide) ⟨Nat.le_refl _, Nat.le_refl _⟩ (Nat.le_of_ble_eq_true rfl) ?_
            refine g_aload_n dX12_comparesHere_69 rfl ?_
            obtain ⟨⟨x85, μ87⟩, q86, h⟩ := g_bind h
            refine m_cV mt_X12_valueHere ml_X12_191 mv_X12_valueHere dX12_comparesHere_70 (k_X12_valueHere q86) rfl rfl rfl rfl (by decide) ⟨Nat.le_refl _, Nat.le_refl _⟩ (Nat.le_of_ble_eq_true rfl) ?_
            refine g_istore_3 rfl (Nat.le_of_ble_eq_true rfl) dX12_comparesHere_73 ?_
            refine g_aload_n dX12_comparesHere_74 rfl ?_
            refine g_iload_n dX12_comparesHere_75 rfl ?_
            refine g_iload_n dX12_comparesHere_76 rfl ?_
            refine g_iload_n dX12_comparesHere_77 rfl ?_
            obtain ⟨μ90, q89, h⟩ := g_bind h
            refine m_cVv mt_X12_steps ml_X12_197 mv_X12_steps dX12_comparesHere_78 (k_X12_steps q89) rfl rfl rfl rfl (by decide) ⟨Nat.le_refl _, Nat.le_refl _⟩ (Nat.le_of_ble_eq_true rfl) ?_
            obtain rfl := Option.some.inj h
            exact g_vret rfl (Nat.le_refl _) rfl dX12_comparesHere_81 ⟨rfl, rfl⟩
          · have h := g_ifn c81 h
            refine g_ic1 dX12_comparesHere_61 ?_
            refine g_goto 66 (by decide) dX12_comparesHere_62 ?_
            obtain ⟨μ93, q92, h⟩ := g_bind h
            refine m_cVv mt_X12_needs ml_X12_187 mv_X12_needs dX12_comparesHere_66 (k_X12_needs q92) rfl rfl rfl rfl (by decide) ⟨Nat.le_refl _, Nat.le_refl _⟩ (Nat.le_of_ble_eq_true rfl) ?_
            refine g_aload_n dX12_comparesHere_69 rfl ?_
            obtain ⟨⟨x94, μ96⟩, q95, h⟩ := g_bind h
            refine m_cV mt_X12_valueHere ml_X12_191 mv_X12_valueHere dX12_comparesHere_70 (k_X12_valueHere q95) rfl rfl rfl rfl (by decide) ⟨Nat.le_refl _, Nat.le_refl _⟩ (Nat.le_of_ble_eq_true rfl) ?_
            refine g_istore_3 rfl (Nat.le_of_ble_eq_true rfl) dX12_comparesHere_73 ?_
            refine g_aload_n dX12_comparesHere_74 rfl ?_
            refine g_iload_n dX12_comparesHere_75 rfl ?_
            refine g_iload_n dX12_comparesHere_76 rfl ?_
            refine g_iload_n dX12_comparesHere_77 rfl ?_
            obtain ⟨μ99, q98, h⟩ := g_bind h
            refine m_cVv mt_X12_steps ml_X12_197 mv_X12_steps dX12_comparesHere_78 (k_X12_steps q98) rfl rfl rfl rfl (by decide) ⟨Nat.le_refl _, Nat.le_refl _⟩ (Nat.le_of_ble_eq_true rfl) ?_
            obtain rfl := Option.some.inj h
            exact g_vret rfl (Nat.le_refl _) rfl dX12_comparesHere_81 ⟨rfl, rfl⟩
  · have h := g_ifn c6 h
    refine g_ic0 dX12_comparesHere_14 ?_
    refine g_goto 32 (by decide) dX12_comparesHere_15 ?_
    refine g_istore_2 rfl (Nat.le_of_ble_eq_true rfl) dX12_comparesHere_32 ?_
    refine g_aload_n dX12_comparesHere_33 rfl ?_
    refine g_aload_n dX12_comparesHere_34 rfl ?_
    refine g_bipush (v := 60) dX12_comparesHere_35 (by decide) ?_
    obtain ⟨x100, q101, h⟩ := g_bind h
    refine m_cV mt_X12_isByte ml_X12_194 mv_X12_isByte dX12_comparesHere_37 (k_X12_isByte q101) rfl rfl rfl rfl (by decide) ⟨Nat.le_refl _, Nat.le_refl _⟩ (Nat.le_of_ble_eq_true rfl) ?_
    refine g_if_ne 61 (by decide) dX12_comparesHere_40 (fun c102 => ?_) (fun c102 => ?_)
    · have h := g_ifn c102 h
      refine g_ic1 dX12_comparesHere_61 ?_
      refine g_goto 66 (by decide) dX12_comparesHere_62 ?_
      obtain ⟨μ105, q104, h⟩ := g_bind h
      refine m_cVv mt_X12_needs ml_X12_187 mv_X12_needs dX12_comparesHere_66 (k_X12_needs q104) rfl rfl rfl rfl (by decide) ⟨Nat.le_refl _, Nat.le_refl _⟩ (Nat.le_of_ble_eq_true rfl) ?_
      refine g_aload_n dX12_comparesHere_69 rfl ?_
      obtain ⟨⟨x106, μ108⟩, q107, h⟩ := g_bind h
      refine m_cV mt_X12_valueHere ml_X12_191 mv_X12_valueHere dX12_comparesHere_70 (k_X12_valueHere q107) rfl rfl rfl rfl (by decide) ⟨Nat.le_refl _, Nat.le_refl _⟩ (Nat.le_of_ble_eq_true rfl) ?_
      refine g_istore_3 rfl (Nat.le_of_ble_eq_true rfl) dX12_comparesHere_73 ?_
      refine g_aload_n dX12_comparesHere_74 rfl ?_
      refine g_iload_n dX12_comparesHere_75 rfl ?_
      refine g_iload_n dX12_comparesHere_76 rfl ?_
      refine g_iload_n dX12_comparesHere_77 rfl ?_
      obtain ⟨μ111, q110, h⟩ := g_bind h
      refine m_cVv mt_X12_steps ml_X12_197 mv_X12_steps dX12_comparesHere_78 (k_X12_steps q110) rfl rfl rfl rfl (by decide) ⟨Nat.le_refl _, Nat.le_refl _⟩ (Nat.le_of_ble_eq_true rfl) ?_
      obtain rfl := Option.some.inj h
      exact g_vret rfl (Nat.le_refl _) rfl dX12_comparesHere_81 ⟨rfl, rfl⟩
    · have h := g_ifp c102 h
      refine g_aload_n dX12_comparesHere_43 rfl ?_
      refine g_bipush (v := 61) dX12_comparesHere_44 (by decide) ?_
      obtain ⟨x112, q113, h⟩ := g_bind h
      refine m_cV mt_X12_isByte ml_X12_194 mv_X12_isByte dX12_comparesHere_46 (k_X12_isByte q113) rfl rfl rfl rfl (by decide) ⟨Nat.le_refl _, Nat.le_refl _⟩ (Nat.le_of_ble_eq_true rfl) ?_
      refine g_if_ne 61 (by decide) dX12_comparesHere_49 (fun c114 => ?_) (fun c114 => ?_)
      · have h := g_ifn c114 h
        refine g_ic1 dX12_comparesHere_61 ?_
        refine g_goto 66 (by decide) dX12_comparesHere_62 ?_
        obtain ⟨μ117, q116, h⟩ := g_bind h
        refine m_cVv mt_X12_needs ml_X12_187 mv_X12_needs dX12_comparesHere_66 (k_X12_needs q116) rfl rfl rfl rfl (by decide) ⟨Nat.le_refl _, Nat.le_refl _⟩ (Nat.le_of_ble_eq_true rfl) ?_
        refine g_aload_n dX12_comparesHere_69 rfl ?_
        obtain ⟨⟨x118, μ120⟩, q119, h⟩ := g_bind h
        refine m_cV mt_X12_valueHere ml_X12_191 mv_X12_valueHere dX12_comparesHere_70 (k_X12_valueHere q119) rfl rfl rfl rfl (by decide) ⟨Nat.le_refl _, Nat.le_refl _⟩ (Nat.le_of_ble_eq_true rfl) ?_
        refine g_istore_3 rfl (Nat.le_of_ble_eq_true rfl) dX12_comparesHere_73 ?_
        refine g_aload_n dX12_comparesHere_74 rfl ?_
        refine g_iload_n dX12_comparesHere_75 rfl ?_
        refine g_iload_n dX12_comparesHere_76 rfl ?_
        refine g_iload_n dX12_comparesHere_77 rfl ?_
        obtain ⟨μ123, q122, h⟩ := g_bind h
        refine m_cVv mt_X12_steps ml_X12_197 mv_X12_steps dX12_comparesHere_78 (k_X12_steps q122) rfl rfl rfl rfl (by decide) ⟨Nat.le_refl _, Nat.le_refl _⟩ (Nat.le_of_ble_eq_true rfl) ?_
        obtain rfl := Option.some.inj h
        exact g_vret rfl (Nat.le_refl _) rfl dX12_comparesHere_81 ⟨rfl, rfl⟩
      · have h := g_ifp c114 h
        refine g_aload_n dX12_comparesHere_52 rfl ?_
        refine g_bipush (v := 62) dX12_comparesHere_53 (by decide) ?_
        obtain ⟨x124, q125, h⟩ := g_bind h
        refine m_cV mt_X12_isByte ml_X12_194 mv_X12_isByte dX12_comparesHere_55 (k_X12_isByte q125) rfl rfl rfl rfl (by decide) ⟨Nat.le_refl _, Nat.le_refl _⟩ (Nat.le_of_ble_eq_true rfl) ?_
        refine g_if_eq 65 (by decide) dX12_comparesHere_58 (fun c126 => ?_) (fun c126 => ?_)
        · have h := g_ifp c126 h
          refine g_ic0 dX12_comparesHere_65 ?_
          obtain ⟨μ129, q128, h⟩ := g_bind h
          refine m_cVv mt_X12_needs ml_X12_187 mv_X12_needs dX12_comparesHere_66 (k_X12_needs q128) rfl rfl rfl rfl (by decide) ⟨Nat.le_refl _, Nat.le_refl _⟩ (Nat.le_of_ble_eq_true rfl) ?_
          refine g_aload_n dX12_comparesHere_69 rfl ?_
          obtain ⟨⟨x130, μ132⟩, q131, h⟩ := g_bind h
          refine m_cV mt_X12_valueHere ml_X12_191 mv_X12_valueHere dX12_comparesHere_70 (k_X12_valueHere q131) rfl rfl rfl rfl (by decide) ⟨Nat.le_refl _, Nat.le_refl _⟩ (Nat.le_of_ble_eq_true rfl) ?_
          refine g_istore_3 rfl (Nat.le_of_ble_eq_true rfl) dX12_comparesHere_73 ?_
          refine g_aload_n dX12_comparesHere_74 rfl ?_
          refine g_iload_n dX12_comparesHere_75 rfl ?_
          refine g_iload_n dX12_comparesHere_76 rfl ?_
          refine g_iload_n dX12_comparesHere_77 rfl ?_
          obtain ⟨μ135, q134, h⟩ := g_bind h
          refine m_cVv mt_X12_steps ml_X12_197 mv_X12_steps dX12_comparesHere_78 (k_X12_steps q134) rfl rfl rfl rfl (by decide) ⟨Nat.le_refl _, Nat.le_refl _⟩ (Nat.le_of_ble_eq_true rfl) ?_
          obtain rfl := Option.some.inj h
          exact g_vret rfl (Nat.le_refl _) rfl dX12_comparesHere_81 ⟨rfl, rfl⟩
        · have h := g_ifn c126 h
          refine g_ic1 dX12_comparesHere_61 ?_
          refine g_goto 66 (by decide) dX12_comparesHere_62 ?_
          obtain ⟨μ138, q137, h⟩ := g_bind h
          refine m_cVv mt_X12_needs ml_X12_187 mv_X12_needs dX12_comparesHere_66 (k_X12_needs q137) rfl rfl rfl rfl (by decide) ⟨Nat.le_refl _, Nat.le_refl _⟩ (Nat.le_of_ble_eq_true rfl) ?_
          refine g_aload_n dX12_comparesHere_69 rfl ?_
          obtain ⟨⟨x139, μ141⟩, q140, h⟩ := g_bind h
          refine m_cV mt_X12_valueHere ml_X12_191 mv_X12_valueHere dX12_comparesHere_70 (k_X12_valueHere q140) rfl rfl rfl rfl (by decide) ⟨Nat.le_refl _, Nat.le_refl _⟩ (Nat.le_of_ble_eq_true rfl) ?_
          refine g_istore_3 rfl (Nat.le_of_ble_eq_true rfl) dX12_comparesHere_73 ?_
          refine g_aload_n dX12_comparesHere_74 rfl ?_
          refine g_iload_n dX12_comparesHere_75 rfl ?_
          refine g_iload_n dX12_comparesHere_76 rfl ?_
          refine g_iload_n dX12_comparesHere_77 rfl ?_
          obtain ⟨μ144, q143, h⟩ := g_bind h
          refine m_cVv mt_X12_steps ml_X12_197 mv_X12_steps dX12_comparesHere_78 (k_X12_steps q143) rfl rfl rfl rfl (by decide) ⟨Nat.le_refl _, Nat.le_refl _⟩ (Nat.le_of_ble_eq_true rfl) ?_
          obtain rfl := Option.some.inj h
          exact g_vret rfl (Nat.le_refl _) rfl dX12_comparesHere_81 ⟨rfl, rfl⟩
set_option maxRecDepth 100000 in
set_option maxHeartbeats 4000000 in
theorem k_X12_oneHere_L2 {D : va_G} {cA : Nat → ClassId} {b k : Nat} {Q : Option Value → g_S → Prop} {F : g_M → Option g_M} {d0 : Nat} (hF : ∀  (μ : g_M) (z : g_M), F μ = some z → g_K (g_XM D cA b) yX12_condHere Y_X12_condHere d0 0 0 k [.ref 0] (μ, g_rfM) (fun r1 σ1 => r1 = none ∧ σ1 = (z, g_rfM))) {N : Nat} : ∀ (n : Nat) (x_1 : Int32) (μ : g_M) (z_1 : Int32) (z_μ : g_M), f_X12_oneHere_L2 F N n x_1 μ = some (z_1, z_μ) → g_V (g_XM D cA b) Y_X12_oneHere (d0 + 6) 0 0 Q k 0 0 35 [some (.ref 0), some (.int z_1)] [] (z_μ, g_rfM) → g_V (g_XM D cA b) Y_X12_oneHere (d0 + 6) 0 0 Q k 0 0 2 [some (.ref 0), some (.int x_1)] [] (μ, g_rfM) := by
  intro n
  induction n with
  | zero =>
    intro x_1 μ z_1 z_μ h
    rw [f_X12_oneHere_L2] at h
    cases h
  | succ n ih =>
    intro x_1 μ z_1 z_μ h hc
    rw [f_X12_oneHere_L2] at h
    refine g_aload_n dX12_oneHere_2 rfl ?_
    refine m_getI fl_X12_169 rfl rfl dX12_oneHere_3 ?_
    refine g_if_ne 35 (by decide) dX12_oneHere_6 (fun c1 => ?_) (fun c1 => ?_)
    · have h := g_ifn c1 h
      obtain ⟨rfl, rfl⟩ := g_inj2 h
      exact g_less _ (g_subS (g_subS g_sub0)) hc
    · have h := g_ifp c1 h
      refine g_aload_n dX12_oneHere_9 rfl ?_
      refine g_ic3 dX12_oneHere_10 ?_
      refine g_bipush (v := 110) dX12_oneHere_11 (by decide) ?_
      refine g_bipush (v := 111) dX12_oneHere_13 (by decide) ?_
      refine g_bipush (v := 116) dX12_oneHere_15 (by decide) ?_
      refine g_bipush (v := 116) dX12_oneHere_17 (by decide) ?_
      obtain ⟨x2, q3, h⟩ := g_bind h
      refine m_cV mt_X12_isName ml_X12_176 mv_X12_isName dX12_oneHere_19 (k_X12_isName q3) rfl rfl rfl rfl (by omega) ⟨Nat.le_refl _, Nat.le_refl _⟩ (Nat.le_of_ble_eq_true rfl) ?_
      refine g_if_eq 35 (by decide) dX12_oneHere_22 (fun c4 => ?_) (fun c4 => ?_)
      · have h := g_ifp c4 h
        obtain ⟨rfl, rfl⟩ := g_inj2 h
        exact g_less _ (g_subS (g_subS g_sub0)) hc
      · have h := g_ifn c4 h
        refine g_iinc_1 (v := 1) rfl (by decide) (Nat.le_of_ble_eq_true rfl) dX12_oneHere_25 ?_
        refine g_aload_n dX12_oneHere_28 rfl ?_
        obtain ⟨μ7, q6, h⟩ := g_bind h
        refine m_cVv mt_X12_nextToken ml_X12_173 mv_X12_nextToken dX12_oneHere_29 (k_X12_nextToken q6) rfl rfl rfl rfl (by omega) ⟨Nat.le_refl _, Nat.le_refl _⟩ (Nat.le_of_ble_eq_true rfl) ?_
        refine g_goto 2 (by decide) dX12_oneHere_32 ?_
        exact g_less _ (g_subS (g_subS g_sub0)) (ih _ _ _ _ h hc)
set_option maxRecDepth 100000 in
set_option maxHeartbeats 4000000 in
theorem k_X12_oneHere {D : va_G} {cA : Nat → ClassId} {b k : Nat} (F : g_M → Option g_M) {d0 : Nat} (hF : ∀  (μ : g_M) (z : g_M), F μ = some z → g_K (g_XM D cA b) yX12_condHere Y_X12_condHere d0 0 0 k [.ref 0] (μ, g_rfM) (fun r1 σ1 => r1 = none ∧ σ1 = (z, g_rfM))) {N : Nat} {μ : g_M} {z : g_M} (h : f_X12_oneHere F N μ = some z) : g_K (g_XM D cA b) yX12_oneHere Y_X12_oneHere (d0 + 6) 0 0 k [.ref 0] (μ, g_rfM) (fun r1 σ1 => r1 = none ∧ σ1 = (z, g_rfM)) := by
  unfold f_X12_oneHere at h
  refine g_met 1 (by decide) rfl rfl (Nat.le_of_ble_eq_true rfl) ?_
  refine g_ic0 dX12_oneHere_0 ?_
  refine g_istore_1 rfl (Nat.le_of_ble_eq_true rfl) dX12_oneHere_1 ?_
  obtain ⟨⟨x1, μ2⟩, q3, h⟩ := g_bind h
  refine g_less _ (g_subS (g_subS g_sub0)) (k_X12_oneHere_L2 hF _ _ _ _ _ q3 ?_)
  refine g_aload_n dX12_oneHere_35 rfl ?_
  refine m_getI fl_X12_169 rfl rfl dX12_oneHere_36 ?_
  refine g_if_ne 105 (by decide) dX12_oneHere_39 (fun c4 => ?_) (fun c4 => ?_)
  · have h := g_ifn c4 h
    refine g_aload_n dX12_oneHere_105 rfl ?_
    refine m_getI fl_X12_169 rfl rfl dX12_oneHere_106 ?_
    refine g_if_ne 116 (by decide) dX12_oneHere_109 (fun c9 => ?_) (fun cd => absurd cd c4)
    refine g_iload_n dX12_oneHere_116 rfl ?_
    refine g_ic2 dX12_oneHere_117 ?_
    refine g_irem dX12_oneHere_118 (by decide) ?_
    refine g_ic1 dX12_oneHere_119 ?_
    refine g_icmp_ne 130 (by decide) dX12_oneHere_120 (fun c5 => ?_) (fun c5 => ?_)
    · have h := g_ifn c5 h
      obtain rfl := Option.some.inj h
      exact g_vret rfl (Nat.le_refl _) rfl dX12_oneHere_130 ⟨rfl, rfl⟩
    · have h := g_ifp c5 h
      refine g_aload_n dX12_oneHere_123 rfl ?_
      refine g_ic3 dX12_oneHere_124 ?_
      refine g_ic0 dX12_oneHere_125 ?_
      refine g_ic0 dX12_oneHere_126 ?_
      obtain ⟨μ8, q7, h⟩ := g_bind h
      refine m_cVv mt_X12_steps ml_X12_197 mv_X12_steps dX12_oneHere_127 (k_X12_steps q7) rfl rfl rfl rfl (by omega) ⟨Nat.le_refl _, Nat.le_refl _⟩ (Nat.le_of_ble_eq_true rfl) ?_
      obtain rfl := Option.some.inj h
      exact g_vret rfl (Nat.le_refl _) rfl dX12_oneHere_130 ⟨rfl, rfl⟩
  · have h := g_ifp c4 h
    refine g_aload_n dX12_oneHere_42 rfl ?_
    refine g_bipush (v := 40) dX12_oneHere_43 (by decide) ?_
    obtain ⟨x9, q10, h⟩ := g_bind h
    refine m_cV mt_X12_isByte ml_X12_194 mv_X12_isByte dX12_oneHere_45 (k_X12_isByte q10) rfl rfl rfl rfl (by omega) ⟨Nat.le_refl _, Nat.le_refl _⟩ (Nat.le_of_ble_eq_true rfl) ?_
    refine g_if_eq 105 (by decide) dX12_oneHere_48 (fun c11 => ?_) (fun c11 => ?_)
    · have h := g_ifp c11 h
      refine g_aload_n dX12_oneHere_105 rfl ?_
      refine m_getI fl_X12_169 rfl rfl dX12_oneHere_106 ?_
      refine g_if_ne 116 (by decide) dX12_oneHere_109 (fun cd => absurd c4 cd) (fun c9 => ?_)
      refine g_aload_n dX12_oneHere_112 rfl ?_
      obtain ⟨μ14, q13, h⟩ := g_bind h
      refine m_cVv mt_X12_comparesHere ml_X12_207 mv_X12_comparesHere dX12_oneHere_113 (k_X12_comparesHere q13) rfl rfl rfl rfl (by omega) ⟨Nat.le_refl _, Nat.le_refl _⟩ (Nat.le_of_ble_eq_true rfl) ?_
      refine g_iload_n dX12_oneHere_116 rfl ?_
      refine g_ic2 dX12_oneHere_117 ?_
      refine g_irem dX12_oneHere_118 (by decide) ?_
      refine g_ic1 dX12_oneHere_119 ?_
      refine g_icmp_ne 130 (by decide) dX12_oneHere_120 (fun c15 => ?_) (fun c15 => ?_)
      · have h := g_ifn c15 h
        obtain rfl := Option.some.inj h
        exact g_vret rfl (Nat.le_refl _) rfl dX12_oneHere_130 ⟨rfl, rfl⟩
      · have h := g_ifp c15 h
        refine g_aload_n dX12_oneHere_123 rfl ?_
        refine g_ic3 dX12_oneHere_124 ?_
        refine g_ic0 dX12_oneHere_125 ?_
        refine g_ic0 dX12_oneHere_126 ?_
        obtain ⟨μ18, q17, h⟩ := g_bind h
        refine m_cVv mt_X12_steps ml_X12_197 mv_X12_steps dX12_oneHere_127 (k_X12_steps q17) rfl rfl rfl rfl (by omega) ⟨Nat.le_refl _, Nat.le_refl _⟩ (Nat.le_of_ble_eq_true rfl) ?_
        obtain rfl := Option.some.inj h
        exact g_vret rfl (Nat.le_refl _) rfl dX12_oneHere_130 ⟨rfl, rfl⟩
    · have h := g_ifn c11 h
      refine g_aload_n dX12_oneHere_51 rfl ?_
      refine g_aload_n dX12_oneHere_52 rfl ?_
      refine m_getI fl_X12_201 rfl rfl dX12_oneHere_53 ?_
      refine g_ic3 dX12_oneHere_56 ?_
      refine g_icmp_ge 64 (by decide) dX12_oneHere_57 (fun c19 => ?_) (fun c19 => ?_)
      · have h := g_ifp c19 h
        refine g_ic0 dX12_oneHere_64 ?_
        obtain ⟨μ22, q21, h⟩ := g_bind h
        refine m_cVv mt_X12_needs ml_X12_187 mv_X12_needs dX12_oneHere_65 (k_X12_needs q21) rfl rfl rfl rfl (by omega) ⟨Nat.le_refl _, Nat.le_refl _⟩ (Nat.le_of_ble_eq_true rfl) ?_
        refine g_aload_n dX12_oneHere_68 rfl ?_
        refine g_dup dX12_oneHere_69 rfl ?_
        refine m_getI fl_X12_201 rfl rfl dX12_oneHere_70 ?_
        refine g_ic1 dX12_oneHere_73 ?_
        refine g_iadd dX12_oneHere_74 ?_
        obtain ⟨μ23, eμ23, h⟩ := g_let h
        refine m_putI fl_X12_201 fw_12_13 rfl rfl rfl rfl dX12_oneHere_75 eμ23 ?_
        refine g_aload_n dX12_oneHere_78 rfl ?_
        obtain ⟨μ26, q25, h⟩ := g_bind h
        refine m_cVv mt_X12_condHere ml_X12_204 mv_X12_condHere dX12_oneHere_79 (hF _ _ q25) rfl rfl rfl rfl (by omega) ⟨Nat.le_refl _, Nat.le_refl _⟩ (Nat.le_of_ble_eq_true rfl) ?_
        refine g_aload_n dX12_oneHere_82 rfl ?_
        refine g_aload_n dX12_oneHere_83 rfl ?_
        refine g_bipush (v := 41) dX12_oneHere_84 (by decide) ?_
        obtain ⟨x27, q28, h⟩ := g_bind h
        refine m_cV mt_X12_isByte ml_X12_194 mv_X12_isByte dX12_oneHere_86 (k_X12_isByte q28) rfl rfl rfl rfl (by omega) ⟨Nat.le_refl _, Nat.le_refl _⟩ (Nat.le_of_ble_eq_true rfl) ?_
        obtain ⟨μ31, q30, h⟩ := g_bind h
        refine m_cVv mt_X12_needs ml_X12_187 mv_X12_needs dX12_oneHere_89 (k_X12_needs q30) rfl rfl rfl rfl (by omega) ⟨Nat.le_refl _, Nat.le_refl _⟩ (Nat.le_of_ble_eq_true rfl) ?_
        refine g_aload_n dX12_oneHere_92 rfl ?_
        refine g_dup dX12_oneHere_93 rfl ?_
        refine m_getI fl_X12_201 rfl rfl dX12_oneHere_94 ?_
        refine g_ic1 dX12_oneHere_97 ?_
        refine g_isub dX12_oneHere_98 ?_
        obtain ⟨μ32, eμ32, h⟩ := g_let h
        refine m_putI fl_X12_201 fw_12_13 rfl rfl rfl rfl dX12_oneHere_99 eμ32 ?_
        refine g_goto 116 (by decide) dX12_oneHere_102 ?_
        refine g_iload_n dX12_oneHere_116 rfl ?_
        refine g_ic2 dX12_oneHere_117 ?_
        refine g_irem dX12_oneHere_118 (by decide) ?_
        refine g_ic1 dX12_oneHere_119 ?_
        refine g_icmp_ne 130 (by decide) dX12_oneHere_120 (fun c33 => ?_) (fun c33 => ?_)
        · have h := g_ifn c33 h
          obtain rfl := Option.some.inj h
          exact g_vret rfl (Nat.le_refl _) rfl dX12_oneHere_130 ⟨rfl, rfl⟩
        · have h := g_ifp c33 h
          refine g_aload_n dX12_oneHere_123 rfl ?_
          refine g_ic3 dX12_oneHere_124 ?_
          refine g_ic0 dX12_oneHere_125 ?_
          refine g_ic0 dX12_oneHere_126 ?_
          obtain ⟨μ36, q35, h⟩ := g_bind h
          refine m_cVv mt_X12_steps ml_X12_197 mv_X12_steps dX12_oneHere_127 (k_X12_steps q35) rfl rfl rfl rfl (by omega) ⟨Nat.le_refl _, Nat.le_refl _⟩ (Nat.le_of_ble_eq_true rfl) ?_
          obtain rfl := Option.some.inj h
          exact g_vret rfl (Nat.le_refl _) rfl dX12_oneHere_130 ⟨rfl, rfl⟩
      · have h := g_ifn c19 h
        refine g_ic1 dX12_oneHere_60 ?_
        refine g_goto 65 (by decide) dX12_oneHere_61 ?_
        obtain ⟨μ39, q38, h⟩ := g_bind h
        refine m_cVv mt_X12_needs ml_X12_187 mv_X12_needs dX12_oneHere_65 (k_X12_needs q38) rfl rfl rfl rfl (by omega) ⟨Nat.le_refl _, Nat.le_refl _⟩ (Nat.le_of_ble_eq_true rfl) ?_
        refine g_aload_n dX12_oneHere_68 rfl ?_
        refine g_dup dX12_oneHere_69 rfl ?_
        refine m_getI fl_X12_201 rfl rfl dX12_oneHere_70 ?_
        refine g_ic1 dX12_oneHere_73 ?_
        refine g_iadd dX12_oneHere_74 ?_
        obtain ⟨μ40, eμ40, h⟩ := g_let h
        refine m_putI fl_X12_201 fw_12_13 rfl rfl rfl rfl dX12_oneHere_75 eμ40 ?_
        refine g_aload_n dX12_oneHere_78 rfl ?_
        obtain ⟨μ43, q42, h⟩ := g_bind h
        refine m_cVv mt_X12_condHere ml_X12_204 mv_X12_condHere dX12_oneHere_79 (hF _ _ q42) rfl rfl rfl rfl (by omega) ⟨Nat.le_refl _, Nat.le_refl _⟩ (Nat.le_of_ble_eq_true rfl) ?_
        refine g_aload_n dX12_oneHere_82 rfl ?_
        refine g_aload_n dX12_oneHere_83 rfl ?_
        refine g_bipush (v := 41) dX12_oneHere_84 (by decide) ?_
        obtain ⟨x44, q45, h⟩ := g_bind h
        refine m_cV mt_X12_isByte ml_X12_194 mv_X12_isByte dX12_oneHere_86 (k_X12_isByte q45) rfl rfl rfl rfl (by omega) ⟨Nat.le_refl _, Nat.le_refl _⟩ (Nat.le_of_ble_eq_true rfl) ?_
        obtain ⟨μ48, q47, h⟩ := g_bind h
        refine m_cVv mt_X12_needs ml_X12_187 mv_X12_needs dX12_oneHere_89 (k_X12_needs q47) rfl rfl rfl rfl (by omega) ⟨Nat.le_refl _, Nat.le_refl _⟩ (Nat.le_of_ble_eq_true rfl) ?_
        refine g_aload_n dX12_oneHere_92 rfl ?_
        refine g_dup dX12_oneHere_93 rfl ?_
        refine m_getI fl_X12_201 rfl rfl dX12_oneHere_94 ?_
        refine g_ic1 dX12_oneHere_97 ?_
        refine g_isub dX12_oneHere_98 ?_
        obtain ⟨μ49, eμ49, h⟩ := g_let h
        refine m_putI fl_X12_201 fw_12_13 rfl rfl rfl rfl dX12_oneHere_99 eμ49 ?_
        refine g_goto 116 (by decide) dX12_oneHere_102 ?_
        refine g_iload_n dX12_oneHere_116 rfl ?_
        refine g_ic2 dX12_oneHere_117 ?_
        refine g_irem dX12_oneHere_118 (by decide) ?_
        refine g_ic1 dX12_oneHere_119 ?_
        refine g_icmp_ne 130 (by decide) dX12_oneHere_120 (fun c50 => ?_) (fun c50 => ?_)
        · have h := g_ifn c50 h
          obtain rfl := Option.some.inj h
          exact g_vret rfl (Nat.le_refl _) rfl dX12_oneHere_130 ⟨rfl, rfl⟩
        · have h := g_ifp c50 h
          refine g_aload_n dX12_oneHere_123 rfl ?_
          refine g_ic3 dX12_oneHere_124 ?_
          refine g_ic0 dX12_oneHere_125 ?_
          refine g_ic0 dX12_oneHere_126 ?_
          obtain ⟨μ53, q52, h⟩ := g_bind h
          refine m_cVv mt_X12_steps ml_X12_197 mv_X12_steps dX12_oneHere_127 (k_X12_steps q52) rfl rfl rfl rfl (by omega) ⟨Nat.le_refl _, Nat.le_refl _⟩ (Nat.le_of_ble_eq_true rfl) ?_
          obtain rfl := Option.some.inj h
          exact g_vret rfl (Nat.le_refl _) rfl dX12_oneHere_130 ⟨rfl, rfl⟩
set_option maxRecDepth 100000 in
set_option maxHeartbeats 4000000 in
theorem k_X12_allHere_L4 {D : va_G} {cA : Nat → ClassId} {b k : Nat} {Q : Option Value → g_S → Prop} {F : g_M → Option g_M} {d0 : Nat} (hF : ∀  (μ : g_M) (z : g_M), F μ = some z → g_K (g_XM D cA b) yX12_condHere Y_X12_condHere d0 0 0 k [.ref 0] (μ, g_rfM) (fun r1 σ1 => r1 = none ∧ σ1 = (z, g_rfM))) {N : Nat} : ∀ (n : Nat) (μ : g_M) (z_μ : g_M), f_X12_allHere_L4 F N n μ = some z_μ → g_V (g_XM D cA b) Y_X12_allHere (d0 + 7) 0 0 Q k 0 0 45 [none] [] (z_μ, g_rfM) → g_V (g_XM D cA b) Y_X12_allHere (d0 + 7) 0 0 Q k 0 0 4 [some (.ref 0)] [] (μ, g_rfM) := by
  intro n
  induction n with
  | zero =>
    intro μ z_μ h
    rw [f_X12_allHere_L4] at h
    cases h
  | succ n ih =>
    intro μ z_μ h hc
    rw [f_X12_allHere_L4] at h
    refine g_aload_n dX12_allHere_4 rfl ?_
    refine m_getI fl_X12_169 rfl rfl dX12_allHere_5 ?_
    refine g_if_ne 45 (by decide) dX12_allHere_8 (fun c4 => ?_) (fun c4 => ?_)
    · have h := g_ifn c4 h
      obtain rfl := Option.some.inj h
      exact g_less _ (g_subN g_sub0) hc
    · have h := g_ifp c4 h
      refine g_aload_n dX12_allHere_11 rfl ?_
      refine g_ic3 dX12_allHere_12 ?_
      refine g_bipush (v := 97) dX12_allHere_13 (by decide) ?_
      refine g_bipush (v := 110) dX12_allHere_15 (by decide) ?_
      refine g_bipush (v := 100) dX12_allHere_17 (by decide) ?_
      refine g_bipush (v := 100) dX12_allHere_19 (by decide) ?_
      obtain ⟨x5, q6, h⟩ := g_bind h
      refine m_cV mt_X12_isName ml_X12_176 mv_X12_isName dX12_allHere_21 (k_X12_isName q6) rfl rfl rfl rfl (by omega) ⟨Nat.le_refl _, Nat.le_refl _⟩ (Nat.le_of_ble_eq_true rfl) ?_
      refine g_if_eq 45 (by decide) dX12_allHere_24 (fun c7 => ?_) (fun c7 => ?_)
      · have h := g_ifp c7 h
        obtain rfl := Option.some.inj h
        exact g_less _ (g_subN g_sub0) hc
      · have h := g_ifn c7 h
        refine g_aload_n dX12_allHere_27 rfl ?_
        obtain ⟨μ10, q9, h⟩ := g_bind h
        refine m_cVv mt_X12_nextToken ml_X12_173 mv_X12_nextToken dX12_allHere_28 (k_X12_nextToken q9) rfl rfl rfl rfl (by omega) ⟨Nat.le_refl _, Nat.le_refl _⟩ (Nat.le_of_ble_eq_true rfl) ?_
        refine g_aload_n dX12_allHere_31 rfl ?_
        obtain ⟨μ13, q12, h⟩ := g_bind h
        refine m_cVv mt_X12_oneHere ml_X12_210 mv_X12_oneHere dX12_allHere_32 (k_X12_oneHere F hF q12) rfl rfl rfl rfl (by omega) ⟨Nat.le_refl _, Nat.le_refl _⟩ (Nat.le_of_ble_eq_true rfl) ?_
        refine g_aload_n dX12_allHere_35 rfl ?_
        refine g_ic4 dX12_allHere_36 ?_
        refine g_ic0 dX12_allHere_37 ?_
        refine g_ic0 dX12_allHere_38 ?_
        obtain ⟨μ16, q15, h⟩ := g_bind h
        refine m_cVv mt_X12_steps ml_X12_197 mv_X12_steps dX12_allHere_39 (k_X12_steps q15) rfl rfl rfl rfl (by omega) ⟨Nat.le_refl _, Nat.le_refl _⟩ (Nat.le_of_ble_eq_true rfl) ?_
        refine g_goto 4 (by decide) dX12_allHere_42 ?_
        exact g_less _ (g_subS g_sub0) (ih _ _ h hc)
set_option maxRecDepth 100000 in
set_option maxHeartbeats 4000000 in
theorem k_X12_allHere {D : va_G} {cA : Nat → ClassId} {b k : Nat} (F : g_M → Option g_M) {d0 : Nat} (hF : ∀  (μ : g_M) (z : g_M), F μ = some z → g_K (g_XM D cA b) yX12_condHere Y_X12_condHere d0 0 0 k [.ref 0] (μ, g_rfM) (fun r1 σ1 => r1 = none ∧ σ1 = (z, g_rfM))) {N : Nat} {μ : g_M} {z : g_M} (h : f_X12_allHere F N μ = some z) : g_K (g_XM D cA b) yX12_allHere Y_X12_allHere (d0 + 7) 0 0 k [.ref 0] (μ, g_rfM) (fun r1 σ1 => r1 = none ∧ σ1 = (z, g_rfM)) := by
  unfold f_X12_allHere at h
  refine g_met 0 (by decide) rfl rfl (Nat.le_of_ble_eq_true rfl) ?_
  refine g_aload_n dX12_allHere_0 rfl ?_
  obtain ⟨μ3, q2, h⟩ := g_bind h
  refine m_cVv mt_X12_oneHere ml_X12_210 mv_X12_oneHere dX12_allHere_1 (k_X12_oneHere F hF q2) rfl rfl rfl rfl (by omega) ⟨Nat.le_refl _, Nat.le_refl _⟩ (Nat.le_of_ble_eq_true rfl) ?_
  obtain ⟨μ4, q5, h⟩ := g_bind h
  refine g_less _ (g_subS g_sub0) (k_X12_allHere_L4 hF _ _ _ q5 ?_)
  obtain rfl := Option.some.inj h
  exact g_vret rfl (Nat.le_refl _) rfl dX12_allHere_45 ⟨rfl, rfl⟩
set_option maxRecDepth 100000 in
set_option maxHeartbeats 4000000 in
theorem k_X12_condHere_L4 {D : va_G} {cA : Nat → ClassId} {b k : Nat} {Q : Option Value → g_S → Prop} {F : g_M → Option g_M} {d0 : Nat} (hF : ∀  (μ : g_M) (z : g_M), F μ = some z → g_K (g_XM D cA b) yX12_condHere Y_X12_condHere d0 0 0 k [.ref 0] (μ, g_rfM) (fun r1 σ1 => r1 = none ∧ σ1 = (z, g_rfM))) {N : Nat} : ∀ (n : Nat) (μ : g_M) (z_μ : g_M), f_X12_condHere_L4 F N n μ = some z_μ → g_V (g_XM D cA b) Y_X12_condHere (d0 + 8) 0 0 Q k 0 0 40 [none] [] (z_μ, g_rfM) → g_V (g_XM D cA b) Y_X12_condHere (d0 + 8) 0 0 Q k 0 0 4 [some (.ref 0)] [] (μ, g_rfM) := by
  intro n
  induction n with
  | zero =>
    intro μ z_μ h
    rw [f_X12_condHere_L4] at h
    cases h
  | succ n ih =>
    intro μ z_μ h hc
    rw [f_X12_condHere_L4] at h
    refine g_aload_n dX12_condHere_4 rfl ?_
    refine m_getI fl_X12_169 rfl rfl dX12_condHere_5 ?_
    refine g_if_ne 40 (by decide) dX12_condHere_8 (fun c4 => ?_) (fun c4 => ?_)
    · have h := g_ifn c4 h
      obtain rfl := Option.some.inj h
      exact g_less _ (g_subN g_sub0) hc
    · have h := g_ifp c4 h
      refine g_aload_n dX12_condHere_11 rfl ?_
      refine g_bipush (v := 111) dX12_condHere_12 (by decide) ?_
      refine g_bipush (v := 114) dX12_condHere_14 (by decide) ?_
      obtain ⟨x5, q6, h⟩ := g_bind h
      refine m_cV mt_X12_isTwo ml_X12_216 mv_X12_isTwo dX12_condHere_16 (k_X12_isTwo q6) rfl rfl rfl rfl (by omega) ⟨Nat.le_refl _, Nat.le_refl _⟩ (Nat.le_of_ble_eq_true rfl) ?_
      refine g_if_eq 40 (by decide) dX12_condHere_19 (fun c7 => ?_) (fun c7 => ?_)
      · have h := g_ifp c7 h
        obtain rfl := Option.some.inj h
        exact g_less _ (g_subN g_sub0) hc
      · have h := g_ifn c7 h
        refine g_aload_n dX12_condHere_22 rfl ?_
        obtain ⟨μ10, q9, h⟩ := g_bind h
        refine m_cVv mt_X12_nextToken ml_X12_173 mv_X12_nextToken dX12_condHere_23 (k_X12_nextToken q9) rfl rfl rfl rfl (by omega) ⟨Nat.le_refl _, Nat.le_refl _⟩ (Nat.le_of_ble_eq_true rfl) ?_
        refine g_aload_n dX12_condHere_26 rfl ?_
        obtain ⟨μ13, q12, h⟩ := g_bind h
        refine m_cVv mt_X12_allHere ml_X12_213 mv_X12_allHere dX12_condHere_27 (k_X12_allHere F hF q12) rfl rfl rfl rfl (by omega) ⟨Nat.le_refl _, Nat.le_refl _⟩ (Nat.le_of_ble_eq_true rfl) ?_
        refine g_aload_n dX12_condHere_30 rfl ?_
        refine g_ic5 dX12_condHere_31 ?_
        refine g_ic0 dX12_condHere_32 ?_
        refine g_ic0 dX12_condHere_33 ?_
        obtain ⟨μ16, q15, h⟩ := g_bind h
        refine m_cVv mt_X12_steps ml_X12_197 mv_X12_steps dX12_condHere_34 (k_X12_steps q15) rfl rfl rfl rfl (by omega) ⟨Nat.le_refl _, Nat.le_refl _⟩ (Nat.le_of_ble_eq_true rfl) ?_
        refine g_goto 4 (by decide) dX12_condHere_37 ?_
        exact g_less _ (g_subS g_sub0) (ih _ _ h hc)
set_option maxRecDepth 100000 in
set_option maxHeartbeats 4000000 in
theorem k_X12_condHere {D : va_G} {cA : Nat → ClassId} {b k : Nat} {N : Nat} : ∀ (n : Nat) (μ : g_M) (z : g_M), f_X12_condHere N n μ = some z → g_K (g_XM D cA b) yX12_condHere Y_X12_condHere (8 * n) 0 0 k [.ref 0] (μ, g_rfM) (fun r1 σ1 => r1 = none ∧ σ1 = (z, g_rfM)) := by
  intro n
  induction n with
  | zero =>
    intro μ z h
    rw [f_X12_condHere] at h
    cases h
  | succ n hF =>
    intro μ z h
    rw [f_X12_condHere] at h
    refine g_met (d := 8 * n + 8) 0 (by decide) rfl rfl (Nat.le_of_ble_eq_true rfl) ?_
    refine g_aload_n dX12_condHere_0 rfl ?_
    obtain ⟨μ3, q2, h⟩ := g_bind h
    refine m_cVv mt_X12_allHere ml_X12_213 mv_X12_allHere dX12_condHere_1 (k_X12_allHere _ hF q2) rfl rfl rfl rfl (by omega) ⟨Nat.le_refl _, Nat.le_refl _⟩ (Nat.le_of_ble_eq_true rfl) ?_
    obtain ⟨μ4, q5, h⟩ := g_bind h
    refine g_less _ (g_subS g_sub0) (k_X12_condHere_L4 hF _ _ _ q5 ?_)
    obtain rfl := Option.some.inj h
    exact g_vret rfl (Nat.le_refl _) rfl dX12_condHere_40 ⟨rfl, rfl⟩
set_option maxRecDepth 100000 in
set_option maxHeartbeats 4000000 in
theorem k_X12_ruleHere {D : va_G} {cA : Nat → ClassId} {b k : Nat} {N : Nat} {μ : g_M} {z : g_M} (h : f_X12_ruleHere N μ = some z) : g_K (g_XM D cA b) yX12_ruleHere Y_X12_ruleHere 41 0 0 k [.ref 0] (μ, g_rfM) (fun r1 σ1 => r1 = none ∧ σ1 = (z, g_rfM)) := by
  unfold f_X12_ruleHere at h
  refine g_met 4 (by decide) rfl rfl (Nat.le_of_ble_eq_true rfl) ?_
  refine g_bipush (v := 38) dX12_ruleHere_0 (by decide) ?_
  refine g_ic4 dX12_ruleHere_2 ?_
  refine g_aload_n dX12_ruleHere_3 rfl ?_
  refine m_getR fl_X12_7 rfl rfl rfl dX12_ruleHere_4 ?_
  refine g_ic5 dX12_ruleHere_7 ?_
  refine m_ialdc 5 rfl rfl (by decide) (by decide) dX12_ruleHere_8 ?_
  refine g_imul dX12_ruleHere_9 ?_
  refine g_iadd dX12_ruleHere_10 ?_
  obtain ⟨x1, ex1, h⟩ := g_let h
  refine g_top ex1 ?_
  refine g_istore_1 rfl (Nat.le_of_ble_eq_true rfl) dX12_ruleHere_11 ?_
  refine g_aload_n dX12_ruleHere_12 rfl ?_
  obtain ⟨x2, q3, h⟩ := g_bind h
  refine m_cV mt_X12_kindHere ml_X12_219 mv_X12_kindHere dX12_ruleHere_13 (k_X12_kindHere q3) rfl rfl rfl rfl (by decide) ⟨Nat.le_refl _, Nat.le_refl _⟩ (Nat.le_of_ble_eq_true rfl) ?_
  refine g_istore_2 rfl (Nat.le_of_ble_eq_true rfl) dX12_ruleHere_16 ?_
  refine g_aload_n dX12_ruleHere_17 rfl ?_
  refine g_iload_n dX12_ruleHere_18 rfl ?_
  refine g_if_lt 37 (by decide) dX12_ruleHere_19 (fun c4 => ?_) (fun c4 => ?_)
  · have h := g_ifp c4 h
    refine g_ic0 dX12_ruleHere_37 ?_
    obtain ⟨μ7, q6, h⟩ := g_bind h
    refine m_cVv mt_X12_needs ml_X12_187 mv_X12_needs dX12_ruleHere_38 (k_X12_needs q6) rfl rfl rfl rfl (by decide) ⟨Nat.le_refl _, Nat.le_refl _⟩ (Nat.le_of_ble_eq_true rfl) ?_
    refine g_aload_n dX12_ruleHere_41 rfl ?_
    refine m_getR fl_X12_7 rfl rfl rfl dX12_ruleHere_42 ?_
    refine g_bipush (v := 7) dX12_ruleHere_45 (by decide) ?_
    refine m_ialdc 7 rfl rfl (by decide) (by decide) dX12_ruleHere_47 ?_
    refine g_istore_3 rfl (Nat.le_of_ble_eq_true rfl) dX12_ruleHere_48 ?_
    refine g_aload_n dX12_ruleHere_49 rfl ?_
    refine m_getI fl_X12_169 rfl rfl dX12_ruleHere_50 ?_
    refine g_if_ne 80 (by decide) dX12_ruleHere_53 (fun c8 => ?_) (fun c8 => ?_)
    · have h := g_ifn c8 h
      refine g_aload_n dX12_ruleHere_80 rfl ?_
      obtain ⟨x9, q10, h⟩ := g_bind h
      refine m_cV mt_X12_doHere ml_X12_222 mv_X12_doHere dX12_ruleHere_81 (k_X12_doHere q10) rfl rfl rfl rfl (by decide) ⟨Nat.le_refl _, Nat.le_refl _⟩ (Nat.le_of_ble_eq_true rfl) ?_
      refine g_istore_4 rfl (Nat.le_of_ble_eq_true rfl) dX12_ruleHere_84 ?_
      refine g_aload_n dX12_ruleHere_86 rfl ?_
      refine g_iload dX12_ruleHere_87 rfl ?_
      refine g_if_lt 96 (by decide) dX12_ruleHere_89 (fun c11 => ?_) (fun c11 => ?_)
      · have h := g_ifp c11 h
        refine g_ic0 dX12_ruleHere_96 ?_
        obtain ⟨μ14, q13, h⟩ := g_bind h
        refine m_cVv mt_X12_needs ml_X12_187 mv_X12_needs dX12_ruleHere_97 (k_X12_needs q13) rfl rfl rfl rfl (by decide) ⟨Nat.le_refl _, Nat.le_refl _⟩ (Nat.le_of_ble_eq_true rfl) ?_
        refine g_aload_n dX12_ruleHere_100 rfl ?_
        refine g_aload_n dX12_ruleHere_101 rfl ?_
        refine g_bipush (v := 59) dX12_ruleHere_102 (by decide) ?_
        obtain ⟨x15, q16, h⟩ := g_bind h
        refine m_cV mt_X12_isByte ml_X12_194 mv_X12_isByte dX12_ruleHere_104 (k_X12_isByte q16) rfl rfl rfl rfl (by decide) ⟨Nat.le_refl _, Nat.le_refl _⟩ (Nat.le_of_ble_eq_true rfl) ?_
        obtain ⟨μ19, q18, h⟩ := g_bind h
        refine m_cVv mt_X12_needs ml_X12_187 mv_X12_needs dX12_ruleHere_107 (k_X12_needs q18) rfl rfl rfl rfl (by decide) ⟨Nat.le_refl _, Nat.le_refl _⟩ (Nat.le_of_ble_eq_true rfl) ?_
        refine g_aload_n dX12_ruleHere_110 rfl ?_
        refine m_getI fl_X12_169 rfl rfl dX12_ruleHere_111 ?_
        refine g_if_ne 168 (by decide) dX12_ruleHere_114 (fun c20 => ?_) (fun c20 => ?_)
        · have h := g_ifn c20 h
          obtain rfl := Option.some.inj h
          exact g_vret rfl (Nat.le_refl _) rfl dX12_ruleHere_168 ⟨rfl, rfl⟩
        · have h := g_ifp c20 h
          refine g_aload_n dX12_ruleHere_117 rfl ?_
          refine m_getR fl_X12_7 rfl rfl rfl dX12_ruleHere_118 ?_
          refine g_iload_n dX12_ruleHere_121 rfl ?_
          refine g_iload_n dX12_ruleHere_122 rfl ?_
          obtain ⟨μ21, qμ21, h⟩ := g_bind h
          refine m_iast rfl qμ21 dX12_ruleHere_123 ?_
          refine g_aload_n dX12_ruleHere_124 rfl ?_
          refine m_getR fl_X12_7 rfl rfl rfl dX12_ruleHere_125 ?_
          refine g_iload_n dX12_ruleHere_128 rfl ?_
          refine g_ic1 dX12_ruleHere_129 ?_
          refine g_iadd dX12_ruleHere_130 ?_
          refine g_iload dX12_ruleHere_131 rfl ?_
          obtain ⟨μ22, qμ22, h⟩ := g_bind h
          refine m_iast rfl qμ22 dX12_ruleHere_133 ?_
          refine g_aload_n dX12_ruleHere_134 rfl ?_
          refine m_getR fl_X12_7 rfl rfl rfl dX12_ruleHere_135 ?_
          refine g_iload_n dX12_ruleHere_138 rfl ?_
          refine g_ic2 dX12_ruleHere_139 ?_
          refine g_iadd dX12_ruleHere_140 ?_
          refine g_iload_n dX12_ruleHere_141 rfl ?_
          obtain ⟨μ23, qμ23, h⟩ := g_bind h
          refine m_iast rfl qμ23 dX12_ruleHere_142 ?_
          refine g_aload_n dX12_ruleHere_143 rfl ?_
          refine m_getR fl_X12_7 rfl rfl rfl dX12_ruleHere_144 ?_
          refine g_iload_n dX12_ruleHere_147 rfl ?_
          refine g_ic3 dX12_ruleHere_148 ?_
          refine g_iadd dX12_ruleHere_149 ?_
          refine g_aload_n dX12_ruleHere_150 rfl ?_
          refine m_getR fl_X12_7 rfl rfl rfl dX12_ruleHere_151 ?_
          refine g_bipush (v := 7) dX12_ruleHere_154 (by decide) ?_
          refine m_ialdc 7 rfl rfl (by decide) (by decide) dX12_ruleHere_156 ?_
          obtain ⟨μ24, qμ24, h⟩ := g_bind h
          refine m_iast rfl qμ24 dX12_ruleHere_157 ?_
          refine g_aload_n dX12_ruleHere_158 rfl ?_
          refine m_getR fl_X12_7 rfl rfl rfl dX12_ruleHere_159 ?_
          refine g_ic5 dX12_ruleHere_162 ?_
          refine g_dup2 dX12_ruleHere_163 rfl rfl ?_
          refine m_ialdc 5 rfl rfl (by decide) (by decide) dX12_ruleHere_164 ?_
          refine g_ic1 dX12_ruleHere_165 ?_
          refine g_iadd dX12_ruleHere_166 ?_
          obtain ⟨μ25, eμ25, h⟩ := g_let h
          refine m_iastc 5 rfl rfl (by decide) (by decide) dX12_ruleHere_167 eμ25 ?_
          obtain rfl := Option.some.inj h
          exact g_vret rfl (Nat.le_refl _) rfl dX12_ruleHere_168 ⟨rfl, rfl⟩
      · have h := g_ifn c11 h
        refine g_ic1 dX12_ruleHere_92 ?_
        refine g_goto 97 (by decide) dX12_ruleHere_93 ?_
        obtain ⟨μ28, q27, h⟩ := g_bind h
        refine m_cVv mt_X12_needs ml_X12_187 mv_X12_needs dX12_ruleHere_97 (k_X12_needs q27) rfl rfl rfl rfl (by decide) ⟨Nat.le_refl _, Nat.le_refl _⟩ (Nat.le_of_ble_eq_true rfl) ?_
        refine g_aload_n dX12_ruleHere_100 rfl ?_
        refine g_aload_n dX12_ruleHere_101 rfl ?_
        refine g_bipush (v := 59) dX12_ruleHere_102 (by decide) ?_
        obtain ⟨x29, q30, h⟩ := g_bind h
        refine m_cV mt_X12_isByte ml_X12_194 mv_X12_isByte dX12_ruleHere_104 (k_X12_isByte q30) rfl rfl rfl rfl (by decide) ⟨Nat.le_refl _, Nat.le_refl _⟩ (Nat.le_of_ble_eq_true rfl) ?_
        obtain ⟨μ33, q32, h⟩ := g_bind h
        refine m_cVv mt_X12_needs ml_X12_187 mv_X12_needs dX12_ruleHere_107 (k_X12_needs q32) rfl rfl rfl rfl (by decide) ⟨Nat.le_refl _, Nat.le_refl _⟩ (Nat.le_of_ble_eq_true rfl) ?_
        refine g_aload_n dX12_ruleHere_110 rfl ?_
        refine m_getI fl_X12_169 rfl rfl dX12_ruleHere_111 ?_
        refine g_if_ne 168 (by decide) dX12_ruleHere_114 (fun c34 => ?_) (fun c34 => ?_)
        · have h := g_ifn c34 h
          obtain rfl := Option.some.inj h
          exact g_vret rfl (Nat.le_refl _) rfl dX12_ruleHere_168 ⟨rfl, rfl⟩
        · have h := g_ifp c34 h
          refine g_aload_n dX12_ruleHere_117 rfl ?_
          refine m_getR fl_X12_7 rfl rfl rfl dX12_ruleHere_118 ?_
          refine g_iload_n dX12_ruleHere_121 rfl ?_
          refine g_iload_n dX12_ruleHere_122 rfl ?_
          obtain ⟨μ35, qμ35, h⟩ := g_bind h
          refine m_iast rfl qμ35 dX12_ruleHere_123 ?_
          refine g_aload_n dX12_ruleHere_124 rfl ?_
          refine m_getR fl_X12_7 rfl rfl rfl dX12_ruleHere_125 ?_
          refine g_iload_n dX12_ruleHere_128 rfl ?_
          refine g_ic1 dX12_ruleHere_129 ?_
          refine g_iadd dX12_ruleHere_130 ?_
          refine g_iload dX12_ruleHere_131 rfl ?_
          obtain ⟨μ36, qμ36, h⟩ := g_bind h
          refine m_iast rfl qμ36 dX12_ruleHere_133 ?_
          refine g_aload_n dX12_ruleHere_134 rfl ?_
          refine m_getR fl_X12_7 rfl rfl rfl dX12_ruleHere_135 ?_
          refine g_iload_n dX12_ruleHere_138 rfl ?_
          refine g_ic2 dX12_ruleHere_139 ?_
          refine g_iadd dX12_ruleHere_140 ?_
          refine g_iload_n dX12_ruleHere_141 rfl ?_
          obtain ⟨μ37, qμ37, h⟩ := g_bind h
          refine m_iast rfl qμ37 dX12_ruleHere_142 ?_
          refine g_aload_n dX12_ruleHere_143 rfl ?_
          refine m_getR fl_X12_7 rfl rfl rfl dX12_ruleHere_144 ?_
          refine g_iload_n dX12_ruleHere_147 rfl ?_
          refine g_ic3 dX12_ruleHere_148 ?_
          refine g_iadd dX12_ruleHere_149 ?_
          refine g_aload_n dX12_ruleHere_150 rfl ?_
          refine m_getR fl_X12_7 rfl rfl rfl dX12_ruleHere_151 ?_
          refine g_bipush (v := 7) dX12_ruleHere_154 (by decide) ?_
          refine m_ialdc 7 rfl rfl (by decide) (by decide) dX12_ruleHere_156 ?_
          obtain ⟨μ38, qμ38, h⟩ := g_bind h
          refine m_iast rfl qμ38 dX12_ruleHere_157 ?_
          refine g_aload_n dX12_ruleHere_158 rfl ?_
          refine m_getR fl_X12_7 rfl rfl rfl dX12_ruleHere_159 ?_
          refine g_ic5 dX12_ruleHere_162 ?_
          refine g_dup2 dX12_ruleHere_163 rfl rfl ?_
          refine m_ialdc 5 rfl rfl (by decide) (by decide) dX12_ruleHere_164 ?_
          refine g_ic1 dX12_ruleHere_165 ?_
          refine g_iadd dX12_ruleHere_166 ?_
          obtain ⟨μ39, eμ39, h⟩ := g_let h
          refine m_iastc 5 rfl rfl (by decide) (by decide) dX12_ruleHere_167 eμ39 ?_
          obtain rfl := Option.some.inj h
          exact g_vret rfl (Nat.le_refl _) rfl dX12_ruleHere_168 ⟨rfl, rfl⟩
    · have h := g_ifp c8 h
      refine g_aload_n dX12_ruleHere_56 rfl ?_
      refine g_bipush (v := 105) dX12_ruleHere_57 (by decide) ?_
      refine g_bipush (v := 102) dX12_ruleHere_59 (by decide) ?_
      obtain ⟨x40, q41, h⟩ := g_bind h
      refine m_cV mt_X12_isTwo ml_X12_216 mv_X12_isTwo dX12_ruleHere_61 (k_X12_isTwo q41) rfl rfl rfl rfl (by decide) ⟨Nat.le_refl _, Nat.le_refl _⟩ (Nat.le_of_ble_eq_true rfl) ?_
      refine g_if_eq 80 (by decide) dX12_ruleHere_64 (fun c42 => ?_) (fun c42 => ?_)
      · have h := g_ifp c42 h
        refine g_aload_n dX12_ruleHere_80 rfl ?_
        obtain ⟨x43, q44, h⟩ := g_bind h
        refine m_cV mt_X12_doHere ml_X12_222 mv_X12_doHere dX12_ruleHere_81 (k_X12_doHere q44) rfl rfl rfl rfl (by decide) ⟨Nat.le_refl _, Nat.le_refl _⟩ (Nat.le_of_ble_eq_true rfl) ?_
        refine g_istore_4 rfl (Nat.le_of_ble_eq_true rfl) dX12_ruleHere_84 ?_
        refine g_aload_n dX12_ruleHere_86 rfl ?_
        refine g_iload dX12_ruleHere_87 rfl ?_
        refine g_if_lt 96 (by decide) dX12_ruleHere_89 (fun c45 => ?_) (fun c45 => ?_)
        · have h := g_ifp c45 h
          refine g_ic0 dX12_ruleHere_96 ?_
          obtain ⟨μ48, q47, h⟩ := g_bind h
          refine m_cVv mt_X12_needs ml_X12_187 mv_X12_needs dX12_ruleHere_97 (k_X12_needs q47) rfl rfl rfl rfl (by decide) ⟨Nat.le_refl _, Nat.le_refl _⟩ (Nat.le_of_ble_eq_true rfl) ?_
          refine g_aload_n dX12_ruleHere_100 rfl ?_
          refine g_aload_n dX12_ruleHere_101 rfl ?_
          refine g_bipush (v := 59) dX12_ruleHere_102 (by decide) ?_
          obtain ⟨x49, q50, h⟩ := g_bind h
          refine m_cV mt_X12_isByte ml_X12_194 mv_X12_isByte dX12_ruleHere_104 (k_X12_isByte q50) rfl rfl rfl rfl (by decide) ⟨Nat.le_refl _, Nat.le_refl _⟩ (Nat.le_of_ble_eq_true rfl) ?_
          obtain ⟨μ53, q52, h⟩ := g_bind h
          refine m_cVv mt_X12_needs ml_X12_187 mv_X12_needs dX12_ruleHere_107 (k_X12_needs q52) rfl rfl rfl rfl (by decide) ⟨Nat.le_refl _, Nat.le_refl _⟩ (Nat.le_of_ble_eq_true rfl) ?_
          refine g_aload_n dX12_ruleHere_110 rfl ?_
          refine m_getI fl_X12_169 rfl rfl dX12_ruleHere_111 ?_
          refine g_if_ne 168 (by decide) dX12_ruleHere_114 (fun c54 => ?_) (fun c54 => ?_)
          · have h := g_ifn c54 h
            obtain rfl := Option.some.inj h
            exact g_vret rfl (Nat.le_refl _) rfl dX12_ruleHere_168 ⟨rfl, rfl⟩
          · have h := g_ifp c54 h
            refine g_aload_n dX12_ruleHere_117 rfl ?_
            refine m_getR fl_X12_7 rfl rfl rfl dX12_ruleHere_118 ?_
            refine g_iload_n dX12_ruleHere_121 rfl ?_
            refine g_iload_n dX12_ruleHere_122 rfl ?_
            obtain ⟨μ55, qμ55, h⟩ := g_bind h
            refine m_iast rfl qμ55 dX12_ruleHere_123 ?_
            refine g_aload_n dX12_ruleHere_124 rfl ?_
            refine m_getR fl_X12_7 rfl rfl rfl dX12_ruleHere_125 ?_
            refine g_iload_n dX12_ruleHere_128 rfl ?_
            refine g_ic1 dX12_ruleHere_129 ?_
            refine g_iadd dX12_ruleHere_130 ?_
            refine g_iload dX12_ruleHere_131 rfl ?_
            obtain ⟨μ56, qμ56, h⟩ := g_bind h
            refine m_iast rfl qμ56 dX12_ruleHere_133 ?_
            refine g_aload_n dX12_ruleHere_134 rfl ?_
            refine m_getR fl_X12_7 rfl rfl rfl dX12_ruleHere_135 ?_
            refine g_iload_n dX12_ruleHere_138 rfl ?_
            refine g_ic2 dX12_ruleHere_139 ?_
            refine g_iadd dX12_ruleHere_140 ?_
            refine g_iload_n dX12_ruleHere_141 rfl ?_
            obtain ⟨μ57, qμ57, h⟩ := g_bind h
            refine m_iast rfl qμ57 dX12_ruleHere_142 ?_
            refine g_aload_n dX12_ruleHere_143 rfl ?_
            refine m_getR fl_X12_7 rfl rfl rfl dX12_ruleHere_144 ?_
            refine g_iload_n dX12_ruleHere_147 rfl ?_
            refine g_ic3 dX12_ruleHere_148 ?_
            refine g_iadd dX12_ruleHere_149 ?_
            refine g_aload_n dX12_ruleHere_150 rfl ?_
            refine m_getR fl_X12_7 rfl rfl rfl dX12_ruleHere_151 ?_
            refine g_bipush (v := 7) dX12_ruleHere_154 (by decide) ?_
            refine m_ialdc 7 rfl rfl (by decide) (by decide) dX12_ruleHere_156 ?_
            obtain ⟨μ58, qμ58, h⟩ := g_bind h
            refine m_iast rfl qμ58 dX12_ruleHere_157 ?_
            refine g_aload_n dX12_ruleHere_158 rfl ?_
            refine m_getR fl_X12_7 rfl rfl rfl dX12_ruleHere_159 ?_
            refine g_ic5 dX12_ruleHere_162 ?_
            refine g_dup2 dX12_ruleHere_163 rfl rfl ?_
            refine m_ialdc 5 rfl rfl (by decide) (by decide) dX12_ruleHere_164 ?_
            refine g_ic1 dX12_ruleHere_165 ?_
            refine g_iadd dX12_ruleHere_166 ?_
            obtain ⟨μ59, eμ59, h⟩ := g_let h
            refine m_iastc 5 rfl rfl (by decide) (by decide) dX12_ruleHere_167 eμ59 ?_
            obtain rfl := Option.some.inj h
            exact g_vret rfl (Nat.le_refl _) rfl dX12_ruleHere_168 ⟨rfl, rfl⟩
        · have h := g_ifn c45 h
          refine g_ic1 dX12_ruleHere_92 ?_
          refine g_goto 97 (by decide) dX12_ruleHere_93 ?_
          obtain ⟨μ62, q61, h⟩ := g_bind h
          refine m_cVv mt_X12_needs ml_X12_187 mv_X12_needs dX12_ruleHere_97 (k_X12_needs q61) rfl rfl rfl rfl (by decide) ⟨Nat.le_refl _, Nat.le_refl _⟩ (Nat.le_of_ble_eq_true rfl) ?_
          refine g_aload_n dX12_ruleHere_100 rfl ?_
          refine g_aload_n dX12_ruleHere_101 rfl ?_
          refine g_bipush (v := 59) dX12_ruleHere_102 (by decide) ?_
          obtain ⟨x63, q64, h⟩ := g_bind h
          refine m_cV mt_X12_isByte ml_X12_194 mv_X12_isByte dX12_ruleHere_104 (k_X12_isByte q64) rfl rfl rfl rfl (by decide) ⟨Nat.le_refl _, Nat.le_refl _⟩ (Nat.le_of_ble_eq_true rfl) ?_
          obtain ⟨μ67, q66, h⟩ := g_bind h
          refine m_cVv mt_X12_needs ml_X12_187 mv_X12_needs dX12_ruleHere_107 (k_X12_needs q66) rfl rfl rfl rfl (by decide) ⟨Nat.le_refl _, Nat.le_refl _⟩ (Nat.le_of_ble_eq_true rfl) ?_
          refine g_aload_n dX12_ruleHere_110 rfl ?_
          refine m_getI fl_X12_169 rfl rfl dX12_ruleHere_111 ?_
          refine g_if_ne 168 (by decide) dX12_ruleHere_114 (fun c68 => ?_) (fun c68 => ?_)
          · have h := g_ifn c68 h
            obtain rfl := Option.some.inj h
            exact g_vret rfl (Nat.le_refl _) rfl dX12_ruleHere_168 ⟨rfl, rfl⟩
          · have h := g_ifp c68 h
            refine g_aload_n dX12_ruleHere_117 rfl ?_
            refine m_getR fl_X12_7 rfl rfl rfl dX12_ruleHere_118 ?_
            refine g_iload_n dX12_ruleHere_121 rfl ?_
            refine g_iload_n dX12_ruleHere_122 rfl ?_
            obtain ⟨μ69, qμ69, h⟩ := g_bind h
            refine m_iast rfl qμ69 dX12_ruleHere_123 ?_
            refine g_aload_n dX12_ruleHere_124 rfl ?_
            refine m_getR fl_X12_7 rfl rfl rfl dX12_ruleHere_125 ?_
            refine g_iload_n dX12_ruleHere_128 rfl ?_
            refine g_ic1 dX12_ruleHere_129 ?_
            refine g_iadd dX12_ruleHere_130 ?_
            refine g_iload dX12_ruleHere_131 rfl ?_
            obtain ⟨μ70, qμ70, h⟩ := g_bind h
            refine m_iast rfl qμ70 dX12_ruleHere_133 ?_
            refine g_aload_n dX12_ruleHere_134 rfl ?_
            refine m_getR fl_X12_7 rfl rfl rfl dX12_ruleHere_135 ?_
            refine g_iload_n dX12_ruleHere_138 rfl ?_
            refine g_ic2 dX12_ruleHere_139 ?_
            refine g_iadd dX12_ruleHere_140 ?_
            refine g_iload_n dX12_ruleHere_141 rfl ?_
            obtain ⟨μ71, qμ71, h⟩ := g_bind h
            refine m_iast rfl qμ71 dX12_ruleHere_142 ?_
            refine g_aload_n dX12_ruleHere_143 rfl ?_
            refine m_getR fl_X12_7 rfl rfl rfl dX12_ruleHere_144 ?_
            refine g_iload_n dX12_ruleHere_147 rfl ?_
            refine g_ic3 dX12_ruleHere_148 ?_
            refine g_iadd dX12_ruleHere_149 ?_
            refine g_aload_n dX12_ruleHere_150 rfl ?_
            refine m_getR fl_X12_7 rfl rfl rfl dX12_ruleHere_151 ?_
            refine g_bipush (v := 7) dX12_ruleHere_154 (by decide) ?_
            refine m_ialdc 7 rfl rfl (by decide) (by decide) dX12_ruleHere_156 ?_
            obtain ⟨μ72, qμ72, h⟩ := g_bind h
            refine m_iast rfl qμ72 dX12_ruleHere_157 ?_
            refine g_aload_n dX12_ruleHere_158 rfl ?_
            refine m_getR fl_X12_7 rfl rfl rfl dX12_ruleHere_159 ?_
            refine g_ic5 dX12_ruleHere_162 ?_
            refine g_dup2 dX12_ruleHere_163 rfl rfl ?_
            refine m_ialdc 5 rfl rfl (by decide) (by decide) dX12_ruleHere_164 ?_
            refine g_ic1 dX12_ruleHere_165 ?_
            refine g_iadd dX12_ruleHere_166 ?_
            obtain ⟨μ73, eμ73, h⟩ := g_let h
            refine m_iastc 5 rfl rfl (by decide) (by decide) dX12_ruleHere_167 eμ73 ?_
            obtain rfl := Option.some.inj h
            exact g_vret rfl (Nat.le_refl _) rfl dX12_ruleHere_168 ⟨rfl, rfl⟩
      · have h := g_ifn c42 h
        refine g_aload_n dX12_ruleHere_67 rfl ?_
        obtain ⟨μ76, q75, h⟩ := g_bind h
        refine m_cVv mt_X12_nextToken ml_X12_173 mv_X12_nextToken dX12_ruleHere_68 (k_X12_nextToken q75) rfl rfl rfl rfl (by decide) ⟨Nat.le_refl _, Nat.le_refl _⟩ (Nat.le_of_ble_eq_true rfl) ?_
        refine g_aload_n dX12_ruleHere_71 rfl ?_
        refine g_ic0 dX12_ruleHere_72 ?_
        obtain ⟨μ77, eμ77, h⟩ := g_let h
        refine m_putI fl_X12_201 fw_12_13 rfl rfl rfl rfl dX12_ruleHere_73 eμ77 ?_
        refine g_aload_n dX12_ruleHere_76 rfl ?_
        obtain ⟨μ80, q79, h⟩ := g_bind h
        refine m_cVv mt_X12_condHere ml_X12_204 mv_X12_condHere dX12_ruleHere_77 (k_X12_condHere _ _ _ q79) rfl rfl rfl rfl (by decide) ⟨Nat.le_refl _, Nat.le_refl _⟩ (Nat.le_of_ble_eq_true rfl) ?_
        refine g_aload_n dX12_ruleHere_80 rfl ?_
        obtain ⟨x81, q82, h⟩ := g_bind h
        refine m_cV mt_X12_doHere ml_X12_222 mv_X12_doHere dX12_ruleHere_81 (k_X12_doHere q82) rfl rfl rfl rfl (by decide) ⟨Nat.le_refl _, Nat.le_refl _⟩ (Nat.le_of_ble_eq_true rfl) ?_
        refine g_istore_4 rfl (Nat.le_of_ble_eq_true rfl) dX12_ruleHere_84 ?_
        refine g_aload_n dX12_ruleHere_86 rfl ?_
        refine g_iload dX12_ruleHere_87 rfl ?_
        refine g_if_lt 96 (by decide) dX12_ruleHere_89 (fun c83 => ?_) (fun c83 => ?_)
        · have h := g_ifp c83 h
          refine g_ic0 dX12_ruleHere_96 ?_
          obtain ⟨μ86, q85, h⟩ := g_bind h
          refine m_cVv mt_X12_needs ml_X12_187 mv_X12_needs dX12_ruleHere_97 (k_X12_needs q85) rfl rfl rfl rfl (by decide) ⟨Nat.le_refl _, Nat.le_refl _⟩ (Nat.le_of_ble_eq_true rfl) ?_
          refine g_aload_n dX12_ruleHere_100 rfl ?_
          refine g_aload_n dX12_ruleHere_101 rfl ?_
          refine g_bipush (v := 59) dX12_ruleHere_102 (by decide) ?_
          obtain ⟨x87, q88, h⟩ := g_bind h
          refine m_cV mt_X12_isByte ml_X12_194 mv_X12_isByte dX12_ruleHere_104 (k_X12_isByte q88) rfl rfl rfl rfl (by decide) ⟨Nat.le_refl _, Nat.le_refl _⟩ (Nat.le_of_ble_eq_true rfl) ?_
          obtain ⟨μ91, q90, h⟩ := g_bind h
          refine m_cVv mt_X12_needs ml_X12_187 mv_X12_needs dX12_ruleHere_107 (k_X12_needs q90) rfl rfl rfl rfl (by decide) ⟨Nat.le_refl _, Nat.le_refl _⟩ (Nat.le_of_ble_eq_true rfl) ?_
          refine g_aload_n dX12_ruleHere_110 rfl ?_
          refine m_getI fl_X12_169 rfl rfl dX12_ruleHere_111 ?_
          refine g_if_ne 168 (by decide) dX12_ruleHere_114 (fun c92 => ?_) (fun c92 => ?_)
          · have h := g_ifn c92 h
            obtain rfl := Option.some.inj h
            exact g_vret rfl (Nat.le_refl _) rfl dX12_ruleHere_168 ⟨rfl, rfl⟩
          · have h := g_ifp c92 h
            refine g_aload_n dX12_ruleHere_117 rfl ?_
            refine m_getR fl_X12_7 rfl rfl rfl dX12_ruleHere_118 ?_
            refine g_iload_n dX12_ruleHere_121 rfl ?_
            refine g_iload_n dX12_ruleHere_122 rfl ?_
            obtain ⟨μ93, qμ93, h⟩ := g_bind h
            refine m_iast rfl qμ93 dX12_ruleHere_123 ?_
            refine g_aload_n dX12_ruleHere_124 rfl ?_
            refine m_getR fl_X12_7 rfl rfl rfl dX12_ruleHere_125 ?_
            refine g_iload_n dX12_ruleHere_128 rfl ?_
            refine g_ic1 dX12_ruleHere_129 ?_
            refine g_iadd dX12_ruleHere_130 ?_
            refine g_iload dX12_ruleHere_131 rfl ?_
            obtain ⟨μ94, qμ94, h⟩ := g_bind h
            refine m_iast rfl qμ94 dX12_ruleHere_133 ?_
            refine g_aload_n dX12_ruleHere_134 rfl ?_
            refine m_getR fl_X12_7 rfl rfl rfl dX12_ruleHere_135 ?_
            refine g_iload_n dX12_ruleHere_138 rfl ?_
            refine g_ic2 dX12_ruleHere_139 ?_
            refine g_iadd dX12_ruleHere_140 ?_
            refine g_iload_n dX12_ruleHere_141 rfl ?_
            obtain ⟨μ95, qμ95, h⟩ := g_bind h
            refine m_iast rfl qμ95 dX12_ruleHere_142 ?_
            refine g_aload_n dX12_ruleHere_143 rfl ?_
            refine m_getR fl_X12_7 rfl rfl rfl dX12_ruleHere_144 ?_
            refine g_iload_n dX12_ruleHere_147 rfl ?_
            refine g_ic3 dX12_ruleHere_148 ?_
            refine g_iadd dX12_ruleHere_149 ?_
            refine g_aload_n dX12_ruleHere_150 rfl ?_
            refine m_getR fl_X12_7 rfl rfl rfl dX12_ruleHere_151 ?_
            refine g_bipush (v := 7) dX12_ruleHere_154 (by decide) ?_
            refine m_ialdc 7 rfl rfl (by decide) (by decide) dX12_ruleHere_156 ?_
            obtain ⟨μ96, qμ96, h⟩ := g_bind h
            refine m_iast rfl qμ96 dX12_ruleHere_157 ?_
            refine g_aload_n dX12_ruleHere_158 rfl ?_
            refine m_getR fl_X12_7 rfl rfl rfl dX12_ruleHere_159 ?_
            refine g_ic5 dX12_ruleHere_162 ?_
            refine g_dup2 dX12_ruleHere_163 rfl rfl ?_
            refine m_ialdc 5 rfl rfl (by decide) (by decide) dX12_ruleHere_164 ?_
            refine g_ic1 dX12_ruleHere_165 ?_
            refine g_iadd dX12_ruleHere_166 ?_
            obtain ⟨μ97, eμ97, h⟩ := g_let h
            refine m_iastc 5 rfl rfl (by decide) (by decide) dX12_ruleHere_167 eμ97 ?_
            obtain rfl := Option.some.inj h
            exact g_vret rfl (Nat.le_refl _) rfl dX12_ruleHere_168 ⟨rfl, rfl⟩
        · have h := g_ifn c83 h
          refine g_ic1 dX12_ruleHere_92 ?_
          refine g_goto 97 (by decide) dX12_ruleHere_93 ?_
          obtain ⟨μ100, q99, h⟩ := g_bind h
          refine m_cVv mt_X12_needs ml_X12_187 mv_X12_needs dX12_ruleHere_97 (k_X12_needs q99) rfl rfl rfl rfl (by decide) ⟨Nat.le_refl _, Nat.le_refl _⟩ (Nat.le_of_ble_eq_true rfl) ?_
          refine g_aload_n dX12_ruleHere_100 rfl ?_
          refine g_aload_n dX12_ruleHere_101 rfl ?_
          refine g_bipush (v := 59) dX12_ruleHere_102 (by decide) ?_
          obtain ⟨x101, q102, h⟩ := g_bind h
          refine m_cV mt_X12_isByte ml_X12_194 mv_X12_isByte dX12_ruleHere_104 (k_X12_isByte q102) rfl rfl rfl rfl (by decide) ⟨Nat.le_refl _, Nat.le_refl _⟩ (Nat.le_of_ble_eq_true rfl) ?_
          obtain ⟨μ105, q104, h⟩ := g_bind h
          refine m_cVv mt_X12_needs ml_X12_187 mv_X12_needs dX12_ruleHere_107 (k_X12_needs q104) rfl rfl rfl rfl (by decide) ⟨Nat.le_refl _, Nat.le_refl _⟩ (Nat.le_of_ble_eq_true rfl) ?_
          refine g_aload_n dX12_ruleHere_110 rfl ?_
          refine m_getI fl_X12_169 rfl rfl dX12_ruleHere_111 ?_
          refine g_if_ne 168 (by decide) dX12_ruleHere_114 (fun c106 => ?_) (fun c106 => ?_)
          · have h := g_ifn c106 h
            obtain rfl := Option.some.inj h
            exact g_vret rfl (Nat.le_refl _) rfl dX12_ruleHere_168 ⟨rfl, rfl⟩
          · have h := g_ifp c106 h
            refine g_aload_n dX12_ruleHere_117 rfl ?_
            refine m_getR fl_X12_7 rfl rfl rfl dX12_ruleHere_118 ?_
            refine g_iload_n dX12_ruleHere_121 rfl ?_
            refine g_iload_n dX12_ruleHere_122 rfl ?_
            obtain ⟨μ107, qμ107, h⟩ := g_bind h
            refine m_iast rfl qμ107 dX12_ruleHere_123 ?_
            refine g_aload_n dX12_ruleHere_124 rfl ?_
            refine m_getR fl_X12_7 rfl rfl rfl dX12_ruleHere_125 ?_
            refine g_iload_n dX12_ruleHere_128 rfl ?_
            refine g_ic1 dX12_ruleHere_129 ?_
            refine g_iadd dX12_ruleHere_130 ?_
            refine g_iload dX12_ruleHere_131 rfl ?_
            obtain ⟨μ108, qμ108, h⟩ := g_bind h
            refine m_iast rfl qμ108 dX12_ruleHere_133 ?_
            refine g_aload_n dX12_ruleHere_134 rfl ?_
            refine m_getR fl_X12_7 rfl rfl rfl dX12_ruleHere_135 ?_
            refine g_iload_n dX12_ruleHere_138 rfl ?_
            refine g_ic2 dX12_ruleHere_139 ?_
            refine g_iadd dX12_ruleHere_140 ?_
            refine g_iload_n dX12_ruleHere_141 rfl ?_
            obtain ⟨μ109, qμ109, h⟩ := g_bind h
            refine m_iast rfl qμ109 dX12_ruleHere_142 ?_
            refine g_aload_n dX12_ruleHere_143 rfl ?_
            refine m_getR fl_X12_7 rfl rfl rfl dX12_ruleHere_144 ?_
            refine g_iload_n dX12_ruleHere_147 rfl ?_
            refine g_ic3 dX12_ruleHere_148 ?_
            refine g_iadd dX12_ruleHere_149 ?_
            refine g_aload_n dX12_ruleHere_150 rfl ?_
            refine m_getR fl_X12_7 rfl rfl rfl dX12_ruleHere_151 ?_
            refine g_bipush (v := 7) dX12_ruleHere_154 (by decide) ?_
            refine m_ialdc 7 rfl rfl (by decide) (by decide) dX12_ruleHere_156 ?_
            obtain ⟨μ110, qμ110, h⟩ := g_bind h
            refine m_iast rfl qμ110 dX12_ruleHere_157 ?_
            refine g_aload_n dX12_ruleHere_158 rfl ?_
            refine m_getR fl_X12_7 rfl rfl rfl dX12_ruleHere_159 ?_
            refine g_ic5 dX12_ruleHere_162 ?_
            refine g_dup2 dX12_ruleHere_163 rfl rfl ?_
            refine m_ialdc 5 rfl rfl (by decide) (by decide) dX12_ruleHere_164 ?_
            refine g_ic1 dX12_ruleHere_165 ?_
            refine g_iadd dX12_ruleHere_166 ?_
            obtain ⟨μ111, eμ111, h⟩ := g_let h
            refine m_iastc 5 rfl rfl (by decide) (by decide) dX12_ruleHere_167 eμ111 ?_
            obtain rfl := Option.some.inj h
            exact g_vret rfl (Nat.le_refl _) rfl dX12_ruleHere_168 ⟨rfl, rfl⟩
  · have h := g_ifn c4 h
    refine g_aload_n dX12_ruleHere_22 rfl ?_
    refine m_getR fl_X12_7 rfl rfl rfl dX12_ruleHere_23 ?_
    refine g_ic5 dX12_ruleHere_26 ?_
    refine m_ialdc 5 rfl rfl (by decide) (by decide) dX12_ruleHere_27 ?_
    refine g_bipush (v := 8) dX12_ruleHere_28 (by decide) ?_
    refine g_icmp_ge 37 (by decide) dX12_ruleHere_30 (fun c112 => ?_) (fun c112 => ?_)
    · have h := g_ifp c112 h
      refine g_ic0 dX12_ruleHere_37 ?_
      obtain ⟨μ115, q114, h⟩ := g_bind h
      refine m_cVv mt_X12_needs ml_X12_187 mv_X12_needs dX12_ruleHere_38 (k_X12_needs q114) rfl rfl rfl rfl (by decide) ⟨Nat.le_refl _, Nat.le_refl _⟩ (Nat.le_of_ble_eq_true rfl) ?_
      refine g_aload_n dX12_ruleHere_41 rfl ?_
      refine m_getR fl_X12_7 rfl rfl rfl dX12_ruleHere_42 ?_
      refine g_bipush (v := 7) dX12_ruleHere_45 (by decide) ?_
      refine m_ialdc 7 rfl rfl (by decide) (by decide) dX12_ruleHere_47 ?_
      refine g_istore_3 rfl (Nat.le_of_ble_eq_true rfl) dX12_ruleHere_48 ?_
      refine g_aload_n dX12_ruleHere_49 rfl ?_
      refine m_getI fl_X12_169 rfl rfl dX12_ruleHere_50 ?_
      refine g_if_ne 80 (by decide) dX12_ruleHere_53 (fun c116 => ?_) (fun c116 => ?_)
      · have h := g_ifn c116 h
        refine g_aload_n dX12_ruleHere_80 rfl ?_
        obtain ⟨x117, q118, h⟩ := g_bind h
        refine m_cV mt_X12_doHere ml_X12_222 mv_X12_doHere dX12_ruleHere_81 (k_X12_doHere q118) rfl rfl rfl rfl (by decide) ⟨Nat.le_refl _, Nat.le_refl _⟩ (Nat.le_of_ble_eq_true rfl) ?_
        refine g_istore_4 rfl (Nat.le_of_ble_eq_true rfl) dX12_ruleHere_84 ?_
        refine g_aload_n dX12_ruleHere_86 rfl ?_
        refine g_iload dX12_ruleHere_87 rfl ?_
        refine g_if_lt 96 (by decide) dX12_ruleHere_89 (fun c119 => ?_) (fun c119 => ?_)
        · have h := g_ifp c119 h
          refine g_ic0 dX12_ruleHere_96 ?_
          obtain ⟨μ122, q121, h⟩ := g_bind h
          refine m_cVv mt_X12_needs ml_X12_187 mv_X12_needs dX12_ruleHere_97 (k_X12_needs q121) rfl rfl rfl rfl (by decide) ⟨Nat.le_refl _, Nat.le_refl _⟩ (Nat.le_of_ble_eq_true rfl) ?_
          refine g_aload_n dX12_ruleHere_100 rfl ?_
          refine g_aload_n dX12_ruleHere_101 rfl ?_
          refine g_bipush (v := 59) dX12_ruleHere_102 (by decide) ?_
          obtain ⟨x123, q124, h⟩ := g_bind h
          refine m_cV mt_X12_isByte ml_X12_194 mv_X12_isByte dX12_ruleHere_104 (k_X12_isByte q124) rfl rfl rfl rfl (by decide) ⟨Nat.le_refl _, Nat.le_refl _⟩ (Nat.le_of_ble_eq_true rfl) ?_
          obtain ⟨μ127, q126, h⟩ := g_bind h
          refine m_cVv mt_X12_needs ml_X12_187 mv_X12_needs dX12_ruleHere_107 (k_X12_needs q126) rfl rfl rfl rfl (by decide) ⟨Nat.le_refl _, Nat.le_refl _⟩ (Nat.le_of_ble_eq_true rfl) ?_
          refine g_aload_n dX12_ruleHere_110 rfl ?_
          refine m_getI fl_X12_169 rfl rfl dX12_ruleHere_111 ?_
          refine g_if_ne 168 (by decide) dX12_ruleHere_114 (fun c128 => ?_) (fun c128 => ?_)
          · have h := g_ifn c128 h
            obtain rfl := Option.some.inj h
            exact g_vret rfl (Nat.le_refl _) rfl dX12_ruleHere_168 ⟨rfl, rfl⟩
          · have h := g_ifp c128 h
            refine g_aload_n dX12_ruleHere_117 rfl ?_
            refine m_getR fl_X12_7 rfl rfl rfl dX12_ruleHere_118 ?_
            refine g_iload_n dX12_ruleHere_121 rfl ?_
            refine g_iload_n dX12_ruleHere_122 rfl ?_
            obtain ⟨μ129, qμ129, h⟩ := g_bind h
            refine m_iast rfl qμ129 dX12_ruleHere_123 ?_
            refine g_aload_n dX12_ruleHere_124 rfl ?_
            refine m_getR fl_X12_7 rfl rfl rfl dX12_ruleHere_125 ?_
            refine g_iload_n dX12_ruleHere_128 rfl ?_
            refine g_ic1 dX12_ruleHere_129 ?_
            refine g_iadd dX12_ruleHere_130 ?_
            refine g_iload dX12_ruleHere_131 rfl ?_
            obtain ⟨μ130, qμ130, h⟩ := g_bind h
            refine m_iast rfl qμ130 dX12_ruleHere_133 ?_
            refine g_aload_n dX12_ruleHere_134 rfl ?_
            refine m_getR fl_X12_7 rfl rfl rfl dX12_ruleHere_135 ?_
            refine g_iload_n dX12_ruleHere_138 rfl ?_
            refine g_ic2 dX12_ruleHere_139 ?_
            refine g_iadd dX12_ruleHere_140 ?_
            refine g_iload_n dX12_ruleHere_141 rfl ?_
            obtain ⟨μ131, qμ131, h⟩ := g_bind h
            refine m_iast rfl qμ131 dX12_ruleHere_142 ?_
            refine g_aload_n dX12_ruleHere_143 rfl ?_
            refine m_getR fl_X12_7 rfl rfl rfl dX12_ruleHere_144 ?_
            refine g_iload_n dX12_ruleHere_147 rfl ?_
            refine g_ic3 dX12_ruleHere_148 ?_
            refine g_iadd dX12_ruleHere_149 ?_
            refine g_aload_n dX12_ruleHere_150 rfl ?_
            refine m_getR fl_X12_7 rfl rfl rfl dX12_ruleHere_151 ?_
            refine g_bipush (v := 7) dX12_ruleHere_154 (by decide) ?_
            refine m_ialdc 7 rfl rfl (by decide) (by decide) dX12_ruleHere_156 ?_
            obtain ⟨μ132, qμ132, h⟩ := g_bind h
            refine m_iast rfl qμ132 dX12_ruleHere_157 ?_
            refine g_aload_n dX12_ruleHere_158 rfl ?_
            refine m_getR fl_X12_7 rfl rfl rfl dX12_ruleHere_159 ?_
            refine g_ic5 dX12_ruleHere_162 ?_
            refine g_dup2 dX12_ruleHere_163 rfl rfl ?_
            refine m_ialdc 5 rfl rfl (by decide) (by decide) dX12_ruleHere_164 ?_
            refine g_ic1 dX12_ruleHere_165 ?_
            refine g_iadd dX12_ruleHere_166 ?_
            obtain ⟨μ133, eμ133, h⟩ := g_let h
            refine m_iastc 5 rfl rfl (by decide) (by decide) dX12_ruleHere_167 eμ133 ?_
            obtain rfl := Option.some.inj h
            exact g_vret rfl (Nat.le_refl _) rfl dX12_ruleHere_168 ⟨rfl, rfl⟩
        · have h := g_ifn c119 h
          refine g_ic1 dX12_ruleHere_92 ?_
          refine g_goto 97 (by decide) dX12_ruleHere_93 ?_
          obtain ⟨μ136, q135, h⟩ := g_bind h
          refine m_cVv mt_X12_needs ml_X12_187 mv_X12_needs dX12_ruleHere_97 (k_X12_needs q135) rfl rfl rfl rfl (by decide) ⟨Nat.le_refl _, Nat.le_refl _⟩ (Nat.le_of_ble_eq_true rfl) ?_
          refine g_aload_n dX12_ruleHere_100 rfl ?_
          refine g_aload_n dX12_ruleHere_101 rfl ?_
          refine g_bipush (v := 59) dX12_ruleHere_102 (by decide) ?_
          obtain ⟨x137, q138, h⟩ := g_bind h
          refine m_cV mt_X12_isByte ml_X12_194 mv_X12_isByte dX12_ruleHere_104 (k_X12_isByte q138) rfl rfl rfl rfl (by decide) ⟨Nat.le_refl _, Nat.le_refl _⟩ (Nat.le_of_ble_eq_true rfl) ?_
          obtain ⟨μ141, q140, h⟩ := g_bind h
          refine m_cVv mt_X12_needs ml_X12_187 mv_X12_needs dX12_ruleHere_107 (k_X12_needs q140) rfl rfl rfl rfl (by decide) ⟨Nat.le_refl _, Nat.le_refl _⟩ (Nat.le_of_ble_eq_true rfl) ?_
          refine g_aload_n dX12_ruleHere_110 rfl ?_
          refine m_getI fl_X12_169 rfl rfl dX12_ruleHere_111 ?_
          refine g_if_ne 168 (by decide) dX12_ruleHere_114 (fun c142 => ?_) (fun c142 => ?_)
          · have h := g_ifn c142 h
            obtain rfl := Option.some.inj h
            exact g_vret rfl (Nat.le_refl _) rfl dX12_ruleHere_168 ⟨rfl, rfl⟩
          · have h := g_ifp c142 h
            refine g_aload_n dX12_ruleHere_117 rfl ?_
            refine m_getR fl_X12_7 rfl rfl rfl dX12_ruleHere_118 ?_
            refine g_iload_n dX12_ruleHere_121 rfl ?_
            refine g_iload_n dX12_ruleHere_122 rfl ?_
            obtain ⟨μ143, qμ143, h⟩ := g_bind h
            refine m_iast rfl qμ143 dX12_ruleHere_123 ?_
            refine g_aload_n dX12_ruleHere_124 rfl ?_
            refine m_getR fl_X12_7 rfl rfl rfl dX12_ruleHere_125 ?_
            refine g_iload_n dX12_ruleHere_128 rfl ?_
            refine g_ic1 dX12_ruleHere_129 ?_
            refine g_iadd dX12_ruleHere_130 ?_
            refine g_iload dX12_ruleHere_131 rfl ?_
            obtain ⟨μ144, qμ144, h⟩ := g_bind h
            refine m_iast rfl qμ144 dX12_ruleHere_133 ?_
            refine g_aload_n dX12_ruleHere_134 rfl ?_
            refine m_getR fl_X12_7 rfl rfl rfl dX12_ruleHere_135 ?_
            refine g_iload_n dX12_ruleHere_138 rfl ?_
            refine g_ic2 dX12_ruleHere_139 ?_
            refine g_iadd dX12_ruleHere_140 ?_
            refine g_iload_n dX12_ruleHere_141 rfl ?_
            obtain ⟨μ145, qμ145, h⟩ := g_bind h
            refine m_iast rfl qμ145 dX12_ruleHere_142 ?_
            refine g_aload_n dX12_ruleHere_143 rfl ?_
            refine m_getR fl_X12_7 rfl rfl rfl dX12_ruleHere_144 ?_
            refine g_iload_n dX12_ruleHere_147 rfl ?_
            refine g_ic3 dX12_ruleHere_148 ?_
            refine g_iadd dX12_ruleHere_149 ?_
            refine g_aload_n dX12_ruleHere_150 rfl ?_
            refine m_getR fl_X12_7 rfl rfl rfl dX12_ruleHere_151 ?_
            refine g_bipush (v := 7) dX12_ruleHere_154 (by decide) ?_
            refine m_ialdc 7 rfl rfl (by decide) (by decide) dX12_ruleHere_156 ?_
            obtain ⟨μ146, qμ146, h⟩ := g_bind h
            refine m_iast rfl qμ146 dX12_ruleHere_157 ?_
            refine g_aload_n dX12_ruleHere_158 rfl ?_
            refine m_getR fl_X12_7 rfl rfl rfl dX12_ruleHere_159 ?_
            refine g_ic5 dX12_ruleHere_162 ?_
            refine g_dup2 dX12_ruleHere_163 rfl rfl ?_
            refine m_ialdc 5 rfl rfl (by decide) (by decide) dX12_ruleHere_164 ?_
            refine g_ic1 dX12_ruleHere_165 ?_
            refine g_iadd dX12_ruleHere_166 ?_
            obtain ⟨μ147, eμ147, h⟩ := g_let h
            refine m_iastc 5 rfl rfl (by decide) (by decide) dX12_ruleHere_167 eμ147 ?_
            obtain rfl := Option.some.inj h
            exact g_vret rfl (Nat.le_refl _) rfl dX12_ruleHere_168 ⟨rfl, rfl⟩
      · have h := g_ifp c116 h
        refine g_aload_n dX12_ruleHere_56 rfl ?_
        refine g_bipush (v := 105) dX12_ruleHere_57 (by decide) ?_
        refine g_bipush (v := 102) dX12_ruleHere_59 (by decide) ?_
        obtain ⟨x148, q149, h⟩ := g_bind h
        refine m_cV mt_X12_isTwo ml_X12_216 mv_X12_isTwo dX12_ruleHere_61 (k_X12_isTwo q149) rfl rfl rfl rfl (by decide) ⟨Nat.le_refl _, Nat.le_refl _⟩ (Nat.le_of_ble_eq_true rfl) ?_
        refine g_if_eq 80 (by decide) dX12_ruleHere_64 (fun c150 => ?_) (fun c150 => ?_)
        · have h := g_ifp c150 h
          refine g_aload_n dX12_ruleHere_80 rfl ?_
          obtain ⟨x151, q152, h⟩ := g_bind h
          refine m_cV mt_X12_doHere ml_X12_222 mv_X12_doHere dX12_ruleHere_81 (k_X12_doHere q152) rfl rfl rfl rfl (by decide) ⟨Nat.le_refl _, Nat.le_refl _⟩ (Nat.le_of_ble_eq_true rfl) ?_
          refine g_istore_4 rfl (Nat.le_of_ble_eq_true rfl) dX12_ruleHere_84 ?_
          refine g_aload_n dX12_ruleHere_86 rfl ?_
          refine g_iload dX12_ruleHere_87 rfl ?_
          refine g_if_lt 96 (by decide) dX12_ruleHere_89 (fun c153 => ?_) (fun c153 => ?_)
          · have h := g_ifp c153 h
            refine g_ic0 dX12_ruleHere_96 ?_
            obtain ⟨μ156, q155, h⟩ := g_bind h
            refine m_cVv mt_X12_needs ml_X12_187 mv_X12_needs dX12_ruleHere_97 (k_X12_needs q155) rfl rfl rfl rfl (by decide) ⟨Nat.le_refl _, Nat.le_refl _⟩ (Nat.le_of_ble_eq_true rfl) ?_
            refine g_aload_n dX12_ruleHere_100 rfl ?_
            refine g_aload_n dX12_ruleHere_101 rfl ?_
            refine g_bipush (v := 59) dX12_ruleHere_102 (by decide) ?_
            obtain ⟨x157, q158, h⟩ := g_bind h
            refine m_cV mt_X12_isByte ml_X12_194 mv_X12_isByte dX12_ruleHere_104 (k_X12_isByte q158) rfl rfl rfl rfl (by decide) ⟨Nat.le_refl _, Nat.le_refl _⟩ (Nat.le_of_ble_eq_true rfl) ?_
            obtain ⟨μ161, q160, h⟩ := g_bind h
            refine m_cVv mt_X12_needs ml_X12_187 mv_X12_needs dX12_ruleHere_107 (k_X12_needs q160) rfl rfl rfl rfl (by decide) ⟨Nat.le_refl _, Nat.le_refl _⟩ (Nat.le_of_ble_eq_true rfl) ?_
            refine g_aload_n dX12_ruleHere_110 rfl ?_
            refine m_getI fl_X12_169 rfl rfl dX12_ruleHere_111 ?_
            refine g_if_ne 168 (by decide) dX12_ruleHere_114 (fun c162 => ?_) (fun c162 => ?_)
            · have h := g_ifn c162 h
              obtain rfl := Option.some.inj h
              exact g_vret rfl (Nat.le_refl _) rfl dX12_ruleHere_168 ⟨rfl, rfl⟩
            · have h := g_ifp c162 h
              refine g_aload_n dX12_ruleHere_117 rfl ?_
              refine m_getR fl_X12_7 rfl rfl rfl dX12_ruleHere_118 ?_
              refine g_iload_n dX12_ruleHere_121 rfl ?_
              refine g_iload_n dX12_ruleHere_122 rfl ?_
              obtain ⟨μ163, qμ163, h⟩ := g_bind h
              refine m_iast rfl qμ163 dX12_ruleHere_123 ?_
              refine g_aload_n dX12_ruleHere_124 rfl ?_
              refine m_getR fl_X12_7 rfl rfl rfl dX12_ruleHere_125 ?_
              refine g_iload_n dX12_ruleHere_128 rfl ?_
              refine g_ic1 dX12_ruleHere_129 ?_
              refine g_iadd dX12_ruleHere_130 ?_
              refine g_iload dX12_ruleHere_131 rfl ?_
              obtain ⟨μ164, qμ164, h⟩ := g_bind h
              refine m_iast rfl qμ164 dX12_ruleHere_133 ?_
              refine g_aload_n dX12_ruleHere_134 rfl ?_
              refine m_getR fl_X12_7 rfl rfl rfl dX12_ruleHere_135 ?_
              refine g_iload_n dX12_ruleHere_138 rfl ?_
              refine g_ic2 dX12_ruleHere_139 ?_
              refine g_iadd dX12_ruleHere_140 ?_
              refine g_iload_n dX12_ruleHere_141 rfl ?_
              obtain ⟨μ165, qμ165, h⟩ := g_bind h
              refine m_iast rfl qμ165 dX12_ruleHere_142 ?_
              refine g_aload_n dX12_ruleHere_143 rfl ?_
              refine m_getR fl_X12_7 rfl rfl rfl dX12_ruleHere_144 ?_
              refine g_iload_n dX12_ruleHere_147 rfl ?_
              refine g_ic3 dX12_ruleHere_148 ?_
              refine g_iadd dX12_ruleHere_149 ?_
              refine g_aload_n dX12_ruleHere_150 rfl ?_
              refine m_getR fl_X12_7 rfl rfl rfl dX12_ruleHere_151 ?_
              refine g_bipush (v := 7) dX12_ruleHere_154 (by decide) ?_
              refine m_ialdc 7 rfl rfl (by decide) (by decide) dX12_ruleHere_156 ?_
              obtain ⟨μ166, qμ166, h⟩ := g_bind h
              refine m_iast rfl qμ166 dX12_ruleHere_157 ?_
              refine g_aload_n dX12_ruleHere_158 rfl ?_
              refine m_getR fl_X12_7 rfl rfl rfl dX12_ruleHere_159 ?_
              refine g_ic5 dX12_ruleHere_162 ?_
              refine g_dup2 dX12_ruleHere_163 rfl rfl ?_
              refine m_ialdc 5 rfl rfl (by decide) (by decide) dX12_ruleHere_164 ?_
              refine g_ic1 dX12_ruleHere_165 ?_
              refine g_iadd dX12_ruleHere_166 ?_
              obtain ⟨μ167, eμ167, h⟩ := g_let h
              refine m_iastc 5 rfl rfl (by decide) (by decide) dX12_ruleHere_167 eμ167 ?_
              obtain rfl := Option.some.inj h
              exact g_vret rfl (Nat.le_refl _) rfl dX12_ruleHere_168 ⟨rfl, rfl⟩
          · have h := g_ifn c153 h
            refine g_ic1 dX12_ruleHere_92 ?_
            refine g_goto 97 (by decide) dX12_ruleHere_93 ?_
            obtain ⟨μ170, q169, h⟩ := g_bind h
            refine m_cVv mt_X12_needs ml_X12_187 mv_X12_needs dX12_ruleHere_97 (k_X12_needs q169) rfl rfl rfl rfl (by decide) ⟨Nat.le_refl _, Nat.le_refl _⟩ (Nat.le_of_ble_eq_true rfl) ?_
            refine g_aload_n dX12_ruleHere_100 rfl ?_
            refine g_aload_n dX12_ruleHere_101 rfl ?_
            refine g_bipush (v := 59) dX12_ruleHere_102 (by decide) ?_
            obtain ⟨x171, q172, h⟩ := g_bind h
            refine m_cV mt_X12_isByte ml_X12_194 mv_X12_isByte dX12_ruleHere_104 (k_X12_isByte q172) rfl rfl rfl rfl (by decide) ⟨Nat.le_refl _, Nat.le_refl _⟩ (Nat.le_of_ble_eq_true rfl) ?_
            obtain ⟨μ175, q174, h⟩ := g_bind h
            refine m_cVv mt_X12_needs ml_X12_187 mv_X12_needs dX12_ruleHere_107 (k_X12_needs q174) rfl rfl rfl rfl (by decide) ⟨Nat.le_refl _, Nat.le_refl _⟩ (Nat.le_of_ble_eq_true rfl) ?_
            refine g_aload_n dX12_ruleHere_110 rfl ?_
            refine m_getI fl_X12_169 rfl rfl dX12_ruleHere_111 ?_
            refine g_if_ne 168 (by decide) dX12_ruleHere_114 (fun c176 => ?_) (fun c176 => ?_)
            · have h := g_ifn c176 h
              obtain rfl := Option.some.inj h
              exact g_vret rfl (Nat.le_refl _) rfl dX12_ruleHere_168 ⟨rfl, rfl⟩
            · have h := g_ifp c176 h
              refine g_aload_n dX12_ruleHere_117 rfl ?_
              refine m_getR fl_X12_7 rfl rfl rfl dX12_ruleHere_118 ?_
              refine g_iload_n dX12_ruleHere_121 rfl ?_
              refine g_iload_n dX12_ruleHere_122 rfl ?_
              obtain ⟨μ177, qμ177, h⟩ := g_bind h
              refine m_iast rfl qμ177 dX12_ruleHere_123 ?_
              refine g_aload_n dX12_ruleHere_124 rfl ?_
              refine m_getR fl_X12_7 rfl rfl rfl dX12_ruleHere_125 ?_
              refine g_iload_n dX12_ruleHere_128 rfl ?_
              refine g_ic1 dX12_ruleHere_129 ?_
              refine g_iadd dX12_ruleHere_130 ?_
              refine g_iload dX12_ruleHere_131 rfl ?_
              obtain ⟨μ178, qμ178, h⟩ := g_bind h
              refine m_iast rfl qμ178 dX12_ruleHere_133 ?_
              refine g_aload_n dX12_ruleHere_134 rfl ?_
              refine m_getR fl_X12_7 rfl rfl rfl dX12_ruleHere_135 ?_
              refine g_iload_n dX12_ruleHere_138 rfl ?_
              refine g_ic2 dX12_ruleHere_139 ?_
              refine g_iadd dX12_ruleHere_140 ?_
              refine g_iload_n dX12_ruleHere_141 rfl ?_
              obtain ⟨μ179, qμ179, h⟩ := g_bind h
              refine m_iast rfl qμ179 dX12_ruleHere_142 ?_
              refine g_aload_n dX12_ruleHere_143 rfl ?_
              refine m_getR fl_X12_7 rfl rfl rfl dX12_ruleHere_144 ?_
              refine g_iload_n dX12_ruleHere_147 rfl ?_
              refine g_ic3 dX12_ruleHere_148 ?_
              refine g_iadd dX12_ruleHere_149 ?_
              refine g_aload_n dX12_ruleHere_150 rfl ?_
              refine m_getR fl_X12_7 rfl rfl rfl dX12_ruleHere_151 ?_
              refine g_bipush (v := 7) dX12_ruleHere_154 (by decide) ?_
              refine m_ialdc 7 rfl rfl (by decide) (by decide) dX12_ruleHere_156 ?_
              obtain ⟨μ180, qμ180, h⟩ := g_bind h
              refine m_iast rfl qμ180 dX12_ruleHere_157 ?_
              refine g_aload_n dX12_ruleHere_158 rfl ?_
              refine m_getR fl_X12_7 rfl rfl rfl dX12_ruleHere_159 ?_
              refine g_ic5 dX12_ruleHere_162 ?_
              refine g_dup2 dX12_ruleHere_163 rfl rfl ?_
              refine m_ialdc 5 rfl rfl (by decide) (by decide) dX12_ruleHere_164 ?_
              refine g_ic1 dX12_ruleHere_165 ?_
              refine g_iadd dX12_ruleHere_166 ?_
              obtain ⟨μ181, eμ181, h⟩ := g_let h
              refine m_iastc 5 rfl rfl (by decide) (by decide) dX12_ruleHere_167 eμ181 ?_
              obtain rfl := Option.some.inj h
              exact g_vret rfl (Nat.le_refl _) rfl dX12_ruleHere_168 ⟨rfl, rfl⟩
        · have h := g_ifn c150 h
          refine g_aload_n dX12_ruleHere_67 rfl ?_
          obtain ⟨μ184, q183, h⟩ := g_bind h
          refine m_cVv mt_X12_nextToken ml_X12_173 mv_X12_nextToken dX12_ruleHere_68 (k_X12_nextToken q183) rfl rfl rfl rfl (by decide) ⟨Nat.le_refl _, Nat.le_refl _⟩ (Nat.le_of_ble_eq_true rfl) ?_
          refine g_aload_n dX12_ruleHere_71 rfl ?_
          refine g_ic0 dX12_ruleHere_72 ?_
          obtain ⟨μ185, eμ185, h⟩ := g_let h
          refine m_putI fl_X12_201 fw_12_13 rfl rfl rfl rfl dX12_ruleHere_73 eμ185 ?_
          refine g_aload_n dX12_ruleHere_76 rfl ?_
          obtain ⟨μ188, q187, h⟩ := g_bind h
          refine m_cVv mt_X12_condHere ml_X12_204 mv_X12_condHere dX12_ruleHere_77 (k_X12_condHere _ _ _ q187) rfl rfl rfl rfl (by decide) ⟨Nat.le_refl _, Nat.le_refl _⟩ (Nat.le_of_ble_eq_true rfl) ?_
          refine g_aload_n dX12_ruleHere_80 rfl ?_
          obtain ⟨x189, q190, h⟩ := g_bind h
          refine m_cV mt_X12_doHere ml_X12_222 mv_X12_doHere dX12_ruleHere_81 (k_X12_doHere q190) rfl rfl rfl rfl (by decide) ⟨Nat.le_refl _, Nat.le_refl _⟩ (Nat.le_of_ble_eq_true rfl) ?_
          refine g_istore_4 rfl (Nat.le_of_ble_eq_true rfl) dX12_ruleHere_84 ?_
          refine g_aload_n dX12_ruleHere_86 rfl ?_
          refine g_iload dX12_ruleHere_87 rfl ?_
          refine g_if_lt 96 (by decide) dX12_ruleHere_89 (fun c191 => ?_) (fun c191 => ?_)
          · have h := g_ifp c191 h
            refine g_ic0 dX12_ruleHere_96 ?_
            obtain ⟨μ194, q193, h⟩ := g_bind h
            refine m_cVv mt_X12_needs ml_X12_187 mv_X12_needs dX12_ruleHere_97 (k_X12_needs q193) rfl rfl rfl rfl (by decide) ⟨Nat.le_refl _, Nat.le_refl _⟩ (Nat.le_of_ble_eq_true rfl) ?_
            refine g_aload_n dX12_ruleHere_100 rfl ?_
            refine g_aload_n dX12_ruleHere_101 rfl ?_
            refine g_bipush (v := 59) dX12_ruleHere_102 (by decide) ?_
            obtain ⟨x195, q196, h⟩ := g_bind h
            refine m_cV mt_X12_isByte ml_X12_194 mv_X12_isByte dX12_ruleHere_104 (k_X12_isByte q196) rfl rfl rfl rfl (by decide) ⟨Nat.le_refl _, Nat.le_refl _⟩ (Nat.le_of_ble_eq_true rfl) ?_
            obtain ⟨μ199, q198, h⟩ := g_bind h
            refine m_cVv mt_X12_needs ml_X12_187 mv_X12_needs dX12_ruleHere_107 (k_X12_needs q198) rfl rfl rfl rfl (by decide) ⟨Nat.le_refl _, Nat.le_refl _⟩ (Nat.le_of_ble_eq_true rfl) ?_
            refine g_aload_n dX12_ruleHere_110 rfl ?_
            refine m_getI fl_X12_169 rfl rfl dX12_ruleHere_111 ?_
            refine g_if_ne 168 (by decide) dX12_ruleHere_114 (fun c200 => ?_) (fun c200 => ?_)
            · have h := g_ifn c200 h
              obtain rfl := Option.some.inj h
              exact g_vret rfl (Nat.le_refl _) rfl dX12_ruleHere_168 ⟨rfl, rfl⟩
            · have h := g_ifp c200 h
              refine g_aload_n dX12_ruleHere_117 rfl ?_
              refine m_getR fl_X12_7 rfl rfl rfl dX12_ruleHere_118 ?_
              refine g_iload_n dX12_ruleHere_121 rfl ?_
              refine g_iload_n dX12_ruleHere_122 rfl ?_
              obtain ⟨μ201, qμ201, h⟩ := g_bind h
              refine m_iast rfl qμ201 dX12_ruleHere_123 ?_
              refine g_aload_n dX12_ruleHere_124 rfl ?_
              refine m_getR fl_X12_7 rfl rfl rfl dX12_ruleHere_125 ?_
              refine g_iload_n dX12_ruleHere_128 rfl ?_
              refine g_ic1 dX12_ruleHere_129 ?_
              refine g_iadd dX12_ruleHere_130 ?_
              refine g_iload dX12_ruleHere_131 rfl ?_
              obtain ⟨μ202, qμ202, h⟩ := g_bind h
              refine m_iast rfl qμ202 dX12_ruleHere_133 ?_
              refine g_aload_n dX12_ruleHere_134 rfl ?_
              refine m_getR fl_X12_7 rfl rfl rfl dX12_ruleHere_135 ?_
              refine g_iload_n dX12_ruleHere_138 rfl ?_
              refine g_ic2 dX12_ruleHere_139 ?_
              refine g_iadd dX12_ruleHere_140 ?_
              refine g_iload_n dX12_ruleHere_141 rfl ?_
              obtain ⟨μ203, qμ203, h⟩ := g_bind h
              refine m_iast rfl qμ203 dX12_ruleHere_142 ?_
              refine g_aload_n dX12_ruleHere_143 rfl ?_
              refine m_getR fl_X12_7 rfl rfl rfl dX12_ruleHere_144 ?_
              refine g_iload_n dX12_ruleHere_147 rfl ?_
              refine g_ic3 dX12_ruleHere_148 ?_
              refine g_iadd dX12_ruleHere_149 ?_
              refine g_aload_n dX12_ruleHere_150 rfl ?_
              refine m_getR fl_X12_7 rfl rfl rfl dX12_ruleHere_151 ?_
              refine g_bipush (v := 7) dX12_ruleHere_154 (by decide) ?_
              refine m_ialdc 7 rfl rfl (by decide) (by decide) dX12_ruleHere_156 ?_
              obtain ⟨μ204, qμ204, h⟩ := g_bind h
              refine m_iast rfl qμ204 dX12_ruleHere_157 ?_
              refine g_aload_n dX12_ruleHere_158 rfl ?_
              refine m_getR fl_X12_7 rfl rfl rfl dX12_ruleHere_159 ?_
              refine g_ic5 dX12_ruleHere_162 ?_
              refine g_dup2 dX12_ruleHere_163 rfl rfl ?_
              refine m_ialdc 5 rfl rfl (by decide) (by decide) dX12_ruleHere_164 ?_
              refine g_ic1 dX12_ruleHere_165 ?_
              refine g_iadd dX12_ruleHere_166 ?_
              obtain ⟨μ205, eμ205, h⟩ := g_let h
              refine m_iastc 5 rfl rfl (by decide) (by decide) dX12_ruleHere_167 eμ205 ?_
              obtain rfl := Option.some.inj h
              exact g_vret rfl (Nat.le_refl _) rfl dX12_ruleHere_168 ⟨rfl, rfl⟩
          · have h := g_ifn c191 h
            refine g_ic1 dX12_ruleHere_92 ?_
            refine g_goto 97 (by decide) dX12_ruleHere_93 ?_
            obtain ⟨μ208, q207, h⟩ := g_bind h
            refine m_cVv mt_X12_needs ml_X12_187 mv_X12_needs dX12_ruleHere_97 (k_X12_needs q207) rfl rfl rfl rfl (by decide) ⟨Nat.le_refl _, Nat.le_refl _⟩ (Nat.le_of_ble_eq_true rfl) ?_
            refine g_aload_n dX12_ruleHere_100 rfl ?_
            refine g_aload_n dX12_ruleHere_101 rfl ?_
            refine g_bipush (v := 59) dX12_ruleHere_102 (by decide) ?_
            obtain ⟨x209, q210, h⟩ := g_bind h
            refine m_cV mt_X12_isByte ml_X12_194 mv_X12_isByte dX12_ruleHere_104 (k_X12_isByte q210) rfl rfl rfl rfl (by decide) ⟨Nat.le_refl _, Nat.le_refl _⟩ (Nat.le_of_ble_eq_true rfl) ?_
            obtain ⟨μ213, q212, h⟩ := g_bind h
            refine m_cVv mt_X12_needs ml_X12_187 mv_X12_needs dX12_ruleHere_107 (k_X12_needs q212) rfl rfl rfl rfl (by decide) ⟨Nat.le_refl _, Nat.le_refl _⟩ (Nat.le_of_ble_eq_true rfl) ?_
            refine g_aload_n dX12_ruleHere_110 rfl ?_
            refine m_getI fl_X12_169 rfl rfl dX12_ruleHere_111 ?_
            refine g_if_ne 168 (by decide) dX12_ruleHere_114 (fun c214 => ?_) (fun c214 => ?_)
            · have h := g_ifn c214 h
              obtain rfl := Option.some.inj h
              exact g_vret rfl (Nat.le_refl _) rfl dX12_ruleHere_168 ⟨rfl, rfl⟩
            · have h := g_ifp c214 h
              refine g_aload_n dX12_ruleHere_117 rfl ?_
              refine m_getR fl_X12_7 rfl rfl rfl dX12_ruleHere_118 ?_
              refine g_iload_n dX12_ruleHere_121 rfl ?_
              refine g_iload_n dX12_ruleHere_122 rfl ?_
              obtain ⟨μ215, qμ215, h⟩ := g_bind h
              refine m_iast rfl qμ215 dX12_ruleHere_123 ?_
              refine g_aload_n dX12_ruleHere_124 rfl ?_
              refine m_getR fl_X12_7 rfl rfl rfl dX12_ruleHere_125 ?_
              refine g_iload_n dX12_ruleHere_128 rfl ?_
              refine g_ic1 dX12_ruleHere_129 ?_
              refine g_iadd dX12_ruleHere_130 ?_
              refine g_iload dX12_ruleHere_131 rfl ?_
              obtain ⟨μ216, qμ216, h⟩ := g_bind h
              refine m_iast rfl qμ216 dX12_ruleHere_133 ?_
              refine g_aload_n dX12_ruleHere_134 rfl ?_
              refine m_getR fl_X12_7 rfl rfl rfl dX12_ruleHere_135 ?_
              refine g_iload_n dX12_ruleHere_138 rfl ?_
              refine g_ic2 dX12_ruleHere_139 ?_
              refine g_iadd dX12_ruleHere_140 ?_
              refine g_iload_n dX12_ruleHere_141 rfl ?_
              obtain ⟨μ217, qμ217, h⟩ := g_bind h
              refine m_iast rfl qμ217 dX12_ruleHere_142 ?_
              refine g_aload_n dX12_ruleHere_143 rfl ?_
              refine m_getR fl_X12_7 rfl rfl rfl dX12_ruleHere_144 ?_
              refine g_iload_n dX12_ruleHere_147 rfl ?_
              refine g_ic3 dX12_ruleHere_148 ?_
              refine g_iadd dX12_ruleHere_149 ?_
              refine g_aload_n dX12_ruleHere_150 rfl ?_
              refine m_getR fl_X12_7 rfl rfl rfl dX12_ruleHere_151 ?_
              refine g_bipush (v := 7) dX12_ruleHere_154 (by decide) ?_
              refine m_ialdc 7 rfl rfl (by decide) (by decide) dX12_ruleHere_156 ?_
              obtain ⟨μ218, qμ218, h⟩ := g_bind h
              refine m_iast rfl qμ218 dX12_ruleHere_157 ?_
              refine g_aload_n dX12_ruleHere_158 rfl ?_
              refine m_getR fl_X12_7 rfl rfl rfl dX12_ruleHere_159 ?_
              refine g_ic5 dX12_ruleHere_162 ?_
              refine g_dup2 dX12_ruleHere_163 rfl rfl ?_
              refine m_ialdc 5 rfl rfl (by decide) (by decide) dX12_ruleHere_164 ?_
              refine g_ic1 dX12_ruleHere_165 ?_
              refine g_iadd dX12_ruleHere_166 ?_
              obtain ⟨μ219, eμ219, h⟩ := g_let h
              refine m_iastc 5 rfl rfl (by decide) (by decide) dX12_ruleHere_167 eμ219 ?_
              obtain rfl := Option.some.inj h
              exact g_vret rfl (Nat.le_refl _) rfl dX12_ruleHere_168 ⟨rfl, rfl⟩
    · have h := g_ifn c112 h
      refine g_ic1 dX12_ruleHere_33 ?_
      refine g_goto 38 (by decide) dX12_ruleHere_34 ?_
      obtain ⟨μ222, q221, h⟩ := g_bind h
      refine m_cVv mt_X12_needs ml_X12_187 mv_X12_needs dX12_ruleHere_38 (k_X12_needs q221) rfl rfl rfl rfl (by decide) ⟨Nat.le_refl _, Nat.le_refl _⟩ (Nat.le_of_ble_eq_true rfl) ?_
      refine g_aload_n dX12_ruleHere_41 rfl ?_
      refine m_getR fl_X12_7 rfl rfl rfl dX12_ruleHere_42 ?_
      refine g_bipush (v := 7) dX12_ruleHere_45 (by decide) ?_
      refine m_ialdc 7 rfl rfl (by decide) (by decide) dX12_ruleHere_47 ?_
      refine g_istore_3 rfl (Nat.le_of_ble_eq_true rfl) dX12_ruleHere_48 ?_
      refine g_aload_n dX12_ruleHere_49 rfl ?_
      refine m_getI fl_X12_169 rfl rfl dX12_ruleHere_50 ?_
      refine g_if_ne 80 (by decide) dX12_ruleHere_53 (fun c223 => ?_) (fun c223 => ?_)
      · have h := g_ifn c223 h
        refine g_aload_n dX12_ruleHere_80 rfl ?_
        obtain ⟨x224, q225, h⟩ := g_bind h
        refine m_cV mt_X12_doHere ml_X12_222 mv_X12_doHere dX12_ruleHere_81 (k_X12_doHere q225) rfl rfl rfl rfl (by decide) ⟨Nat.le_refl _, Nat.le_refl _⟩ (Nat.le_of_ble_eq_true rfl) ?_
        refine g_istore_4 rfl (Nat.le_of_ble_eq_true rfl) dX12_ruleHere_84 ?_
        refine g_aload_n dX12_ruleHere_86 rfl ?_
        refine g_iload dX12_ruleHere_87 rfl ?_
        refine g_if_lt 96 (by decide) dX12_ruleHere_89 (fun c226 => ?_) (fun c226 => ?_)
        · have h := g_ifp c226 h
          refine g_ic0 dX12_ruleHere_96 ?_
          obtain ⟨μ229, q228, h⟩ := g_bind h
          refine m_cVv mt_X12_needs ml_X12_187 mv_X12_needs dX12_ruleHere_97 (k_X12_needs q228) rfl rfl rfl rfl (by decide) ⟨Nat.le_refl _, Nat.le_refl _⟩ (Nat.le_of_ble_eq_true rfl) ?_
          refine g_aload_n dX12_ruleHere_100 rfl ?_
          refine g_aload_n dX12_ruleHere_101 rfl ?_
          refine g_bipush (v := 59) dX12_ruleHere_102 (by decide) ?_
          obtain ⟨x230, q231, h⟩ := g_bind h
          refine m_cV mt_X12_isByte ml_X12_194 mv_X12_isByte dX12_ruleHere_104 (k_X12_isByte q231) rfl rfl rfl rfl (by decide) ⟨Nat.le_refl _, Nat.le_refl _⟩ (Nat.le_of_ble_eq_true rfl) ?_
          obtain ⟨μ234, q233, h⟩ := g_bind h
          refine m_cVv mt_X12_needs ml_X12_187 mv_X12_needs dX12_ruleHere_107 (k_X12_needs q233) rfl rfl rfl rfl (by decide) ⟨Nat.le_refl _, Nat.le_refl _⟩ (Nat.le_of_ble_eq_true rfl) ?_
          refine g_aload_n dX12_ruleHere_110 rfl ?_
          refine m_getI fl_X12_169 rfl rfl dX12_ruleHere_111 ?_
          refine g_if_ne 168 (by decide) dX12_ruleHere_114 (fun c235 => ?_) (fun c235 => ?_)
          · have h := g_ifn c235 h
            obtain rfl := Option.some.inj h
            exact g_vret rfl (Nat.le_refl _) rfl dX12_ruleHere_168 ⟨rfl, rfl⟩
          · have h := g_ifp c235 h
            refine g_aload_n dX12_ruleHere_117 rfl ?_
            refine m_getR fl_X12_7 rfl rfl rfl dX12_ruleHere_118 ?_
            refine g_iload_n dX12_ruleHere_121 rfl ?_
            refine g_iload_n dX12_ruleHere_122 rfl ?_
            obtain ⟨μ236, qμ236, h⟩ := g_bind h
            refine m_iast rfl qμ236 dX12_ruleHere_123 ?_
            refine g_aload_n dX12_ruleHere_124 rfl ?_
            refine m_getR fl_X12_7 rfl rfl rfl dX12_ruleHere_125 ?_
            refine g_iload_n dX12_ruleHere_128 rfl ?_
            refine g_ic1 dX12_ruleHere_129 ?_
            refine g_iadd dX12_ruleHere_130 ?_
            refine g_iload dX12_ruleHere_131 rfl ?_
            obtain ⟨μ237, qμ237, h⟩ := g_bind h
            refine m_iast rfl qμ237 dX12_ruleHere_133 ?_
            refine g_aload_n dX12_ruleHere_134 rfl ?_
            refine m_getR fl_X12_7 rfl rfl rfl dX12_ruleHere_135 ?_
            refine g_iload_n dX12_ruleHere_138 rfl ?_
            refine g_ic2 dX12_ruleHere_139 ?_
            refine g_iadd dX12_ruleHere_140 ?_
            refine g_iload_n dX12_ruleHere_141 rfl ?_
            obtain ⟨μ238, qμ238, h⟩ := g_bind h
            refine m_iast rfl qμ238 dX12_ruleHere_142 ?_
            refine g_aload_n dX12_ruleHere_143 rfl ?_
            refine m_getR fl_X12_7 rfl rfl rfl dX12_ruleHere_144 ?_
            refine g_iload_n dX12_ruleHere_147 rfl ?_
            refine g_ic3 dX12_ruleHere_148 ?_
            refine g_iadd dX12_ruleHere_149 ?_
            refine g_aload_n dX12_ruleHere_150 rfl ?_
            refine m_getR fl_X12_7 rfl rfl rfl dX12_ruleHere_151 ?_
            refine g_bipush (v := 7) dX12_ruleHere_154 (by decide) ?_
            refine m_ialdc 7 rfl rfl (by decide) (by decide) dX12_ruleHere_156 ?_
            obtain ⟨μ239, qμ239, h⟩ := g_bind h
            refine m_iast rfl qμ239 dX12_ruleHere_157 ?_
            refine g_aload_n dX12_ruleHere_158 rfl ?_
            refine m_getR fl_X12_7 rfl rfl rfl dX12_ruleHere_159 ?_
            refine g_ic5 dX12_ruleHere_162 ?_
            refine g_dup2 dX12_ruleHere_163 rfl rfl ?_
            refine m_ialdc 5 rfl rfl (by decide) (by decide) dX12_ruleHere_164 ?_
            refine g_ic1 dX12_ruleHere_165 ?_
            refine g_iadd dX12_ruleHere_166 ?_
            obtain ⟨μ240, eμ240, h⟩ := g_let h
            refine m_iastc 5 rfl rfl (by decide) (by decide) dX12_ruleHere_167 eμ240 ?_
            obtain rfl := Option.some.inj h
            exact g_vret rfl (Nat.le_refl _) rfl dX12_ruleHere_168 ⟨rfl, rfl⟩
        · have h := g_ifn c226 h
          refine g_ic1 dX12_ruleHere_92 ?_
          refine g_goto 97 (by decide) dX12_ruleHere_93 ?_
          obtain ⟨μ243, q242, h⟩ := g_bind h
          refine m_cVv mt_X12_needs ml_X12_187 mv_X12_needs dX12_ruleHere_97 (k_X12_needs q242) rfl rfl rfl rfl (by decide) ⟨Nat.le_refl _, Nat.le_refl _⟩ (Nat.le_of_ble_eq_true rfl) ?_
          refine g_aload_n dX12_ruleHere_100 rfl ?_
          refine g_aload_n dX12_ruleHere_101 rfl ?_
          refine g_bipush (v := 59) dX12_ruleHere_102 (by decide) ?_
          obtain ⟨x244, q245, h⟩ := g_bind h
          refine m_cV mt_X12_isByte ml_X12_194 mv_X12_isByte dX12_ruleHere_104 (k_X12_isByte q245) rfl rfl rfl rfl (by decide) ⟨Nat.le_refl _, Nat.le_refl _⟩ (Nat.le_of_ble_eq_true rfl) ?_
          obtain ⟨μ248, q247, h⟩ := g_bind h
          refine m_cVv mt_X12_needs ml_X12_187 mv_X12_needs dX12_ruleHere_107 (k_X12_needs q247) rfl rfl rfl rfl (by decide) ⟨Nat.le_refl _, Nat.le_refl _⟩ (Nat.le_of_ble_eq_true rfl) ?_
          refine g_aload_n dX12_ruleHere_110 rfl ?_
          refine m_getI fl_X12_169 rfl rfl dX12_ruleHere_111 ?_
          refine g_if_ne 168 (by decide) dX12_ruleHere_114 (fun c249 => ?_) (fun c249 => ?_)
          · have h := g_ifn c249 h
            obtain rfl := Option.some.inj h
            exact g_vret rfl (Nat.le_refl _) rfl dX12_ruleHere_168 ⟨rfl, rfl⟩
          · have h := g_ifp c249 h
            refine g_aload_n dX12_ruleHere_117 rfl ?_
            refine m_getR fl_X12_7 rfl rfl rfl dX12_ruleHere_118 ?_
            refine g_iload_n dX12_ruleHere_121 rfl ?_
            refine g_iload_n dX12_ruleHere_122 rfl ?_
            obtain ⟨μ250, qμ250, h⟩ := g_bind h
            refine m_iast rfl qμ250 dX12_ruleHere_123 ?_
            refine g_aload_n dX12_ruleHere_124 rfl ?_
            refine m_getR fl_X12_7 rfl rfl rfl dX12_ruleHere_125 ?_
            refine g_iload_n dX12_ruleHere_128 rfl ?_
            refine g_ic1 dX12_ruleHere_129 ?_
            refine g_iadd dX12_ruleHere_130 ?_
            refine g_iload dX12_ruleHere_131 rfl ?_
            obtain ⟨μ251, qμ251, h⟩ := g_bind h
            refine m_iast rfl qμ251 dX12_ruleHere_133 ?_
            refine g_aload_n dX12_ruleHere_134 rfl ?_
            refine m_getR fl_X12_7 rfl rfl rfl dX12_ruleHere_135 ?_
            refine g_iload_n dX12_ruleHere_138 rfl ?_
            refine g_ic2 dX12_ruleHere_139 ?_
            refine g_iadd dX12_ruleHere_140 ?_
            refine g_iload_n dX12_ruleHere_141 rfl ?_
            obtain ⟨μ252, qμ252, h⟩ := g_bind h
            refine m_iast rfl qμ252 dX12_ruleHere_142 ?_
            refine g_aload_n dX12_ruleHere_143 rfl ?_
            refine m_getR fl_X12_7 rfl rfl rfl dX12_ruleHere_144 ?_
            refine g_iload_n dX12_ruleHere_147 rfl ?_
            refine g_ic3 dX12_ruleHere_148 ?_
            refine g_iadd dX12_ruleHere_149 ?_
            refine g_aload_n dX12_ruleHere_150 rfl ?_
            refine m_getR fl_X12_7 rfl rfl rfl dX12_ruleHere_151 ?_
            refine g_bipush (v := 7) dX12_ruleHere_154 (by decide) ?_
            refine m_ialdc 7 rfl rfl (by decide) (by decide) dX12_ruleHere_156 ?_
            obtain ⟨μ253, qμ253, h⟩ := g_bind h
            refine m_iast rfl qμ253 dX12_ruleHere_157 ?_
            refine g_aload_n dX12_ruleHere_158 rfl ?_
            refine m_getR fl_X12_7 rfl rfl rfl dX12_ruleHere_159 ?_
            refine g_ic5 dX12_ruleHere_162 ?_
            refine g_dup2 dX12_ruleHere_163 rfl rfl ?_
            refine m_ialdc 5 rfl rfl (by decide) (by decide) dX12_ruleHere_164 ?_
            refine g_ic1 dX12_ruleHere_165 ?_
            refine g_iadd dX12_ruleHere_166 ?_
            obtain ⟨μ254, eμ254, h⟩ := g_let h
            refine m_iastc 5 rfl rfl (by decide) (by decide) dX12_ruleHere_167 eμ254 ?_
            obtain rfl := Option.some.inj h
            exact g_vret rfl (Nat.le_refl _) rfl dX12_ruleHere_168 ⟨rfl, rfl⟩
      · have h := g_ifp c223 h
        refine g_aload_n dX12_ruleHere_56 rfl ?_
        refine g_bipush (v := 105) dX12_ruleHere_57 (by decide) ?_
        refine g_bipush (v := 102) dX12_ruleHere_59 (by decide) ?_
        obtain ⟨x255, q256, h⟩ := g_bind h
        refine m_cV mt_X12_isTwo ml_X12_216 mv_X12_isTwo dX12_ruleHere_61 (k_X12_isTwo q256) rfl rfl rfl rfl (by decide) ⟨Nat.le_refl _, Nat.le_refl _⟩ (Nat.le_of_ble_eq_true rfl) ?_
        refine g_if_eq 80 (by decide) dX12_ruleHere_64 (fun c257 => ?_) (fun c257 => ?_)
        · have h := g_ifp c257 h
          refine g_aload_n dX12_ruleHere_80 rfl ?_
          obtain ⟨x258, q259, h⟩ := g_bind h
          refine m_cV mt_X12_doHere ml_X12_222 mv_X12_doHere dX12_ruleHere_81 (k_X12_doHere q259) rfl rfl rfl rfl (by decide) ⟨Nat.le_refl _, Nat.le_refl _⟩ (Nat.le_of_ble_eq_true rfl) ?_
          refine g_istore_4 rfl (Nat.le_of_ble_eq_true rfl) dX12_ruleHere_84 ?_
          refine g_aload_n dX12_ruleHere_86 rfl ?_
          refine g_iload dX12_ruleHere_87 rfl ?_
          refine g_if_lt 96 (by decide) dX12_ruleHere_89 (fun c260 => ?_) (fun c260 => ?_)
          · have h := g_ifp c260 h
            refine g_ic0 dX12_ruleHere_96 ?_
            obtain ⟨μ263, q262, h⟩ := g_bind h
            refine m_cVv mt_X12_needs ml_X12_187 mv_X12_needs dX12_ruleHere_97 (k_X12_needs q262) rfl rfl rfl rfl (by decide) ⟨Nat.le_refl _, Nat.le_refl _⟩ (Nat.le_of_ble_eq_true rfl) ?_
            refine g_aload_n dX12_ruleHere_100 rfl ?_
            refine g_aload_n dX12_ruleHere_101 rfl ?_
            refine g_bipush (v := 59) dX12_ruleHere_102 (by decide) ?_
            obtain ⟨x264, q265, h⟩ := g_bind h
            refine m_cV mt_X12_isByte ml_X12_194 mv_X12_isByte dX12_ruleHere_104 (k_X12_isByte q265) rfl rfl rfl rfl (by decide) ⟨Nat.le_refl _, Nat.le_refl _⟩ (Nat.le_of_ble_eq_true rfl) ?_
            obtain ⟨μ268, q267, h⟩ := g_bind h
            refine m_cVv mt_X12_needs ml_X12_187 mv_X12_needs dX12_ruleHere_107 (k_X12_needs q267) rfl rfl rfl rfl (by decide) ⟨Nat.le_refl _, Nat.le_refl _⟩ (Nat.le_of_ble_eq_true rfl) ?_
            refine g_aload_n dX12_ruleHere_110 rfl ?_
            refine m_getI fl_X12_169 rfl rfl dX12_ruleHere_111 ?_
            refine g_if_ne 168 (by decide) dX12_ruleHere_114 (fun c269 => ?_) (fun c269 => ?_)
            · have h := g_ifn c269 h
              obtain rfl := Option.some.inj h
              exact g_vret rfl (Nat.le_refl _) rfl dX12_ruleHere_168 ⟨rfl, rfl⟩
            · have h := g_ifp c269 h
              refine g_aload_n dX12_ruleHere_117 rfl ?_
              refine m_getR fl_X12_7 rfl rfl rfl dX12_ruleHere_118 ?_
              refine g_iload_n dX12_ruleHere_121 rfl ?_
              refine g_iload_n dX12_ruleHere_122 rfl ?_
              obtain ⟨μ270, qμ270, h⟩ := g_bind h
              refine m_iast rfl qμ270 dX12_ruleHere_123 ?_
              refine g_aload_n dX12_ruleHere_124 rfl ?_
              refine m_getR fl_X12_7 rfl rfl rfl dX12_ruleHere_125 ?_
              refine g_iload_n dX12_ruleHere_128 rfl ?_
              refine g_ic1 dX12_ruleHere_129 ?_
              refine g_iadd dX12_ruleHere_130 ?_
              refine g_iload dX12_ruleHere_131 rfl ?_
              obtain ⟨μ271, qμ271, h⟩ := g_bind h
              refine m_iast rfl qμ271 dX12_ruleHere_133 ?_
              refine g_aload_n dX12_ruleHere_134 rfl ?_
              refine m_getR fl_X12_7 rfl rfl rfl dX12_ruleHere_135 ?_
              refine g_iload_n dX12_ruleHere_138 rfl ?_
              refine g_ic2 dX12_ruleHere_139 ?_
              refine g_iadd dX12_ruleHere_140 ?_
              refine g_iload_n dX12_ruleHere_141 rfl ?_
              obtain ⟨μ272, qμ272, h⟩ := g_bind h
              refine m_iast rfl qμ272 dX12_ruleHere_142 ?_
              refine g_aload_n dX12_ruleHere_143 rfl ?_
              refine m_getR fl_X12_7 rfl rfl rfl dX12_ruleHere_144 ?_
              refine g_iload_n dX12_ruleHere_147 rfl ?_
              refine g_ic3 dX12_ruleHere_148 ?_
              refine g_iadd dX12_ruleHere_149 ?_
              refine g_aload_n dX12_ruleHere_150 rfl ?_
              refine m_getR fl_X12_7 rfl rfl rfl dX12_ruleHere_151 ?_
              refine g_bipush (v := 7) dX12_ruleHere_154 (by decide) ?_
              refine m_ialdc 7 rfl rfl (by decide) (by decide) dX12_ruleHere_156 ?_
              obtain ⟨μ273, qμ273, h⟩ := g_bind h
              refine m_iast rfl qμ273 dX12_ruleHere_157 ?_
              refine g_aload_n dX12_ruleHere_158 rfl ?_
              refine m_getR fl_X12_7 rfl rfl rfl dX12_ruleHere_159 ?_
              refine g_ic5 dX12_ruleHere_162 ?_
              refine g_dup2 dX12_ruleHere_163 rfl rfl ?_
              refine m_ialdc 5 rfl rfl (by decide) (by decide) dX12_ruleHere_164 ?_
              refine g_ic1 dX12_ruleHere_165 ?_
              refine g_iadd dX12_ruleHere_166 ?_
              obtain ⟨μ274, eμ274, h⟩ := g_let h
              refine m_iastc 5 rfl rfl (by decide) (by decide) dX12_ruleHere_167 eμ274 ?_
              obtain rfl := Option.some.inj h
              exact g_vret rfl (Nat.le_refl _) rfl dX12_ruleHere_168 ⟨rfl, rfl⟩
          · have h := g_ifn c260 h
            refine g_ic1 dX12_ruleHere_92 ?_
            refine g_goto 97 (by decide) dX12_ruleHere_93 ?_
            obtain ⟨μ277, q276, h⟩ := g_bind h
            refine m_cVv mt_X12_needs ml_X12_187 mv_X12_needs dX12_ruleHere_97 (k_X12_needs q276) rfl rfl rfl rfl (by decide) ⟨Nat.le_refl _, Nat.le_refl _⟩ (Nat.le_of_ble_eq_true rfl) ?_
            refine g_aload_n dX12_ruleHere_100 rfl ?_
            refine g_aload_n dX12_ruleHere_101 rfl ?_
            refine g_bipush (v := 59) dX12_ruleHere_102 (by decide) ?_
            obtain ⟨x278, q279, h⟩ := g_bind h
            refine m_cV mt_X12_isByte ml_X12_194 mv_X12_isByte dX12_ruleHere_104 (k_X12_isByte q279) rfl rfl rfl rfl (by decide) ⟨Nat.le_refl _, Nat.le_refl _⟩ (Nat.le_of_ble_eq_true rfl) ?_
            obtain ⟨μ282, q281, h⟩ := g_bind h
            refine m_cVv mt_X12_needs ml_X12_187 mv_X12_needs dX12_ruleHere_107 (k_X12_needs q281) rfl rfl rfl rfl (by decide) ⟨Nat.le_refl _, Nat.le_refl _⟩ (Nat.le_of_ble_eq_true rfl) ?_
            refine g_aload_n dX12_ruleHere_110 rfl ?_
            refine m_getI fl_X12_169 rfl rfl dX12_ruleHere_111 ?_
            refine g_if_ne 168 (by decide) dX12_ruleHere_114 (fun c283 => ?_) (fun c283 => ?_)
            · have h := g_ifn c283 h
              obtain rfl := Option.some.inj h
              exact g_vret rfl (Nat.le_refl _) rfl dX12_ruleHere_168 ⟨rfl, rfl⟩
            · have h := g_ifp c283 h
              refine g_aload_n dX12_ruleHere_117 rfl ?_
              refine m_getR fl_X12_7 rfl rfl rfl dX12_ruleHere_118 ?_
              refine g_iload_n dX12_ruleHere_121 rfl ?_
              refine g_iload_n dX12_ruleHere_122 rfl ?_
              obtain ⟨μ284, qμ284, h⟩ := g_bind h
              refine m_iast rfl qμ284 dX12_ruleHere_123 ?_
              refine g_aload_n dX12_ruleHere_124 rfl ?_
              refine m_getR fl_X12_7 rfl rfl rfl dX12_ruleHere_125 ?_
              refine g_iload_n dX12_ruleHere_128 rfl ?_
              refine g_ic1 dX12_ruleHere_129 ?_
              refine g_iadd dX12_ruleHere_130 ?_
              refine g_iload dX12_ruleHere_131 rfl ?_
              obtain ⟨μ285, qμ285, h⟩ := g_bind h
              refine m_iast rfl qμ285 dX12_ruleHere_133 ?_
              refine g_aload_n dX12_ruleHere_134 rfl ?_
              refine m_getR fl_X12_7 rfl rfl rfl dX12_ruleHere_135 ?_
              refine g_iload_n dX12_ruleHere_138 rfl ?_
              refine g_ic2 dX12_ruleHere_139 ?_
              refine g_iadd dX12_ruleHere_140 ?_
              refine g_iload_n dX12_ruleHere_141 rfl ?_
              obtain ⟨μ286, qμ286, h⟩ := g_bind h
              refine m_iast rfl qμ286 dX12_ruleHere_142 ?_
              refine g_aload_n dX12_ruleHere_143 rfl ?_
              refine m_getR fl_X12_7 rfl rfl rfl dX12_ruleHere_144 ?_
              refine g_iload_n dX12_ruleHere_147 rfl ?_
              refine g_ic3 dX12_ruleHere_148 ?_
              refine g_iadd dX12_ruleHere_149 ?_
              refine g_aload_n dX12_ruleHere_150 rfl ?_
              refine m_getR fl_X12_7 rfl rfl rfl dX12_ruleHere_151 ?_
              refine g_bipush (v := 7) dX12_ruleHere_154 (by decide) ?_
              refine m_ialdc 7 rfl rfl (by decide) (by decide) dX12_ruleHere_156 ?_
              obtain ⟨μ287, qμ287, h⟩ := g_bind h
              refine m_iast rfl qμ287 dX12_ruleHere_157 ?_
              refine g_aload_n dX12_ruleHere_158 rfl ?_
              refine m_getR fl_X12_7 rfl rfl rfl dX12_ruleHere_159 ?_
              refine g_ic5 dX12_ruleHere_162 ?_
              refine g_dup2 dX12_ruleHere_163 rfl rfl ?_
              refine m_ialdc 5 rfl rfl (by decide) (by decide) dX12_ruleHere_164 ?_
              refine g_ic1 dX12_ruleHere_165 ?_
              refine g_iadd dX12_ruleHere_166 ?_
              obtain ⟨μ288, eμ288, h⟩ := g_let h
              refine m_iastc 5 rfl rfl (by decide) (by decide) dX12_ruleHere_167 eμ288 ?_
              obtain rfl := Option.some.inj h
              exact g_vret rfl (Nat.le_refl _) rfl dX12_ruleHere_168 ⟨rfl, rfl⟩
        · have h := g_ifn c257 h
          refine g_aload_n dX12_ruleHere_67 rfl ?_
          obtain ⟨μ291, q290, h⟩ := g_bind h
          refine m_cVv mt_X12_nextToken ml_X12_173 mv_X12_nextToken dX12_ruleHere_68 (k_X12_nextToken q290) rfl rfl rfl rfl (by decide) ⟨Nat.le_refl _, Nat.le_refl _⟩ (Nat.le_of_ble_eq_true rfl) ?_
          refine g_aload_n dX12_ruleHere_71 rfl ?_
          refine g_ic0 dX12_ruleHere_72 ?_
          obtain ⟨μ292, eμ292, h⟩ := g_let h
          refine m_putI fl_X12_201 fw_12_13 rfl rfl rfl rfl dX12_ruleHere_73 eμ292 ?_
          refine g_aload_n dX12_ruleHere_76 rfl ?_
          obtain ⟨μ295, q294, h⟩ := g_bind h
          refine m_cVv mt_X12_condHere ml_X12_204 mv_X12_condHere dX12_ruleHere_77 (k_X12_condHere _ _ _ q294) rfl rfl rfl rfl (by decide) ⟨Nat.le_refl _, Nat.le_refl _⟩ (Nat.le_of_ble_eq_true rfl) ?_
          refine g_aload_n dX12_ruleHere_80 rfl ?_
          obtain ⟨x296, q297, h⟩ := g_bind h
          refine m_cV mt_X12_doHere ml_X12_222 mv_X12_doHere dX12_ruleHere_81 (k_X12_doHere q297) rfl rfl rfl rfl (by decide) ⟨Nat.le_refl _, Nat.le_refl _⟩ (Nat.le_of_ble_eq_true rfl) ?_
          refine g_istore_4 rfl (Nat.le_of_ble_eq_true rfl) dX12_ruleHere_84 ?_
          refine g_aload_n dX12_ruleHere_86 rfl ?_
          refine g_iload dX12_ruleHere_87 rfl ?_
          refine g_if_lt 96 (by decide) dX12_ruleHere_89 (fun c298 => ?_) (fun c298 => ?_)
          · have h := g_ifp c298 h
            refine g_ic0 dX12_ruleHere_96 ?_
            obtain ⟨μ301, q300, h⟩ := g_bind h
            refine m_cVv mt_X12_needs ml_X12_187 mv_X12_needs dX12_ruleHere_97 (k_X12_needs q300) rfl rfl rfl rfl (by decide) ⟨Nat.le_refl _, Nat.le_refl _⟩ (Nat.le_of_ble_eq_true rfl) ?_
            refine g_aload_n dX12_ruleHere_100 rfl ?_
            refine g_aload_n dX12_ruleHere_101 rfl ?_
            refine g_bipush (v := 59) dX12_ruleHere_102 (by decide) ?_
            obtain ⟨x302, q303, h⟩ := g_bind h
            refine m_cV mt_X12_isByte ml_X12_194 mv_X12_isByte dX12_ruleHere_104 (k_X12_isByte q303) rfl rfl rfl rfl (by decide) ⟨Nat.le_refl _, Nat.le_refl _⟩ (Nat.le_of_ble_eq_true rfl) ?_
            obtain ⟨μ306, q305, h⟩ := g_bind h
            refine m_cVv mt_X12_needs ml_X12_187 mv_X12_needs dX12_ruleHere_107 (k_X12_needs q305) rfl rfl rfl rfl (by decide) ⟨Nat.le_refl _, Nat.le_refl _⟩ (Nat.le_of_ble_eq_true rfl) ?_
            refine g_aload_n dX12_ruleHere_110 rfl ?_
            refine m_getI fl_X12_169 rfl rfl dX12_ruleHere_111 ?_
            refine g_if_ne 168 (by decide) dX12_ruleHere_114 (fun c307 => ?_) (fun c307 => ?_)
            · have h := g_ifn c307 h
              obtain rfl := Option.some.inj h
              exact g_vret rfl (Nat.le_refl _) rfl dX12_ruleHere_168 ⟨rfl, rfl⟩
            · have h := g_ifp c307 h
              refine g_aload_n dX12_ruleHere_117 rfl ?_
              refine m_getR fl_X12_7 rfl rfl rfl dX12_ruleHere_118 ?_
              refine g_iload_n dX12_ruleHere_121 rfl ?_
              refine g_iload_n dX12_ruleHere_122 rfl ?_
              obtain ⟨μ308, qμ308, h⟩ := g_bind h
              refine m_iast rfl qμ308 dX12_ruleHere_123 ?_
              refine g_aload_n dX12_ruleHere_124 rfl ?_
              refine m_getR fl_X12_7 rfl rfl rfl dX12_ruleHere_125 ?_
              refine g_iload_n dX12_ruleHere_128 rfl ?_
              refine g_ic1 dX12_ruleHere_129 ?_
              refine g_iadd dX12_ruleHere_130 ?_
              refine g_iload dX12_ruleHere_131 rfl ?_
              obtain ⟨μ309, qμ309, h⟩ := g_bind h
              refine m_iast rfl qμ309 dX12_ruleHere_133 ?_
              refine g_aload_n dX12_ruleHere_134 rfl ?_
              refine m_getR fl_X12_7 rfl rfl rfl dX12_ruleHere_135 ?_
              refine g_iload_n dX12_ruleHere_138 rfl ?_
              refine g_ic2 dX12_ruleHere_139 ?_
              refine g_iadd dX12_ruleHere_140 ?_
              refine g_iload_n dX12_ruleHere_141 rfl ?_
              obtain ⟨μ310, qμ310, h⟩ := g_bind h
              refine m_iast rfl qμ310 dX12_ruleHere_142 ?_
              refine g_aload_n dX12_ruleHere_143 rfl ?_
              refine m_getR fl_X12_7 rfl rfl rfl dX12_ruleHere_144 ?_
              refine g_iload_n dX12_ruleHere_147 rfl ?_
              refine g_ic3 dX12_ruleHere_148 ?_
              refine g_iadd dX12_ruleHere_149 ?_
              refine g_aload_n dX12_ruleHere_150 rfl ?_
              refine m_getR fl_X12_7 rfl rfl rfl dX12_ruleHere_151 ?_
              refine g_bipush (v := 7) dX12_ruleHere_154 (by decide) ?_
              refine m_ialdc 7 rfl rfl (by decide) (by decide) dX12_ruleHere_156 ?_
              obtain ⟨μ311, qμ311, h⟩ := g_bind h
              refine m_iast rfl qμ311 dX12_ruleHere_157 ?_
              refine g_aload_n dX12_ruleHere_158 rfl ?_
              refine m_getR fl_X12_7 rfl rfl rfl dX12_ruleHere_159 ?_
              refine g_ic5 dX12_ruleHere_162 ?_
              refine g_dup2 dX12_ruleHere_163 rfl rfl ?_
              refine m_ialdc 5 rfl rfl (by decide) (by decide) dX12_ruleHere_164 ?_
              refine g_ic1 dX12_ruleHere_165 ?_
              refine g_iadd dX12_ruleHere_166 ?_
              obtain ⟨μ312, eμ312, h⟩ := g_let h
              refine m_iastc 5 rfl rfl (by decide) (by decide) dX12_ruleHere_167 eμ312 ?_
              obtain rfl := Option.some.inj h
              exact g_vret rfl (Nat.le_refl _) rfl dX12_ruleHere_168 ⟨rfl, rfl⟩
          · have h := g_ifn c298 h
            refine g_ic1 dX12_ruleHere_92 ?_
            refine g_goto 97 (by decide) dX12_ruleHere_93 ?_
            obtain ⟨μ315, q314, h⟩ := g_bind h
            refine m_cVv mt_X12_needs ml_X12_187 mv_X12_needs dX12_ruleHere_97 (k_X12_needs q314) rfl rfl rfl rfl (by decide) ⟨Nat.le_refl _, Nat.le_refl _⟩ (Nat.le_of_ble_eq_true rfl) ?_
            refine g_aload_n dX12_ruleHere_100 rfl ?_
            refine g_aload_n dX12_ruleHere_101 rfl ?_
            refine g_bipush (v := 59) dX12_ruleHere_102 (by decide) ?_
            obtain ⟨x316, q317, h⟩ := g_bind h
            refine m_cV mt_X12_isByte ml_X12_194 mv_X12_isByte dX12_ruleHere_104 (k_X12_isByte q317) rfl rfl rfl rfl (by decide) ⟨Nat.le_refl _, Nat.le_refl _⟩ (Nat.le_of_ble_eq_true rfl) ?_
            obtain ⟨μ320, q319, h⟩ := g_bind h
            refine m_cVv mt_X12_needs ml_X12_187 mv_X12_needs dX12_ruleHere_107 (k_X12_needs q319) rfl rfl rfl rfl (by decide) ⟨Nat.le_refl _, Nat.le_refl _⟩ (Nat.le_of_ble_eq_true rfl) ?_
            refine g_aload_n dX12_ruleHere_110 rfl ?_
            refine m_getI fl_X12_169 rfl rfl dX12_ruleHere_111 ?_
            refine g_if_ne 168 (by decide) dX12_ruleHere_114 (fun c321 => ?_) (fun c321 => ?_)
            · have h := g_ifn c321 h
              obtain rfl := Option.some.inj h
              exact g_vret rfl (Nat.le_refl _) rfl dX12_ruleHere_168 ⟨rfl, rfl⟩
            · have h := g_ifp c321 h
              refine g_aload_n dX12_ruleHere_117 rfl ?_
              refine m_getR fl_X12_7 rfl rfl rfl dX12_ruleHere_118 ?_
              refine g_iload_n dX12_ruleHere_121 rfl ?_
              refine g_iload_n dX12_ruleHere_122 rfl ?_
              obtain ⟨μ322, qμ322, h⟩ := g_bind h
              refine m_iast rfl qμ322 dX12_ruleHere_123 ?_
              refine g_aload_n dX12_ruleHere_124 rfl ?_
              refine m_getR fl_X12_7 rfl rfl rfl dX12_ruleHere_125 ?_
              refine g_iload_n dX12_ruleHere_128 rfl ?_
              refine g_ic1 dX12_ruleHere_129 ?_
              refine g_iadd dX12_ruleHere_130 ?_
              refine g_iload dX12_ruleHere_131 rfl ?_
              obtain ⟨μ323, qμ323, h⟩ := g_bind h
              refine m_iast rfl qμ323 dX12_ruleHere_133 ?_
              refine g_aload_n dX12_ruleHere_134 rfl ?_
              refine m_getR fl_X12_7 rfl rfl rfl dX12_ruleHere_135 ?_
              refine g_iload_n dX12_ruleHere_138 rfl ?_
              refine g_ic2 dX12_ruleHere_139 ?_
              refine g_iadd dX12_ruleHere_140 ?_
              refine g_iload_n dX12_ruleHere_141 rfl ?_
              obtain ⟨μ324, qμ324, h⟩ := g_bind h
              refine m_iast rfl qμ324 dX12_ruleHere_142 ?_
              refine g_aload_n dX12_ruleHere_143 rfl ?_
              refine m_getR fl_X12_7 rfl rfl rfl dX12_ruleHere_144 ?_
              refine g_iload_n dX12_ruleHere_147 rfl ?_
              refine g_ic3 dX12_ruleHere_148 ?_
              refine g_iadd dX12_ruleHere_149 ?_
              refine g_aload_n dX12_ruleHere_150 rfl ?_
              refine m_getR fl_X12_7 rfl rfl rfl dX12_ruleHere_151 ?_
              refine g_bipush (v := 7) dX12_ruleHere_154 (by decide) ?_
              refine m_ialdc 7 rfl rfl (by decide) (by decide) dX12_ruleHere_156 ?_
              obtain ⟨μ325, qμ325, h⟩ := g_bind h
              refine m_iast rfl qμ325 dX12_ruleHere_157 ?_
              refine g_aload_n dX12_ruleHere_158 rfl ?_
              refine m_getR fl_X12_7 rfl rfl rfl dX12_ruleHere_159 ?_
              refine g_ic5 dX12_ruleHere_162 ?_
              refine g_dup2 dX12_ruleHere_163 rfl rfl ?_
              refine m_ialdc 5 rfl rfl (by decide) (by decide) dX12_ruleHere_164 ?_
              refine g_ic1 dX12_ruleHere_165 ?_
              refine g_iadd dX12_ruleHere_166 ?_
              obtain ⟨μ326, eμ326, h⟩ := g_let h
              refine m_iastc 5 rfl rfl (by decide) (by decide) dX12_ruleHere_167 eμ326 ?_
              obtain rfl := Option.some.inj h
              exact g_vret rfl (Nat.le_refl _) rfl dX12_ruleHere_168 ⟨rfl, rfl⟩
set_option maxRecDepth 100000 in
set_option maxHeartbeats 4000000 in
theorem k_X12_rules_L2 {D : va_G} {cA : Nat → ClassId} {b k : Nat} {Q : Option Value → g_S → Prop} {N : Nat} : ∀ (n : Nat) (x_1 : Int32) (μ : g_M) (z_μ : g_M), f_X12_rules_L2 N n x_1 μ = some z_μ → g_V (g_XM D cA b) Y_X12_rules 42 0 0 Q k 0 0 27 [some (.ref 0), none] [] (z_μ, g_rfM) → g_V (g_XM D cA b) Y_X12_rules 42 0 0 Q k 0 0 2 [some (.ref 0), some (.int x_1)] [] (μ, g_rfM) := by
  intro n
  induction n with
  | zero =>
    intro x_1 μ z_μ h
    rw [f_X12_rules_L2] at h
    cases h
  | succ n ih =>
    intro x_1 μ z_μ h hc
    rw [f_X12_rules_L2] at h
    refine g_iload_n dX12_rules_2 rfl ?_
    refine g_sipush (v := 544) dX12_rules_3 (by decide) ?_
    refine g_icmp_ge 27 (by decide) dX12_rules_6 (fun c1 => ?_) (fun c1 => ?_)
    · have h := g_ifp c1 h
      obtain rfl := Option.some.inj h
      exact g_less _ (g_subS (g_subN g_sub0)) hc
    · have h := g_ifn c1 h
      refine g_aload_n dX12_rules_9 rfl ?_
      refine m_getR fl_X12_25 rfl rfl rfl dX12_rules_10 ?_
      refine g_iload_n dX12_rules_13 rfl ?_
      refine g_aload_n dX12_rules_14 rfl ?_
      refine m_getR fl_X12_7 rfl rfl rfl dX12_rules_15 ?_
      refine g_iload_n dX12_rules_18 rfl ?_
      obtain ⟨x2, qx2, h⟩ := g_bind h
      refine m_iald rfl qx2 dX12_rules_19 ?_
      obtain ⟨μ3, qμ3, h⟩ := g_bind h
      refine m_iast rfl qμ3 dX12_rules_20 ?_
      refine g_iinc_1 (v := 1) rfl (by decide) (Nat.le_of_ble_eq_true rfl) dX12_rules_21 ?_
      refine g_goto 2 (by decide) dX12_rules_24 ?_
      exact g_less _ (g_subS (g_subS g_sub0)) (ih _ _ _ h hc)
set_option maxRecDepth 100000 in
set_option maxHeartbeats 4000000 in
theorem k_X12_rules_L56 {D : va_G} {cA : Nat → ClassId} {b k : Nat} {Q : Option Value → g_S → Prop} {N : Nat} : ∀ (n : Nat) (μ : g_M) (z_μ : g_M), f_X12_rules_L56 N n μ = some z_μ → g_V (g_XM D cA b) Y_X12_rules 42 0 0 Q k 0 0 77 [some (.ref 0), none] [] (z_μ, g_rfM) → g_V (g_XM D cA b) Y_X12_rules 42 0 0 Q k 0 0 56 [some (.ref 0), none] [] (μ, g_rfM) := by
  intro n
  induction n with
  | zero =>
    intro μ z_μ h
    rw [f_X12_rules_L56] at h
    cases h
  | succ n ih =>
    intro μ z_μ h hc
    rw [f_X12_rules_L56] at h
    refine g_aload_n dX12_rules_56 rfl ?_
    refine m_getI fl_X12_169 rfl rfl dX12_rules_57 ?_
    refine g_if_ne 77 (by decide) dX12_rules_60 (fun c10 => ?_) (fun c10 => ?_)
    · have h := g_ifn c10 h
      obtain rfl := Option.some.inj h
      exact g_less _ (g_subS (g_subN g_sub0)) hc
    · have h := g_ifp c10 h
      refine g_aload_n dX12_rules_63 rfl ?_
      refine m_getI fl_X12_163 rfl rfl dX12_rules_64 ?_
      refine g_if_eq 77 (by decide) dX12_rules_67 (fun c11 => ?_) (fun c11 => ?_)
      · have h := g_ifp c11 h
        obtain rfl := Option.some.inj h
        exact g_less _ (g_subS (g_subN g_sub0)) hc
      · have h := g_ifn c11 h
        refine g_aload_n dX12_rules_70 rfl ?_
        obtain ⟨μ14, q13, h⟩ := g_bind h
        refine m_cVv mt_X12_ruleHere ml_X12_225 mv_X12_ruleHere dX12_rules_71 (k_X12_ruleHere q13) rfl rfl rfl rfl (by decide) ⟨Nat.le_refl _, Nat.le_refl _⟩ (Nat.le_of_ble_eq_true rfl) ?_
        refine g_goto 56 (by decide) dX12_rules_74 ?_
        exact g_less _ (g_subS (g_subN g_sub0)) (ih _ _ h hc)
set_option maxRecDepth 100000 in
set_option maxHeartbeats 4000000 in
theorem k_X12_rules_L84 {D : va_G} {cA : Nat → ClassId} {b k : Nat} {Q : Option Value → g_S → Prop} {N : Nat} : ∀ (n : Nat) (x_1 : Int32) (μ : g_M) (z_μ : g_M), f_X12_rules_L84 N n x_1 μ = some z_μ → g_V (g_XM D cA b) Y_X12_rules 42 0 0 Q k 0 0 116 [some (.ref 0), none] [] (z_μ, g_rfM) → g_V (g_XM D cA b) Y_X12_rules 42 0 0 Q k 0 0 84 [some (.ref 0), some (.int x_1)] [] (μ, g_rfM) := by
  intro n
  induction n with
  | zero =>
    intro x_1 μ z_μ h
    rw [f_X12_rules_L84] at h
    cases h
  | succ n ih =>
    intro x_1 μ z_μ h hc
    rw [f_X12_rules_L84] at h
    refine g_iload_n dX12_rules_84 rfl ?_
    refine g_sipush (v := 544) dX12_rules_85 (by decide) ?_
    refine g_icmp_ge 116 (by decide) dX12_rules_88 (fun c13 => ?_) (fun c13 => ?_)
    · have h := g_ifp c13 h
      obtain rfl := Option.some.inj h
      exact g_less _ (g_subS (g_subN g_sub0)) hc
    · have h := g_ifn c13 h
      refine g_aload_n dX12_rules_91 rfl ?_
      refine m_getI fl_X12_169 rfl rfl dX12_rules_92 ?_
      refine g_if_eq 116 (by decide) dX12_rules_95 (fun c14 => ?_) (fun c14 => ?_)
      · have h := g_ifp c14 h
        obtain rfl := Option.some.inj h
        exact g_less _ (g_subS (g_subN g_sub0)) hc
      · have h := g_ifn c14 h
        refine g_aload_n dX12_rules_98 rfl ?_
        refine m_getR fl_X12_7 rfl rfl rfl dX12_rules_99 ?_
        refine g_iload_n dX12_rules_102 rfl ?_
        refine g_aload_n dX12_rules_103 rfl ?_
        refine m_getR fl_X12_25 rfl rfl rfl dX12_rules_104 ?_
        refine g_iload_n dX12_rules_107 rfl ?_
        obtain ⟨x15, qx15, h⟩ := g_bind h
        refine m_iald rfl qx15 dX12_rules_108 ?_
        obtain ⟨μ16, qμ16, h⟩ := g_bind h
        refine m_iast rfl qμ16 dX12_rules_109 ?_
        refine g_iinc_1 (v := 1) rfl (by decide) (Nat.le_of_ble_eq_true rfl) dX12_rules_110 ?_
        refine g_goto 84 (by decide) dX12_rules_113 ?_
        exact g_less _ (g_subS (g_subS g_sub0)) (ih _ _ _ h hc)
set_option maxRecDepth 100000 in
set_option maxHeartbeats 4000000 in
theorem k_X12_rules {D : va_G} {cA : Nat → ClassId} {b k : Nat} {N : Nat} {μ : g_M} {z : Int32 × g_M} (h : f_X12_rules N μ = some z) : g_K (g_XM D cA b) yX12_rules Y_X12_rules 42 0 0 k [.ref 0] (μ, g_rfM) (fun r1 σ1 => r1 = some (.int z.1) ∧ σ1 = (z.2, g_rfM)) := by
  unfold f_X12_rules at h
  refine g_met 1 (by decide) rfl rfl (Nat.le_of_ble_eq_true rfl) ?_
  refine g_ic0 dX12_rules_0 ?_
  refine g_istore_1 rfl (Nat.le_of_ble_eq_true rfl) dX12_rules_1 ?_
  obtain ⟨μ1, q2, h⟩ := g_bind h
  refine g_less _ (g_subS (g_subS g_sub0)) (k_X12_rules_L2 _ _ _ _ q2 ?_)
  refine g_aload_n dX12_rules_27 rfl ?_
  refine m_getR fl_X12_7 rfl rfl rfl dX12_rules_28 ?_
  refine g_ic5 dX12_rules_31 ?_
  refine g_ic0 dX12_rules_32 ?_
  obtain ⟨μ3, eμ3, h⟩ := g_let h
  refine m_iastc 5 rfl rfl (by decide) (by decide) dX12_rules_33 eμ3 ?_
  refine g_aload_n dX12_rules_34 rfl ?_
  refine m_getR fl_X12_7 rfl rfl rfl dX12_rules_35 ?_
  refine g_bipush (v := 7) dX12_rules_38 (by decide) ?_
  refine g_ic0 dX12_rules_40 ?_
  obtain ⟨μ4, eμ4, h⟩ := g_let h
  refine m_iastc 7 rfl rfl (by decide) (by decide) dX12_rules_41 eμ4 ?_
  refine g_aload_n dX12_rules_42 rfl ?_
  refine g_ic0 dX12_rules_43 ?_
  obtain ⟨μ5, eμ5, h⟩ := g_let h
  refine m_putI fl_X12_148 fw_12_10 rfl rfl rfl rfl dX12_rules_44 eμ5 ?_
  refine g_aload_n dX12_rules_47 rfl ?_
  refine g_ic0 dX12_rules_48 ?_
  obtain ⟨μ6, eμ6, h⟩ := g_let h
  refine m_putI fl_X12_169 fw_12_12 rfl rfl rfl rfl dX12_rules_49 eμ6 ?_
  refine g_aload_n dX12_rules_52 rfl ?_
  obtain ⟨μ9, q8, h⟩ := g_bind h
  refine m_cVv mt_X12_nextToken ml_X12_173 mv_X12_nextToken dX12_rules_53 (k_X12_nextToken q8) rfl rfl rfl rfl (by decide) ⟨Nat.le_refl _, Nat.le_refl _⟩ (Nat.le_of_ble_eq_true rfl) ?_
  obtain ⟨μ10, q11, h⟩ := g_bind h
  refine g_less _ (g_subS (g_subN g_sub0)) (k_X12_rules_L56 _ _ _ q11 ?_)
  refine g_aload_n dX12_rules_77 rfl ?_
  refine g_ic0 dX12_rules_78 ?_
  obtain ⟨μ12, eμ12, h⟩ := g_let h
  refine m_putI fl_X12_143 fw_12_5 rfl rfl rfl rfl dX12_rules_79 eμ12 ?_
  refine g_ic0 dX12_rules_82 ?_
  refine g_istore_1 rfl (Nat.le_of_ble_eq_true rfl) dX12_rules_83 ?_
  obtain ⟨μ13, q14, h⟩ := g_bind h
  refine g_less _ (g_subS (g_subS g_sub0)) (k_X12_rules_L84 _ _ _ _ q14 ?_)
  refine g_aload_n dX12_rules_116 rfl ?_
  refine m_getI fl_X12_169 rfl rfl dX12_rules_117 ?_
  refine g_if_eq 133 (by decide) dX12_rules_120 (fun c15 => ?_) (fun c15 => ?_)
  · have h := g_ifp c15 h
    refine g_aload_n dX12_rules_133 rfl ?_
    refine m_getR fl_X12_7 rfl rfl rfl dX12_rules_134 ?_
    refine g_ic5 dX12_rules_137 ?_
    refine m_ialdc 5 rfl rfl (by decide) (by decide) dX12_rules_138 ?_
    obtain rfl := Option.some.inj h
    exact g_iret rfl (Nat.le_refl _) rfl dX12_rules_139 ⟨rfl, rfl⟩
  · have h := g_ifn c15 h
    refine g_bipush (v := (-100)) dX12_rules_123 (by decide) ?_
    refine g_aload_n dX12_rules_125 rfl ?_
    refine m_getI fl_X12_151 rfl rfl dX12_rules_126 ?_
    refine g_isub dX12_rules_129 ?_
    refine g_goto 139 (by decide) dX12_rules_130 ?_
    obtain rfl := Option.some.inj h
    exact g_iret rfl (Nat.le_refl _) rfl dX12_rules_139 ⟨rfl, rfl⟩
