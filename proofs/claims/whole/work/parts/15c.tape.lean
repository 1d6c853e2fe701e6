/-- readTape's answer -/
def g_rt (r : Nat) (w c : Int32) : Value := if w = 0 then .null else if c = 26 then .ref r else .null
section RT
variable {D : va_G} {cA : Nat → ClassId} {b b2 k : Nat} {dyn : Nat → Nat} {t s : Nat}
theorem k_X8_readTape_66 {r ks ms : Nat} {w x fa c : Int32} {μ5 : g_M} (hks : ks ≤ ms) (h4 : g_rd μ5 48 201 (μ5 45 5) = some fa) (h5 : g_rd μ5 47 201 (μ5 45 5) = some c) : g_V (g_XX D cA b b2 dyn) Y_X8_readTape 27 5 ms (fun r1 σ1 => r1 = some (g_rt r w c) ∧ σ1 = (g_set μ5 45 7 fa, g_rfX t s)) k 5 ks 66 [some (.ref 45), some (.ref r), some (.int w), some (.int x)] [] (μ5, g_rfX t s) := by
  refine g_aload_n dX8_readTape_66 rfl ?_
  refine g_aload_n dX8_readTape_67 rfl ?_
  refine m_getR fl_X8_18 rfl rfl rfl dX8_readTape_68 ?_
  refine g_aload_n dX8_readTape_71 rfl ?_
  refine m_getI fl_X8_31 rfl rfl dX8_readTape_72 ?_
  refine m_iald rfl h4 dX8_readTape_75 ?_
  refine m_putI' fl_X8_46 fw_8_7 rfl rfl rfl rfl dX8_readTape_76 ?_
  refine g_iload_n dX8_readTape_79 rfl ?_
  refine g_if_eq 101 (by decide) dX8_readTape_80 (fun c1 => ?_) (fun c1 => ?_)
  · refine g_null dX8_readTape_101 ?_
    exact g_aret rfl hks rfl (Or.inl rfl) dX8_readTape_102 ⟨by unfold g_rt; rw [if_pos c1], rfl⟩
  · refine g_aload_n dX8_readTape_83 rfl ?_
    refine m_getR fl_X8_15 rfl rfl rfl dX8_readTape_84 ?_
    refine g_aload_n dX8_readTape_87 rfl ?_
    refine m_getI fl_X8_31 rfl rfl dX8_readTape_88 ?_
    have h5' : g_rd (g_set μ5 45 7 fa) 47 201 (g_set μ5 45 7 fa 45 5) = some c := h5
    refine m_iald rfl h5' dX8_readTape_91 ?_
    refine g_bipush (v := 26) dX8_readTape_92 (by decide) ?_
    refine g_icmp_ne 101 (by decide) dX8_readTape_94 (fun c2 => ?_) (fun c2 => ?_)
    · refine g_null dX8_readTape_101 ?_
      exact g_aret rfl hks rfl (Or.inl rfl) dX8_readTape_102 ⟨by unfold g_rt; rw [if_neg c1, if_neg c2], rfl⟩
    · refine g_aload_n dX8_readTape_97 rfl ?_
      refine g_goto 102 (by decide) dX8_readTape_98 ?_
      exact g_aret rfl hks rfl (Or.inr ⟨r, rfl⟩) dX8_readTape_102 ⟨by unfold g_rt; rw [if_neg c1, if_pos c2], rfl⟩
theorem k_X8_readTape_L30 {N r L ks ms : Nat} {w fa c : Int32} {μ5 : g_M} (hR : g_RO (g_XX D cA b b2 dyn) (k + 5) (g_rfX t s) r L) (hks : ks ≤ ms) (h4 : g_rd μ5 48 201 (μ5 45 5) = some fa) (h5 : g_rd μ5 47 201 (μ5 45 5) = some c) : ∀ (n : Nat) (x w0 : Int32) (μ : g_M), pp_rtL N r L n x w0 μ = some (w, μ5) → g_V (g_XX D cA b b2 dyn) Y_X8_readTape 27 5 ms (fun r1 σ1 => r1 = some (g_rt r w c) ∧ σ1 = (g_set μ5 45 7 fa, g_rfX t s)) k 5 ks 30 [some (.ref 45), some (.ref r), some (.int w0), some (.int x)] [] (μ, g_rfX t s) := by
  intro n
  induction n with
  | zero => intro x w0 μ h; cases h
  | succ n ih =>
    intro x w0 μ h
    rw [pp_rtL] at h
    refine g_iload_n dX8_readTape_30 rfl ?_
    refine g_bipush (v := 8) dX8_readTape_31 (by decide) ?_
    refine g_icmp_ge 66 (by decide) dX8_readTape_33 (fun c1 => ?_) (fun c1 => ?_)
    · rw [if_pos c1] at h
      cases h
      exact k_X8_readTape_66 hks h4 h5
    rw [if_neg c1] at h
    refine g_iload_n dX8_readTape_36 rfl ?_
    refine g_if_eq 66 (by decide) dX8_readTape_37 (fun c2 => ?_) (fun c2 => ?_)
    · rw [if_pos c2] at h
      cases h
      exact k_X8_readTape_66 hks h4 h5
    rw [if_neg c2] at h
    obtain ⟨cc, q1, h⟩ := g_bind h
    refine g_aload_n dX8_readTape_40 rfl ?_
    refine m_getR fl_X8_15 rfl rfl rfl dX8_readTape_41 ?_
    refine g_aload_n dX8_readTape_44 rfl ?_
    refine m_getI fl_X8_31 rfl rfl dX8_readTape_45 ?_
    refine m_iald rfl q1 dX8_readTape_48 ?_
    refine g_bipush (v := 26) dX8_readTape_49 (by decide) ?_
    refine g_icmp_eq 66 (by decide) dX8_readTape_51 (fun c3 => ?_) (fun c3 => ?_)
    · rw [if_pos c3] at h
      cases h
      exact k_X8_readTape_66 hks h4 h5
    rw [if_neg c3] at h
    obtain ⟨z1, q2, h⟩ := g_bind h
    refine g_aload_n dX8_readTape_54 rfl ?_
    refine g_aload_n dX8_readTape_55 rfl ?_
    refine m_cV mt_X8_readRule ml_X8_42 mv_X8_readRule dX8_readTape_56 (k_X8_readRule_R hR q2) rfl rfl rfl rfl (by decide) ⟨Nat.le_refl _, hks⟩ (Nat.le_of_ble_eq_true rfl) ?_
    refine g_istore_2 rfl (Nat.le_of_ble_eq_true rfl) dX8_readTape_59 ?_
    refine g_iinc_3 (v := 1) rfl (by decide) (Nat.le_of_ble_eq_true rfl) dX8_readTape_60 ?_
    refine g_goto 30 (by decide) dX8_readTape_63 ?_
    exact ih (x + 1) z1.1 z1.2 h
/-- references of the cells that are there -/
def g_ro (r : Nat) (ρ : g_R) : g_R := fun i j => if r ≤ i then none else ρ i j
theorem k_X8_readTape {N W : Nat} {w fa c : Int32} {μ μ1 μ5 : g_M} (hk : k % 5 = 0) (hd : dyn (k / 5) = 3 * W) (hW : W ≤ 200) (h1 : f_X8_splitTape N μ = some μ1) (h2 : μ1 45 4 = pp_i W) (h3 : pp_rtL N (63 + k) (3 * W) N 0 1 (pp_new (63 + k) (g_set (g_set μ1 45 6 0) 45 5 0)) = some (w, μ5)) (h4 : g_rd μ5 48 201 (μ5 45 5) = some fa) (h5 : g_rd μ5 47 201 (μ5 45 5) = some c) : g_K (g_XX D cA b b2 dyn) yX8_readTape Y_X8_readTape 27 5 (30 + 3 * W) k [.ref 45] (μ, g_rfX t s) (fun r1 σ1 => r1 = some (g_rt (63 + k) w c) ∧ σ1 = (g_set μ5 45 7 fa, g_rfX t s)) := by
  refine g_met 3 (by decide) rfl rfl (Nat.le_of_ble_eq_true rfl) ?_
  refine g_aload_n dX8_readTape_0 rfl ?_
  refine m_cVv mt_X8_splitTape ml_X8_28 mv_X8_splitTape dX8_readTape_1 (k_X8_splitTape h1) rfl rfl rfl rfl (by decide) ⟨Nat.zero_le _, Nat.zero_le _⟩ (Nat.le_of_ble_eq_true rfl) ?_
  refine g_aload_n dX8_readTape_4 rfl ?_
  refine g_ic0 dX8_readTape_5 ?_
  refine m_putI' fl_X8_24 fw_8_6 rfl rfl rfl rfl dX8_readTape_6 ?_
  refine g_aload_n dX8_readTape_9 rfl ?_
  refine g_ic0 dX8_readTape_10 ?_
  refine m_putI' fl_X8_31 fw_8_5 rfl rfl rfl rfl dX8_readTape_11 ?_
  have hex : ∀ (id : Nat) (sp : Nat × Nat × Nat), (g_XX D cA b b2 dyn).2.2.2.1 (k + 0) id = some sp → id < 63 + k := by
    intro id sp h
    have h' : g_shX dyn k id = some sp := h
    unfold g_shX at h'
    by_cases e : id < 63
    · omega
    · rw [if_neg e] at h'
      by_cases e2 : id < 63 + k
      · exact e2
      · rw [if_neg e2] at h'
        cases h'
  refine g_oth (σ' := (pp_new (63 + k) (g_set (g_set μ1 45 6 0) 45 5 0), g_ro (63 + k) (g_rfX t s))) (fun id sp hs => ?_) ?_
  · have hlt := hex id sp hs
    refine ⟨?_, ?_⟩
    · exact pp_new_lo hlt
    · funext j
      show (if 63 + k ≤ id then none else g_rfX t s id j) = g_rfX t s id j
      rw [if_neg (by omega)]
  have hz : ∀ i : Nat, 63 + k ≤ i → ∀ j : Nat, pp_new (63 + k) (g_set (g_set μ1 45 6 0) 45 5 0) i j = 0 ∧ g_ro (63 + k) (g_rfX t s) i j = none := fun i hi j => ⟨pp_new_hi hi, if_pos hi⟩
  refine m_new (id := 63 + k) mk_X7 fr_X7 cl_X8_34 (g_nx_X rfl (by rw [Nat.add_zero, if_pos hk])) (hz _ (Nat.le_refl _)) ⟨Nat.le_of_ble_eq_true rfl, by omega⟩ dX8_readTape_14 ?_
  refine g_dup dX8_readTape_17 rfl ?_
  refine g_aload_n dX8_readTape_18 rfl ?_
  refine m_getI fl_X8_36 rfl rfl dX8_readTape_19 ?_
  have e46 : pp_new (63 + k) (g_set (g_set μ1 45 6 0) 45 5 0) 45 4 = pp_i W := by
    rw [pp_new_lo (by omega), ← h2]
    rfl
  rw [e46]
  have hmx : g_max 0 (pp_i W) * 3 = pp_i (3 * W) := by
    have e1 : g_max 0 (pp_i W) = pp_i W := by
      unfold g_max
      by_cases e : (0 : Int32) < pp_i W
      · rw [if_pos e]
      · rw [if_neg e]
        by_cases e0 : W = 0
        · rw [e0]
          rfl
        · refine absurd ?_ e
          rw [Int32.lt_iff_toInt_lt, pp_int (by omega)]
          show (0 : Int) < (W : Int)
          omega
    rw [e1, Nat.mul_comm 3 W, ← pp_mul]
    rfl
  refine m_ctor mt_X7_init ml_X8_39 ci_X7 dX8_readTape_22 (k_X7_init (N := 3 * W) (o := 63 + k) (fun i hi => g_sh_X (by omega) (by rw [if_pos hk])) (g_nx_X (by omega) (by rw [if_neg (by omega), if_neg (by omega)])) (g_nx_X (by omega) (by rw [if_neg (by omega), if_neg (by omega)])) (g_nx_X (by omega) (by rw [if_neg (by omega), if_neg (by omega)])) (g_nx_X (by omega) (by rw [if_neg (by omega), if_pos (by omega), show (k + (0 + 1) + 3) / 5 = k / 5 by omega, hd])) (by rw [hmx]; show (pp_i (3 * W)).toInt.toNat = 3 * W; rw [pp_int (by omega)]; rfl) (by rw [hmx, Int32.lt_iff_toInt_lt, pp_int (by omega)]; show ¬ ((3 * W : Nat) : Int) < 0; omega) (by omega) (hz _ (by omega)) (hz _ (by omega)) (hz _ (by omega)) (hz _ (by omega))) rfl rfl (by decide) ⟨Nat.le_of_ble_eq_true rfl, by omega⟩ (Nat.le_of_ble_eq_true rfl) ?_
  refine g_astore_1 rfl (Nat.le_of_ble_eq_true rfl) dX8_readTape_25 ?_
  refine g_ic1 dX8_readTape_26 ?_
  refine g_istore_2 rfl (Nat.le_of_ble_eq_true rfl) dX8_readTape_27 ?_
  refine g_ic0 dX8_readTape_28 ?_
  refine g_istore_3 rfl (Nat.le_of_ble_eq_true rfl) dX8_readTape_29 ?_
  refine g_oth (σ' := (pp_new (63 + k) (g_set (g_set μ1 45 6 0) 45 5 0), g_rfX t s)) (fun id sp hs => ⟨rfl, ?_⟩) ?_
  · funext j
    have hlt : id < 63 + k + 5 := by
      have h' : g_shX dyn (k + (0 + 1 + 4)) id = some sp := hs
      unfold g_shX at h'
      by_cases e : id < 63
      · omega
      · rw [if_neg e] at h'
        by_cases e2 : id < 63 + (k + (0 + 1 + 4))
        · omega
        · rw [if_neg e2] at h'
          cases h'
    show g_rfX t s id j = g_r_X7 (63 + k) (g_ro (63 + k) (g_rfX t s)) id j
    unfold g_r_X7 g_sef g_ro
    by_cases e : id < 63 + k
    · rw [if_neg (by omega), if_neg (by omega), if_neg (by omega), if_neg (by omega), if_neg (by omega)]
    · rw [g_rfX_n (by omega)]
      by_cases e0 : id = 63 + k
      · subst e0
        by_cases j0 : j = 0
        · subst j0
          rw [if_pos (by omega), if_neg (by omega), if_neg (by omega), if_neg (by omega), if_pos (by omega)]
        by_cases j1 : j = 1
        · subst j1
          rw [if_pos (by omega), if_neg (by omega), if_neg (by omega), if_pos (by omega)]
        by_cases j2 : j = 2
        · subst j2
          rw [if_pos (by omega), if_neg (by omega), if_pos (by omega)]
        by_cases j3 : j = 3
        · subst j3
          rw [if_pos (by omega), if_pos (by omega)]
        rw [if_neg (by omega), if_neg (by omega), if_neg (by omega), if_neg (by omega), if_neg (by omega), if_pos (by omega)]
      · rw [if_neg (by omega), if_neg (by omega), if_neg (by omega), if_neg (by omega), if_neg (by omega), if_pos (by omega)]
  exact k_X8_readTape_L30 (g_RO_new hk hd) (by omega) h4 h5 N 0 1 _ h3
end RT
