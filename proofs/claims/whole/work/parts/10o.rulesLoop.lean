/-! ===== RULE after RULE ===== -/
def pp_rtL (N r L : Nat) : Nat → Int32 → Int32 → g_M → Option (Int32 × g_M)
  | 0, _, _, _ => none
  | n + 1, x, w, μ => if x ≥ 8 then some (w, μ) else if w = 0 then some (w, μ) else (g_rd μ 47 201 (μ 45 5)).bind fun c => if c = 26 then some (w, μ) else (f_X8_readRule_R N r L μ).bind fun (w1, μ1) => pp_rtL N r L n (x + 1) w1 μ1
theorem pp_M_rule8 {N l p S op : Nat} {b : Nat → Nat} {μ : g_M} (h : pp_PM μ l b p 0 S op) (h5 : μ 1 5 = pp_i 8) : ∃ μ1 : g_M, f_X12_ruleHere N μ = some μ1 ∧ pp_PM μ1 l b p 1 S op ∧ pp_F pp_Sr μ μ1 := by
  have hkind := pp_M_kind h.1 h.2.2.1 h.2.1 h.2.2.2.1
  obtain ⟨μ2, n1, n2, n3⟩ := pp_M_need0 (N := N) h
  obtain ⟨μ3, v1, v2, v3⟩ := pp_W_rEnd (N := N) (x1 := 38 + 4 * (μ 1 5)) (x2 := if 0 ≤ pp_cx l b p ∧ pp_cx l b p ≤ 5 then pp_i (pp_cx l b p - 0) else -1) (bg := μ2 1 7) n2
  refine ⟨μ3, ?_, v2, n3.trans v3⟩
  have e0 : (if (if 0 ≤ pp_cx l b p ∧ pp_cx l b p ≤ 5 then pp_i (pp_cx l b p - 0) else -1) < 0 then (0 : Int32) else if μ 1 5 ≥ 8 then 0 else 1) = 0 := by
    rw [if_pos (show μ 1 5 ≥ 8 by rw [h5]; decide)]
    exact ite_self _
  rw [pp_rule_i, hkind]
  simp only [Option.bind_some]
  rw [e0, n1]
  simp only [Option.bind_some]
  rw [if_neg (show ¬ μ2 0 12 = 0 by rw [n2.2.2.2.2.1]; decide)]
  exact v1
theorem pp_M_tk0 {l p : Nat} {b : Nat → Nat} {μ : g_M} (h : pp_TK μ l b p) : (μ 0 8 = 0) = (p = l) := by
  obtain ⟨h1, h2, h3, h4⟩ := h
  refine propext ⟨fun q => ?_, fun q => (h4 q).2⟩
  rcases Nat.lt_or_ge p l with c | c
  · rw [(h3 c).2.1] at q
    unfold pp_tkn at q
    exfalso
    revert q
    split
    · decide
    · split <;> decide
  · omega
theorem pp_W_L56 {N n l p S op : Nat} {b : Nat → Nat} {μ : g_M} (hn : 0 < n) (h : pp_PM μ l b p 1 S op) : f_X12_rules_L56 N n μ = some μ := by
  obtain ⟨n, rfl⟩ : ∃ k, n = k + 1 := ⟨n - 1, by omega⟩
  rw [f_X12_rules_L56, h.2.2.2.2.1, if_neg (show ¬ pp_i 1 = (0 : Int32) by decide)]
theorem pp_J_rulesL {N l W r : Nat} {b : Nat → Nat} (hN : 300 ≤ N) (hr : 60 < r) : ∀ (m n1 n2 j S R op : Nat) (μX μM : g_M), W ≤ j + m → m < n1 → m + 1 < n2 → pp_J μX μM l b W j r S op → pp_RL μX μM r R S → S ≤ j → 2 * S ≤ pp_wp l b j →
    ∃ (w : Int32) (μX1 μM1 : g_M), pp_rtL N r (3 * W) n1 (pp_i R) 1 μX = some (w, μX1) ∧ f_X12_rules_L56 N n2 μM = some μM1 ∧ pp_F (pp_So r) μX μX1 ∧ pp_F pp_Sn μM μM1 ∧
      ((w = 1 ∧ ∃ S1 R1 op1 : Nat, pp_J μX1 μM1 l b W W r S1 op1 ∧ pp_RL μX1 μM1 r R1 S1 ∧ S1 ≤ W ∧ 2 * S1 ≤ l) ∨ (∃ j1 S1 S2 op1 : Nat, (w = 0 ∨ j1 < W) ∧ pp_PX μX1 l b W j1 r S1 ∧ pp_PM μM1 l b (pp_wp l b j1) 1 S2 op1)) := by
  intro m
  induction m with
  | zero =>
    intro n1 n2 j S R op μX μM hj h1 h2 hJ hRL hSj hSw
    obtain ⟨n1, rfl⟩ : ∃ n, n1 = n + 1 := ⟨n1 - 1, by omega⟩
    obtain ⟨n2, rfl⟩ : ∃ n, n2 = n + 1 := ⟨n2 - 1, by omega⟩
    have hjW : j = W := by have := hJ.1.2.2.1; omega
    subst hjW
    have hpw : pp_wp l b j = l := hJ.1.1.1
    have hcode := pp_PX_code hJ.1
    have hj1 : μX 45 5 = pp_i j := hJ.1.2.1
    refine ⟨1, μX, μM, ?_, ?_, pp_F.refl, pp_F.refl, Or.inl ⟨rfl, S, R, op, hJ, hRL, hSj, by omega⟩⟩
    · rw [pp_rtL]
      split
      · rfl
      · rw [if_neg (by decide), hj1, hcode, hpw, show pp_cx l b l = 26 from if_neg (Nat.lt_irrefl l)]
        rfl
    · rw [f_X12_rules_L56, hJ.2.1.2.2.2.2.1, if_pos (show pp_i 0 = (0 : Int32) from rfl), if_pos (by rw [pp_M_tk0 hJ.2.1.2.2.2.1]; exact hpw)]
  | succ m ih =>
    intro n1 n2 j S R op μX μM hj h1 h2 hJ hRL hSj hSw
    obtain ⟨n1, rfl⟩ : ∃ n, n1 = n + 1 := ⟨n1 - 1, by omega⟩
    obtain ⟨n2, rfl⟩ : ∃ n, n2 = n + 1 := ⟨n2 - 1, by omega⟩
    have hjW : j ≤ W := hJ.1.2.2.1
    have hcode := pp_PX_code hJ.1
    have hj1 : μX 45 5 = pp_i j := hJ.1.2.1
    by_cases cW : j = W
    · subst cW
      have hpw : pp_wp l b j = l := hJ.1.1.1
      refine ⟨1, μX, μM, ?_, ?_, pp_F.refl, pp_F.refl, Or.inl ⟨rfl, S, R, op, hJ, hRL, hSj, by omega⟩⟩
      · rw [pp_rtL]
        split
        · rfl
        · rw [if_neg (by decide), hj1, hcode, hpw, show pp_cx l b l = 26 from if_neg (Nat.lt_irrefl l)]
          rfl
      · rw [f_X12_rules_L56, hJ.2.1.2.2.2.2.1, if_pos (show pp_i 0 = (0 : Int32) from rfl), if_pos (by rw [pp_M_tk0 hJ.2.1.2.2.2.1]; exact hpw)]
    · have hlt : j < W := by omega
      have hp : pp_wp l b j < l := by rw [← pp_PX_lt hJ.1]; exact hlt
      have h26 : ¬ pp_i (pp_cx l b (pp_wp l b j)) = (26 : Int32) := by
        have e : pp_cx l b (pp_wp l b j) = pp_cd l b (pp_wp l b j) := if_pos hp
        have := pp_cd_le (l := l) (b := b) (p := pp_wp l b j)
        exact fun q => absurd (pp_inj (a := pp_cx l b (pp_wp l b j)) (b := 26) (by omega) (by omega) q) (by omega)
      have hL56 : f_X12_rules_L56 N (n2 + 1) μM = (f_X12_ruleHere N μM).bind fun μ14 => f_X12_rules_L56 N n2 μ14 := by
        rw [f_X12_rules_L56, hJ.2.1.2.2.2.2.1, if_pos (show pp_i 0 = (0 : Int32) from rfl), if_neg (by rw [pp_M_tk0 hJ.2.1.2.2.2.1]; omega)]
      rcases Nat.lt_or_ge R 8 with hR | hR
      · obtain ⟨x, μX1, μM1, k1, k2, f1, f2, k3⟩ := pp_J_rule hN hr hJ hRL hR hSj hSw
        have hX : pp_rtL N r (3 * W) (n1 + 1) (pp_i R) 1 μX = pp_rtL N r (3 * W) n1 (pp_i (R + 1)) x μX1 := by
          rw [pp_rtL, show (8 : Int32) = pp_i 8 from rfl, pp_ite (pp_ge (by omega) (by omega)), if_neg (by omega), if_neg (by decide), hj1, hcode]
          simp only [Option.bind_some]
          rw [if_neg h26, k1]
          simp only [Option.bind_some]
          rw [show pp_i R + 1 = pp_i (R + 1) from pp_add R 1]
        rw [hX, hL56, k2]
        simp only [Option.bind_some]
        rcases k3 with ⟨hx, j1, S1, op1, g1, g2, g3, g4, g5⟩ | ⟨hx, j1, S1, S2, op1, g1, g2⟩
        · subst hx
          obtain ⟨w, μX2, μM2, u1, u2, u3, u4, u5⟩ := ih n1 n2 j1 S1 (R + 1) op1 μX1 μM1 (by omega) (by omega) (by omega) g1 g2 g3 g4
          exact ⟨w, μX2, μM2, u1, u2, f1.trans u3, f2.trans u4, u5⟩
        · subst hx
          refine ⟨0, μX1, μM1, ?_, pp_W_L56 (by omega) g2, f1, f2, Or.inr ⟨j1, S1, S2, op1, Or.inl rfl, g1, g2⟩⟩
          obtain ⟨n1, rfl⟩ : ∃ n, n1 = n + 1 := ⟨n1 - 1, by omega⟩
          rw [pp_rtL]
          split
          · rfl
          · rfl
      · have e8 : R = 8 := by have := hRL.1; omega
        subst e8
        obtain ⟨μM1, k1, k2, k3⟩ := pp_M_rule8 (N := N) hJ.2.1 hRL.2.1
        refine ⟨1, μX, μM1, ?_, ?_, pp_F.refl, pp_Sn_r k3, Or.inr ⟨j, S, S, op, Or.inr hlt, hJ.1, k2⟩⟩
        · rw [pp_rtL, if_pos (show pp_i 8 ≥ (8 : Int32) by decide)]
        · rw [hL56, k1]
          exact pp_W_L56 (by omega) k2
