/-! ===== a RULE is read by both ===== -/
def pp_rO (μX μM : g_M) (l : Nat) (b : Nat → Nat) (W r R j : Nat) (x : Int32) (μX1 μM1 : g_M) : Prop :=
  pp_F (pp_So r) μX μX1 ∧ pp_F pp_Sn μM μM1 ∧ ((x = 1 ∧ ∃ j1 S1 op1 : Nat, pp_J μX1 μM1 l b W j1 r S1 op1 ∧ pp_RL μX1 μM1 r (R + 1) S1 ∧ S1 ≤ j1 ∧ 2 * S1 ≤ pp_wp l b j1 ∧ j < j1) ∨ (x = 0 ∧ ∃ j1 S1 S2 op1 : Nat, pp_PX μX1 l b W j1 r S1 ∧ pp_PM μM1 l b (pp_wp l b j1) 1 S2 op1))
theorem pp_J_end {N l W j0 j r R S S2 op k L : Nat} {b : Nat → Nat} {μX0 μM0 μX μM : g_M} (hN : 300 ≤ N) (hr : 60 < r) (hJ : pp_J μX μM l b W j r S2 op) (hRL : pp_RL μX μM r R S) (hR : R < 8) (hS : S ≤ S2) (hk : k ≤ 5) (hg : S = S2 ∨ pp_gd (pp_q (μM 1)) 9 S (S2 - S)) (hSj : S2 ≤ j) (hSw : 2 * S2 ≤ pp_wp l b j) (hj0 : j0 < j) (hX0 : pp_F (pp_So r) μX0 μX) (hM0 : pp_F pp_Sn μM0 μM) :
    ∃ (x : Int32) (μX1 μM1 : g_M), ((g_rd μX 47 201 (μX 45 5)).bind fun x10 => (some (x10 - 6)).bind fun x11 => (f_X8_pass 6 8 μX).bind fun (x12, μ14) => if x12 = 0 then some ((0 : Int32), μ14) else (f_X8_pass 19 19 μ14).bind fun (x16, μ18) => if x16 = 0 then some ((0 : Int32), μ18) else (f_X7_addRule r L (pp_i k) x11 μ18).bind fun μ22 => some ((1 : Int32), μ22)) = some (x, μX1) ∧ pp_rEnd N (pp_i (38 + 4 * R)) (pp_i k) (pp_i S) μM = some μM1 ∧ pp_rO μX0 μM0 l b W r R j0 x μX1 μM1 := by
  have hcode := pp_PX_code hJ.1
  have hj1 : μX 45 5 = pp_i j := hJ.1.2.1
  have hdo := pp_M_do hJ.2.1.1 hJ.2.1.2.2.1 hJ.2.1.2.1 hJ.2.1.2.2.2.1
  have hl2 : l ≤ 200 := hJ.1.2.2.2.2
  have hwl := pp_wp_le (l := l) (b := b)
  by_cases c6 : 6 ≤ pp_cx l b (pp_wp l b j) ∧ pp_cx l b (pp_wp l b j) ≤ 8
  · have hp := pp_lt_of_cx c6.2 (by decide)
    have hu := pp_wp_up hp
    have hnn : ¬ (pp_i (pp_cx l b (pp_wp l b j) - 6) < 0) := by
      rw [show (0 : Int32) = pp_i 0 from rfl, pp_lt (by omega) (by omega)]
      omega
    have hsub : pp_i (pp_cx l b (pp_wp l b j)) - 6 = pp_i (pp_cx l b (pp_wp l b j) - 6) := by
      rw [show (6 : Int32) = pp_i 6 from rfl, pp_sub c6.1]
    obtain ⟨μM2, n1, n2, n3⟩ := pp_M_need1 hN hJ.2.1 hp
    obtain ⟨μX2, k1, k2, k3⟩ := pp_J_pass hr hJ c6.1 c6.2 (by decide) n2 n3
    have k1 : f_X8_pass 6 8 μX = some (1, μX2) := k1
    have hb : f_X12_isByte 59 μM2 = some (if pp_cx l b (pp_wp l b (j + 1)) = 19 then 1 else 0) := pp_M_by1 (c := 59) (n := 19) n2.1 n2.2.2.1 n2.2.1 n2.2.2.2.1 (by decide)
    by_cases c19 : pp_cx l b (pp_wp l b (j + 1)) = 19
    · have hp2 := pp_lt_of_cx (Nat.le_of_eq c19) (by decide)
      have hu2 := pp_wp_up hp2
      obtain ⟨μM3, o1, o2, o3⟩ := pp_M_need1 hN n2 hp2
      obtain ⟨μX3, t1, t2, t3⟩ := pp_J_pass hr k2 (lo := 19) (hi := 19) (by omega) (by omega) (by decide) o2 o3
      have t1 : f_X8_pass 19 19 μX2 = some (1, μX3) := t1
      have hRL3 := (hRL.F hr (k3.trans t3) (pp_Fr (n3.trans o3)))
      have e1 : μM3 1 = μM 1 := pp_Fr1 (n3.trans o3)
      have hwl2 := hwl (j + 1)
      obtain ⟨μX4, μM4, u1, u2, u3, u4, u5, u6⟩ := pp_J_addRule (L := L) (k := k) (d := pp_cx l b (pp_wp l b j) - 6) hr t2 hRL3 hR hS (by omega) hk (by omega) (by rw [e1]; exact hg)
      refine ⟨1, μX4, μM4, ?_, ?_, (hX0.trans (pp_So_q (k3.trans t3))).trans u5, (hM0.trans (pp_Sn_r (n3.trans o3))).trans u6, Or.inl ⟨rfl, j + 1 + 1, S2, op, u3, u4, by omega, by omega, by omega⟩⟩
      · rw [hj1, hcode]
        simp only [Option.bind_some]
        rw [k1]
        simp only [Option.bind_some]
        rw [if_neg (by decide), t1]
        simp only [Option.bind_some]
        rw [if_neg (by decide), hsub, u1]
        rfl
      · unfold pp_rEnd
        rw [hdo]
        simp only [Option.bind_some]
        rw [if_pos c6, if_neg hnn, n1]
        simp only [Option.bind_some]
        rw [hb, if_pos c19]
        simp only [Option.bind_some]
        rw [o1]
        simp only [Option.bind_some]
        rw [o2.2.2.2.2.1, if_pos (show pp_i 0 = (0 : Int32) from rfl)]
        exact u2
    · obtain ⟨μM3, o1, o2, o3⟩ := pp_M_need0 (N := N) n2
      have st := pp_J_stay (lo := 19) (hi := 19) hr k2 (by omega) (by decide) (by decide)
      have st : f_X8_pass 19 19 μX2 = some (0, μX2) := st
      refine ⟨0, μX2, μM3, ?_, ?_, hX0.trans (pp_So_q k3), hM0.trans (pp_Sn_r (n3.trans o3)), Or.inr ⟨rfl, j + 1, S2, S2, op, k2.1, o2⟩⟩
      · rw [hj1, hcode]
        simp only [Option.bind_some]
        rw [k1]
        simp only [Option.bind_some]
        rw [if_neg (by decide), st]
        rfl
      · unfold pp_rEnd
        rw [hdo]
        simp only [Option.bind_some]
        rw [if_pos c6, if_neg hnn, n1]
        simp only [Option.bind_some]
        rw [hb, if_neg c19]
        simp only [Option.bind_some]
        rw [o1]
        simp only [Option.bind_some]
        rw [o2.2.2.2.2.1, if_neg (show ¬ pp_i 1 = (0 : Int32) by decide)]
  · obtain ⟨μM2, n1, n2, n3⟩ := pp_M_need0 (N := N) hJ.2.1
    have hb : f_X12_isByte 59 μM2 = some (if pp_cx l b (pp_wp l b j) = 19 then 1 else 0) := pp_M_by1 (c := 59) (n := 19) n2.1 n2.2.2.1 n2.2.1 n2.2.2.2.1 (by decide)
    obtain ⟨μM3, o1, o2, o3⟩ := pp_M_needW (N := N) (c := if pp_cx l b (pp_wp l b j) = 19 then 1 else 0) n2
    have st := pp_J_stay (lo := 6) (hi := 8) hr hJ c6 (by decide) (by decide)
    have st : f_X8_pass 6 8 μX = some (0, μX) := st
    refine ⟨0, μX, μM3, ?_, ?_, hX0, hM0.trans (pp_Sn_r (n3.trans o3)), Or.inr ⟨rfl, j, S2, S2, op, hJ.1, o2⟩⟩
    · rw [hj1, hcode]
      simp only [Option.bind_some]
      rw [st]
      rfl
    · unfold pp_rEnd
      rw [hdo]
      simp only [Option.bind_some]
      rw [if_neg c6, if_pos (show (-1 : Int32) < 0 by decide), n1]
      simp only [Option.bind_some]
      rw [hb]
      simp only [Option.bind_some]
      rw [o1]
      simp only [Option.bind_some]
      rw [o2.2.2.2.2.1, if_neg (show ¬ pp_i 1 = (0 : Int32) by decide)]
theorem pp_J_rule {N l W j r R S op : Nat} {b : Nat → Nat} {μX μM : g_M} (hN : 300 ≤ N) (hr : 60 < r) (hJ : pp_J μX μM l b W j r S op) (hRL : pp_RL μX μM r R S) (hR : R < 8) (hSj : S ≤ j) (hSw : 2 * S ≤ pp_wp l b j) :
    ∃ (x : Int32) (μX1 μM1 : g_M), f_X8_readRule_R N r (3 * W) μX = some (x, μX1) ∧ f_X12_ruleHere N μM = some μM1 ∧ pp_rO μX μM l b W r R j x μX1 μM1 := by
  have hcode := pp_PX_code hJ.1
  have hj1 : μX 45 5 = pp_i j := hJ.1.2.1
  have hkind := pp_M_kind hJ.2.1.1 hJ.2.1.2.2.1 hJ.2.1.2.1 hJ.2.1.2.2.2.1
  have hcxl := pp_cx_le (l := l) (b := b) (p := pp_wp l b j)
  have e38 : (38 : Int32) + 4 * pp_i R = pp_i (38 + 4 * R) := by
    rw [show (38 : Int32) = pp_i 38 from rfl, show (4 : Int32) = pp_i 4 from rfl, pp_mul, pp_add]
  rw [pp_rule_i, hkind]
  simp only [Option.bind_some]
  rw [hRL.2.1, e38]
  unfold f_X8_readRule_R
  rw [hj1, hcode]
  simp only [Option.bind_some]
  by_cases c0 : 0 ≤ pp_cx l b (pp_wp l b j) ∧ pp_cx l b (pp_wp l b j) ≤ 5
  · have hp := pp_lt_of_cx c0.2 (by decide)
    have hu := pp_wp_up hp
    have hnn : ¬ (pp_i (pp_cx l b (pp_wp l b j) - 0) < 0) := by
      rw [show (0 : Int32) = pp_i 0 from rfl, pp_lt (by omega) (by omega)]
      omega
    have h8 : ¬ (pp_i R ≥ 8) := by
      rw [show (8 : Int32) = pp_i 8 from rfl]
      show ¬ (pp_i 8 ≤ pp_i R)
      rw [pp_le (by omega) (by omega)]
      omega
    obtain ⟨μM2, n1, n2, n3⟩ := pp_M_need1 hN hJ.2.1 hp
    obtain ⟨μX2, k1, k2, k3⟩ := pp_J_pass hr hJ c0.1 c0.2 (by decide) n2 n3
    have k1 : f_X8_pass 0 5 μX = some (1, μX2) := k1
    have hRL2 := hRL.F hr k3 (pp_Fr n3)
    have hif : f_X12_isTwo 105 102 μM2 = some (if pp_cx l b (pp_wp l b (j + 1)) = 9 then 1 else 0) := pp_M_if n2.1 n2.2.2.1 n2.2.1 n2.2.2.2.1
    have h7 : μM2 1 7 = pp_i S := n2.2.2.2.2.2.1
    rw [if_pos c0, if_neg hnn, if_neg h8, n1, k1]
    simp only [Option.bind_some]
    rw [if_pos (show μM2 0 12 = 0 from n2.2.2.2.2.1), if_neg (show ¬ ((1 : Int32) = 0) by decide), hif, h7, Nat.sub_zero]
    simp only [Option.bind_some]
    by_cases c9 : pp_cx l b (pp_wp l b (j + 1)) = 9
    · have hp2 := pp_lt_of_cx (Nat.le_of_eq c9) (by decide)
      have hu2 := pp_wp_up hp2
      obtain ⟨μX3, μM3, i1, i2, i3, i4, i5⟩ := pp_J_next hN hr k2 c9 (by decide)
      have i1 : f_X8_pass 9 9 μX2 = some (1, μX3) := i1
      rw [if_pos c9, if_neg (show ¬ ((1 : Int32) = 0) by decide), i2, i1]
      simp only [Option.bind_some]
      rw [if_neg (show ¬ ((1 : Int32) = 0) by decide)]
      obtain ⟨x, μX4, μM4, q1, q2, f1, f2, q3⟩ := pp_Say_cond hN hr 5 0 (by decide) (by decide) μX3 _ (j + 1 + 1) S (i3.TK13 (op2 := 0)) (by omega) (by omega)
      have q1 : f_X8_readCondition_R N r (3 * W) 5 0 μX3 = some (x, μX4) := q1
      have q2 : f_X12_condHere N 5 (g_set μM3 0 13 0) = some μM4 := q2
      have g2 : pp_F (pp_Sm S) μM μM4 := ((pp_Fr (n3.trans i5)).trans pp_F13).trans f2
      have g1 : pp_F (pp_Sq r) μX μX4 := (k3.trans i4).trans f1
      rw [q1, q2]
      simp only [Option.bind_some]
      rcases q3 with ⟨hx, j2, S2, kJ, p1, p2, p3, p4⟩ | ⟨hx, j2, S2, S3, kX, kM⟩
      · subst hx
        rw [if_neg (show ¬ ((1 : Int32) = 0) by decide)]
        exact pp_J_end hN hr kJ (hRL.F hr g1 g2) hR p1 c0.2 (Or.inr p4) (by omega) (by omega) (by omega) (pp_So_q g1) (pp_Sn_m g2)
      · subst hx
        rw [if_pos rfl]
        obtain ⟨μM5, v1, v2, v3⟩ := pp_W_rEnd (N := N) (x1 := pp_i (38 + 4 * R)) (x2 := pp_i (pp_cx l b (pp_wp l b j))) (bg := pp_i S) kM
        exact ⟨0, μX4, μM5, rfl, v1, pp_So_q g1, (pp_Sn_m g2).trans (pp_Sn_r v3), Or.inr ⟨rfl, j2, S2, S3, 0, kX, v2⟩⟩
    · have st := pp_J_stay (lo := 9) (hi := 9) hr k2 (by omega) (by decide) (by decide)
      have st : f_X8_pass 9 9 μX2 = some (0, μX2) := st
      rw [if_neg c9, if_pos rfl, st]
      simp only [Option.bind_some]
      rw [if_pos True.intro]
      exact pp_J_end hN hr k2 hRL2 hR (Nat.le_refl S) c0.2 (Or.inl rfl) (by omega) (by omega) (by omega) (pp_So_q k3) (pp_Sn_r n3)
  · obtain ⟨μM2, n1, n2, n3⟩ := pp_M_need0 (N := N) hJ.2.1
    have st := pp_J_stay (lo := 0) (hi := 5) hr hJ c0 (by decide) (by decide)
    have st : f_X8_pass 0 5 μX = some (0, μX) := st
    rw [if_neg c0, if_pos (show (-1 : Int32) < 0 by decide), n1, st]
    simp only [Option.bind_some]
    rw [if_neg (show ¬ μM2 0 12 = 0 by rw [n2.2.2.2.2.1]; decide), if_pos True.intro]
    obtain ⟨μM5, v1, v2, v3⟩ := pp_W_rEnd (N := N) (x1 := pp_i (38 + 4 * R)) (x2 := -1) (bg := μM2 1 7) n2
    exact ⟨0, μX, μM5, rfl, v1, pp_F.refl, (pp_Sn_r n3).trans (pp_Sn_r v3), Or.inr ⟨rfl, j, S, S, op, hJ.1, v2⟩⟩
