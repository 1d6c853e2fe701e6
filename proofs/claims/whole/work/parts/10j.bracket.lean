/-! ===== a bracket; one of them ===== -/
theorem pp_i_op {op : Nat} : pp_i op + 1 = pp_i (op + 1) := pp_add op 1
theorem pp_i_po {op : Nat} : pp_i (op + 1) - 1 = pp_i op := by
  rw [show (1 : Int32) = pp_i 1 from rfl, pp_sub (by omega), show op + 1 - 1 = op by omega]
theorem pp_F13 {S : Nat} {μ : g_M} {v : Int32} : pp_F (pp_Sm S) μ (g_set μ 0 13 v) := pp_F.set (by simp [pp_Sm])
theorem pp_J_bracket {N l W r S d h j : Nat} {b : Nat → Nat} {FX : Int32 → g_M → Option (Int32 × g_M)} {FM : g_M → Option g_M} {μX μM : g_M} (hN : 300 ≤ N) (hr : 60 < r) (hd : d ≤ 3)
    (hFX : d < 3 → pp_Say l b W r (d + 1) h (FX (pp_i (d + 1))) FM) (hMum : pp_Mum l b FM) (hJ : pp_J μX μM l b W j r S d) (hSj : S ≤ j) (hS2 : 2 * S ≤ pp_wp l b j) (hcx : pp_cx l b (pp_wp l b j) = 23) :
    ∃ (x x27 : Int32) (μX1 μ22 μ26 μ31 : g_M), f_X8_readBracket_R FX N r (3 * W) (pp_i d) μX = some (x, μX1) ∧ f_X12_needs N (if 3 ≤ d then 0 else 1) μM = some μ22 ∧ FM (g_set μ22 0 13 (μ22 0 13 + 1)) = some μ26 ∧ f_X12_isByte 41 μ26 = some x27 ∧ f_X12_needs N x27 μ26 = some μ31 ∧ pp_Out μX μM l b W j r S d h x μX1 (g_set μ31 0 13 (μ31 0 13 - 1)) := by
  by_cases c3 : 3 ≤ d
  · obtain ⟨μ22, n1, n2, n3⟩ := pp_M_need0 (N := N) hJ.2.1
    have e22 : g_set μ22 0 13 (μ22 0 13 + 1) = g_set μ22 0 13 (pp_i (d + 1)) := by rw [n2.2.2.2.2.2.2, pp_i_op]
    obtain ⟨μ26, m1, m2, m3⟩ := hMum _ _ _ _ (n2.TK13 (op2 := d + 1))
    have hb : f_X12_isByte 41 μ26 = some (if pp_cx l b (pp_wp l b j) = 24 then 1 else 0) := pp_M_by1 (c := 41) (n := 24) m2.1 m2.2.2.1 m2.2.1 m2.2.2.2.1 (by decide)
    obtain ⟨μ31, o1, o2, o3⟩ := pp_M_needW (N := N) (c := if pp_cx l b (pp_wp l b j) = 24 then 1 else 0) m2
    have e31 : g_set μ31 0 13 (μ31 0 13 - 1) = g_set μ31 0 13 (pp_i d) := by rw [o2.2.2.2.2.2.2, pp_i_po]
    refine ⟨0, _, μX, μ22, μ26, μ31, ?_, by rw [if_pos c3]; exact n1, by rw [e22]; exact m1, hb, o1, pp_F.refl, ?_, Or.inr ⟨rfl, j, S, S, hJ.1, ?_⟩⟩
    · unfold f_X8_readBracket_R
      rw [show (3 : Int32) = pp_i 3 from rfl, pp_ite (pp_ge (by omega) (by omega)), if_pos c3]
    · rw [e31]
      exact ((((pp_Fr n3).trans pp_F13).trans (pp_Fr m3)).trans (pp_Fr o3)).trans pp_F13
    · rw [e31]
      exact o2.TK13
  · have hp := pp_lt_of_cx (Nat.le_of_eq hcx) (by decide)
    have hu := pp_wp_up hp
    obtain ⟨μ22, n1, n2, n3⟩ := pp_M_need1 hN hJ.2.1 hp
    obtain ⟨μX1, i1, i2, i3⟩ := pp_J_pass hr hJ (lo := 23) (hi := 23) (by omega) (by omega) (by decide) n2 n3
    have i1 : f_X8_pass 23 23 μX = some (1, μX1) := i1
    have e22 : g_set μ22 0 13 (μ22 0 13 + 1) = g_set μ22 0 13 (pp_i (d + 1)) := by rw [n2.2.2.2.2.2.2, pp_i_op]
    obtain ⟨x, μX2, μ26, k1, k2, f1, f2, k3⟩ := hFX (by omega) μX1 _ (j + 1) S (i2.TK13 (op2 := d + 1)) (by omega) (by omega)
    rcases k3 with ⟨hx, j2, S2, kJ, q1, q2, q3, q4⟩ | ⟨hx, j2, S2, S3, kX, kM⟩
    · have hb : f_X12_isByte 41 μ26 = some (if pp_cx l b (pp_wp l b j2) = 24 then 1 else 0) := pp_M_by1 (c := 41) (n := 24) kJ.2.1.1 kJ.2.1.2.2.1 kJ.2.1.2.1 kJ.2.1.2.2.2.1 (by decide)
      by_cases c24 : pp_cx l b (pp_wp l b j2) = 24
      · have hp2 := pp_lt_of_cx (Nat.le_of_eq c24) (by decide)
        have hu2 := pp_wp_up hp2
        obtain ⟨μ31, o1, o2, o3⟩ := pp_M_need1 hN kJ.2.1 hp2
        obtain ⟨μX3, t1, t2, t3⟩ := pp_J_pass hr kJ (lo := 24) (hi := 24) (by omega) (by omega) (by decide) o2 o3
        have t1 : f_X8_pass 24 24 μX2 = some (1, μX3) := t1
        have e31 : g_set μ31 0 13 (μ31 0 13 - 1) = g_set μ31 0 13 (pp_i d) := by rw [o2.2.2.2.2.2.2, pp_i_po]
        rw [if_pos c24] at hb
        refine ⟨1, _, μX3, μ22, μ26, μ31, ?_, by rw [if_neg c3]; exact n1, by rw [e22]; exact k2, hb, o1, (i3.trans f1).trans t3, ?_, Or.inl ⟨rfl, j2 + 1, S2, ?_, q1, by omega, by omega, ?_⟩⟩
        · unfold f_X8_readBracket_R
          rw [show (3 : Int32) = pp_i 3 from rfl, pp_ite (pp_ge (by omega) (by omega)), if_neg c3, i1]
          simp only [Option.bind_some]
          rw [if_neg (by decide), pp_i_op, k1]
          simp only [Option.bind_some]
          rw [hx, if_neg (by decide), t1]
          rfl
        · rw [e31]
          exact ((((pp_Fr n3).trans pp_F13).trans f2).trans (pp_Fr o3)).trans pp_F13
        · rw [e31]
          exact t2.TK13
        · rw [pp_rowN (by decide), pp_Fr1 o3]
          exact q4
      · obtain ⟨μ31, o1, o2, o3⟩ := pp_M_need0 (N := N) kJ.2.1
        have st := pp_J_stay (lo := 24) (hi := 24) hr kJ (by omega) (by decide) (by decide)
        have st : f_X8_pass 24 24 μX2 = some (0, μX2) := st
        have e31 : g_set μ31 0 13 (μ31 0 13 - 1) = g_set μ31 0 13 (pp_i d) := by rw [o2.2.2.2.2.2.2, pp_i_po]
        rw [if_neg c24] at hb
        refine ⟨0, _, μX2, μ22, μ26, μ31, ?_, by rw [if_neg c3]; exact n1, by rw [e22]; exact k2, hb, o1, i3.trans f1, ?_, Or.inr ⟨rfl, j2, S2, S2, kJ.1, ?_⟩⟩
        · unfold f_X8_readBracket_R
          rw [show (3 : Int32) = pp_i 3 from rfl, pp_ite (pp_ge (by omega) (by omega)), if_neg c3, i1]
          simp only [Option.bind_some]
          rw [if_neg (by decide), pp_i_op, k1]
          simp only [Option.bind_some]
          rw [hx, if_neg (by decide), st]
          rfl
        · rw [e31]
          exact ((((pp_Fr n3).trans pp_F13).trans f2).trans (pp_Fr o3)).trans pp_F13
        · rw [e31]
          exact o2.TK13
    · have hb : f_X12_isByte 41 μ26 = some (if pp_cx l b (pp_wp l b j2) = 24 then 1 else 0) := pp_M_by1 (c := 41) (n := 24) kM.1 kM.2.2.1 kM.2.1 kM.2.2.2.1 (by decide)
      obtain ⟨μ31, o1, o2, o3⟩ := pp_M_needW (N := N) (c := if pp_cx l b (pp_wp l b j2) = 24 then 1 else 0) kM
      have e31 : g_set μ31 0 13 (μ31 0 13 - 1) = g_set μ31 0 13 (pp_i d) := by rw [o2.2.2.2.2.2.2, pp_i_po]
      refine ⟨0, _, μX2, μ22, μ26, μ31, ?_, by rw [if_neg c3]; exact n1, by rw [e22]; exact k2, hb, o1, i3.trans f1, ?_, Or.inr ⟨rfl, j2, S2, S3, kX, ?_⟩⟩
      · unfold f_X8_readBracket_R
        rw [show (3 : Int32) = pp_i 3 from rfl, pp_ite (pp_ge (by omega) (by omega)), if_neg c3, i1]
        simp only [Option.bind_some]
        rw [if_neg (by decide), pp_i_op, k1]
        simp only [Option.bind_some]
        rw [hx, if_pos rfl]
      · rw [e31]
        exact ((((pp_Fr n3).trans pp_F13).trans f2).trans (pp_Fr o3)).trans pp_F13
      · rw [e31]
        exact o2.TK13
/-- the end of one: the step of an odd NOT -/
theorem pp_J_odd {N l W r S op h j j0 c1 : Nat} {b : Nat → Nat} {x : Int32} {μX0 μM0 μX μM μX1 μM1 : g_M} (hr : 60 < r) (hc200 : c1 ≤ 200) (hj : j0 + c1 = j) (hw : pp_wp l b j0 + 2 * c1 ≤ pp_wp l b j) (hSj : S ≤ j0) (hS2 : 2 * S ≤ pp_wp l b j0) (hX0 : pp_F (pp_Sq r) μX0 μX) (hM0 : pp_F (pp_Sm S) μM0 μM)
    (hO : pp_Out μX μM l b W j r S op h x μX1 μM1) :
    ∃ (x2 : Int32) (μX2 μM2 : g_M), (if x = 0 then ((g_zc x).bind fun z => some (z, μX1)) else (if pp_i (c1 % 2) = 0 then ((g_zc x).bind fun z => some (z, μX1)) else ((f_X7_addStep r (3 * W) 3 0 0 μX1).bind fun μ' => (g_zc x).bind fun z => some (z, μ')))) = some (x2, μX2) ∧ (if g_rem (pp_i c1) 2 = 1 then ((f_X12_steps 3 0 0 μM1).bind fun μ' => some μ') else some μM1) = some μM2 ∧ pp_Out μX0 μM0 l b W j0 r S op h x2 μX2 μM2 := by
  obtain ⟨f1, f2, k3⟩ := hO
  have z0 : g_zc 0 = some 0 := by decide
  have z1 : g_zc 1 = some 1 := by decide
  have hwl := pp_wp_le (l := l) (b := b)
  rw [pp_rem2 (by omega)]
  rcases k3 with ⟨hx, j2, S2, kJ, q1, q2, q3, q4⟩ | ⟨hx, j2, S2, S3, kX, kM⟩
  · subst hx
    rw [if_neg (by decide), z1]
    rcases Nat.mod_two_eq_zero_or_one c1 with e | e
    · rw [e, if_pos (show pp_i 0 = (0 : Int32) from rfl), if_neg (show ¬ pp_i 0 = (1 : Int32) by decide)]
      exact ⟨1, μX1, μM1, rfl, rfl, hX0.trans f1, hM0.trans f2, Or.inl ⟨rfl, j2, S2, kJ, q1, by omega, by omega, q4⟩⟩
    · have hjW : j2 ≤ W := kJ.1.2.2.1
      have hl2 : l ≤ 200 := kJ.1.2.2.2.2
      have := hwl j2
      obtain ⟨μX4, μM4, t1, t2, t3, t4, t5, t6, t7⟩ := pp_J_step hr kJ (by omega) (by omega) (q := 3) (x := 0) (y := 0) (by decide) (by decide)
      have t1 : f_X7_addStep r (3 * W) 3 0 0 μX1 = some μX4 := t1
      have t2 : f_X12_steps 3 0 0 μM1 = some μM4 := t2
      rw [e, if_neg (show ¬ pp_i 1 = (0 : Int32) by decide), if_pos (show pp_i 1 = (1 : Int32) from rfl), t1, t2]
      refine ⟨1, μX4, μM4, rfl, rfl, (hX0.trans f1).trans t4, (hM0.trans f2).trans (pp_Fl q1 t5), Or.inl ⟨rfl, j2, S2 + 1, t3, by omega, by omega, by omega, ?_⟩⟩
      rw [show S2 + 1 - S = (S2 - S) + 1 by omega]
      refine pp_gd_not (pp_gd_congr q4 (fun k h1 h2 => t7 k (by omega))) ?_
      rw [show S + (S2 - S) = S2 by omega, t6]
      rfl
  · subst hx
    rw [if_pos rfl, z0]
    refine ⟨0, μX1, μM1, rfl, ?_, hX0.trans f1, hM0.trans f2, Or.inr ⟨rfl, j2, S2, S3, kX, kM⟩⟩
    split
    · rw [pp_M_stepW kM]
      rfl
    · rfl
theorem pp_Say_one {N l W r d h : Nat} {b : Nat → Nat} {FX : Int32 → g_M → Option (Int32 × g_M)} {FM : g_M → Option g_M} (hN : 300 ≤ N) (hr : 60 < r) (hd : d ≤ 3) (hh : 1 ≤ h) (h19 : h ≤ 19)
    (hFX : d < 3 → pp_Say l b W r (d + 1) h (FX (pp_i (d + 1))) FM) (hMum : pp_Mum l b FM) : pp_Say l b W r d h (fun μ => f_X8_readOne_R FX N r (3 * W) (pp_i d) μ) (fun μ => f_X12_oneHere FM N μ) := by
  intro μX μM j S hJ hSj hS2
  have hjW : j ≤ W := hJ.1.2.2.1
  have hW : W ≤ 200 := by
    have := hJ.1.1.2.1
    have := hJ.1.2.2.2.2
    omega
  obtain ⟨c1, j1, μX1, μM1, i1, i2, i3, i4, i5, i6, i7, i8, i9⟩ := pp_J_nots (L := 3 * W) (FX := FX) (FM := FM) (a1 := pp_i d) hN hr (W - j) N N 0 j μX μM (by omega) (by omega) (by omega) (by omega) hJ
  have i1 : f_X8_readOne_R_L5 FX N r (3 * W) N (pp_i d) 0 0 μX = some (pp_i (c1 % 2), μX1) := i1
  have i2 : f_X12_oneHere_L2 FM N N 0 μM = some (pp_i c1, μM1) := i2
  have hcode := pp_PX_code i3.1
  have hj1 : μX1 45 5 = pp_i j1 := i3.1.2.1
  have hw0 : μM1 0 12 = 0 := i3.2.1.2.2.2.2.1
  have hb : f_X12_isByte 40 μM1 = some (if pp_cx l b (pp_wp l b j1) = 23 then 1 else 0) := pp_M_by1 (c := 40) (n := 23) i3.2.1.1 i3.2.1.2.2.1 i3.2.1.2.1 i3.2.1.2.2.2.1 (by decide)
  have hcx := pp_cx_le (l := l) (b := b) (p := pp_wp l b j1)
  by_cases c23 : pp_cx l b (pp_wp l b j1) = 23
  · obtain ⟨x, x27, μX2, μ22, μ26, μ31, k1, k2, k3, k4, k5, k6⟩ := pp_J_bracket hN hr hd hFX hMum i3 (by omega) (by omega) c23
    obtain ⟨x2, μX3, μM3, m1, m2, m3⟩ := pp_J_odd (c1 := c1) (N := N) hr i9 (by omega) (by omega) hSj hS2 i4 (pp_Fr i5) k6
    refine ⟨x2, μX3, μM3, ?_, ?_, m3⟩
    · show f_X8_readOne_R FX N r (3 * W) (pp_i d) μX = _
      unfold f_X8_readOne_R
      rw [i1]
      simp only [Option.bind_some]
      rw [hj1, hcode]
      simp only [Option.bind_some]
      rw [c23, if_pos (show pp_i 23 = (23 : Int32) from rfl), k1]
      simp only [Option.bind_some]
      exact m1
    · show f_X12_oneHere FM N μM = _
      unfold f_X12_oneHere
      rw [i2]
      simp only [Option.bind_some]
      rw [if_pos hw0, hb, if_pos c23]
      simp only [Option.bind_some]
      rw [if_neg (show ¬ ((1 : Int32) = 0) by decide), i3.2.1.2.2.2.2.2.2, show (3 : Int32) = pp_i 3 from rfl, pp_ite (pp_ge (by omega) (by omega))]
      by_cases c3 : 3 ≤ d
      · rw [if_pos c3] at k2
        rw [if_pos c3, k2]
        simp only [Option.bind_some]
        rw [k3]
        simp only [Option.bind_some]
        rw [k4]
        simp only [Option.bind_some]
        rw [k5]
        simp only [Option.bind_some]
        exact m2
      · rw [if_neg c3] at k2
        rw [if_neg c3, k2]
        simp only [Option.bind_some]
        rw [k3]
        simp only [Option.bind_some]
        rw [k4]
        simp only [Option.bind_some]
        rw [k5]
        simp only [Option.bind_some]
        exact m2
  · obtain ⟨x, μX2, μM2, k1, k2, k3⟩ := pp_Say_cmp (op := d) hN hr μX1 μM1 j1 S i3 (by omega) (by omega)
    have k6 : pp_Out μX1 μM1 l b W j1 r S d h x μX2 μM2 := by
      obtain ⟨f1, f2, q⟩ := k3
      refine ⟨f1, f2, ?_⟩
      rcases q with ⟨hx, j2, S2, kJ, q1, q2, q3, q4⟩ | q
      · exact Or.inl ⟨hx, j2, S2, kJ, q1, q2, q3, pp_gd_mono q4 hh h19⟩
      · exact Or.inr q
    obtain ⟨x2, μX3, μM3, m1, m2, m3⟩ := pp_J_odd (c1 := c1) (N := N) hr i9 (by omega) (by omega) hSj hS2 i4 (pp_Fr i5) k6
    refine ⟨x2, μX3, μM3, ?_, ?_, m3⟩
    · show f_X8_readOne_R FX N r (3 * W) (pp_i d) μX = _
      unfold f_X8_readOne_R
      rw [i1]
      simp only [Option.bind_some]
      rw [hj1, hcode]
      simp only [Option.bind_some]
      rw [if_neg (show ¬ pp_i (pp_cx l b (pp_wp l b j1)) = (23 : Int32) from fun q => c23 (pp_inj (a := pp_cx l b (pp_wp l b j1)) (b := 23) (by omega) (by omega) q)), k1]
      simp only [Option.bind_some]
      exact m1
    · show f_X12_oneHere FM N μM = _
      unfold f_X12_oneHere
      rw [i2]
      simp only [Option.bind_some]
      rw [if_pos hw0, hb, if_neg c23]
      simp only [Option.bind_some]
      rw [if_pos True.intro, k2]
      simp only [Option.bind_some]
      exact m2
