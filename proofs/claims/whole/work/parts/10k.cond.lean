/-! ===== AND, OR ===== -/
theorem pp_W_one {N l : Nat} {b : Nat → Nat} {FM : g_M → Option g_M} (hN : 300 ≤ N) : pp_Mum l b (fun μ => f_X12_oneHere FM N μ) := by
  intro μ p S op h
  obtain ⟨n, e⟩ : ∃ n, N = n + 1 := ⟨N - 1, by omega⟩
  refine ⟨μ, ?_, h, pp_F.refl⟩
  show f_X12_oneHere FM N μ = some μ
  have e1 : ∀ k, 0 < k → f_X12_oneHere_L2 FM N k 0 μ = some (0, μ) := by
    intro k hk
    obtain ⟨k, rfl⟩ : ∃ i, k = i + 1 := ⟨k - 1, by omega⟩
    rw [f_X12_oneHere_L2, h.2.2.2.2.1, if_neg (show ¬ pp_i 1 = (0 : Int32) by decide)]
  unfold f_X12_oneHere
  rw [e1 N (by omega)]
  simp only [Option.bind_some]
  rw [h.2.2.2.2.1, if_neg (show ¬ pp_i 1 = (0 : Int32) by decide), if_neg (by decide)]
theorem pp_J_allL {N l W r d h S0 j0 : Nat} {b : Nat → Nat} {FX : Int32 → g_M → Option (Int32 × g_M)} {FM : g_M → Option g_M} (hN : 300 ≤ N) (hr : 60 < r) (h19 : h + 1 ≤ 19)
    (hO : pp_Say l b W r d h (fun μ => f_X8_readOne_R FX N r (3 * W) (pp_i d) μ) (fun μ => f_X12_oneHere FM N μ)) : ∀ (m n1 n2 c j S : Nat) (μX μM : g_M), W ≤ j + m → m < n1 → m < n2 → c ≤ j → pp_J μX μM l b W j r S d → S ≤ j → 2 * S ≤ pp_wp l b j → S0 ≤ S → S + j0 ≤ S0 + j → 2 * S + pp_wp l b j0 ≤ 2 * S0 + pp_wp l b j → pp_gd (pp_q (μM 1)) (h + 1) S0 (S - S0) →
    ∃ (x : Int32) (w : (Int32 × g_M) ⊕ g_M) (μX1 μM1 : g_M), f_X8_readAll_R_L13 FX N r (3 * W) n1 (pp_i d) (pp_i c) μX = some w ∧ (match w with | .inl q => some q | .inr μ5 => some (1, μ5)) = some (x, μX1) ∧ f_X12_allHere_L4 FM N n2 μM = some μM1 ∧ pp_Out μX μM l b W j0 r S0 d (h + 1) x μX1 μM1 := by
  intro m
  induction m with
  | zero =>
    intro n1 n2 c j S μX μM hj h1 h2 hc hJ hSj hS2 hS0 a1 a2 hg
    obtain ⟨n1, rfl⟩ : ∃ n, n1 = n + 1 := ⟨n1 - 1, by omega⟩
    obtain ⟨n2, rfl⟩ : ∃ n, n2 = n + 1 := ⟨n2 - 1, by omega⟩
    have hjW : j ≤ W := hJ.1.2.2.1
    have hW : W ≤ 200 := by
      have := hJ.1.1.2.1
      have := hJ.1.2.2.2.2
      omega
    have hcx : ¬ pp_cx l b (pp_wp l b j) = 11 := by
      have e : j = W := by omega
      rw [e, hJ.1.1.1, show pp_cx l b l = 26 from if_neg (Nat.lt_irrefl l)]
      decide
    refine ⟨1, .inr μX, μX, μM, ?_, rfl, ?_, pp_F.refl, pp_F.refl, Or.inl ⟨rfl, j, S, hJ, hS0, a1, a2, hg⟩⟩
    · rw [f_X8_readAll_R_L13]
      by_cases c2 : 200 ≤ c
      · rw [show (200 : Int32) = pp_i 200 from rfl, pp_ite (pp_ge (by omega) (by omega)), if_pos c2]
      · have st := pp_J_stay (lo := 11) (hi := 11) hr hJ (by omega) (by decide) (by decide)
        have st : f_X8_pass 11 11 μX = some (0, μX) := st
        rw [show (200 : Int32) = pp_i 200 from rfl, pp_ite (pp_ge (by omega) (by omega)), if_neg c2, st]
        rfl
    · rw [f_X12_allHere_L4, hJ.2.1.2.2.2.2.1, if_pos (show pp_i 0 = (0 : Int32) from rfl), pp_M_and hJ.2.1.1 hJ.2.1.2.2.1 hJ.2.1.2.1 hJ.2.1.2.2.2.1, if_neg hcx]
      rfl
  | succ m ih =>
    intro n1 n2 c j S μX μM hj h1 h2 hc hJ hSj hS2 hS0 a1 a2 hg
    obtain ⟨n1, rfl⟩ : ∃ n, n1 = n + 1 := ⟨n1 - 1, by omega⟩
    obtain ⟨n2, rfl⟩ : ∃ n, n2 = n + 1 := ⟨n2 - 1, by omega⟩
    have hjW : j ≤ W := hJ.1.2.2.1
    have hl2 : l ≤ 200 := hJ.1.2.2.2.2
    have hW : W ≤ 200 := by
      have := hJ.1.1.2.1
      omega
    by_cases hcx : pp_cx l b (pp_wp l b j) = 11
    · have hp := pp_lt_of_cx (Nat.le_of_eq hcx) (by decide)
      have hlt : j < W := by rw [pp_PX_lt hJ.1]; exact hp
      have hw2 := pp_wp_2 (n := 11) (by decide) hcx
      obtain ⟨μX1, μM1, i1, i2, i3, i4, i5⟩ := pp_J_next hN hr hJ hcx (by decide)
      have i1 : f_X8_pass 11 11 μX = some (1, μX1) := i1
      obtain ⟨x, μX2, μM2, k1, k2, f1, f2, k3⟩ := hO μX1 μM1 (j + 1) S i3 (by omega) (by omega)
      have k1 : f_X8_readOne_R FX N r (3 * W) (pp_i d) μX1 = some (x, μX2) := k1
      have k2 : f_X12_oneHere FM N μM1 = some μM2 := k2
      rcases k3 with ⟨hx, j2, S2, kJ, q1, q2, q3, q4⟩ | ⟨hx, j2, S2, S3, kX, kM⟩
      · subst hx
        have hjW2 : j2 ≤ W := kJ.1.2.2.1
        have hwl := pp_wp_le (l := l) (b := b) j2
        obtain ⟨μX4, μM4, t1, t2, t3, t4, t5, t6, t7⟩ := pp_J_step hr kJ (by omega) (by omega) (q := 4) (x := 0) (y := 0) (by decide) (by decide)
        have t1 : f_X7_addStep r (3 * W) 4 0 0 μX2 = some μX4 := t1
        have t2 : f_X12_steps 4 0 0 μM2 = some μM4 := t2
        have hgd : pp_gd (pp_q (μM4 1)) (h + 1) S0 (S2 + 1 - S0) := by
          rw [show S2 + 1 - S0 = (S - S0) + (S2 - S) + 1 by omega]
          refine pp_gd_two (h1 := h + 1) (h2 := h) (pp_gd_congr hg (fun k h1 h2 => ?_)) (pp_gd_congr (q := pp_q (μM2 1)) ?_ (fun k h1 h2 => t7 k (by omega))) (Nat.le_refl _) (Nat.le_refl _) h19 ?_ ?_
          · rw [t7 k (by omega)]
            show μM2 1 (94 + 3 * k) = μM 1 (94 + 3 * k)
            rw [f2 1 (94 + 3 * k) (decide_eq_false (by omega)), pp_Fr1 i5]
          · rw [show S0 + (S - S0) = S by omega]
            exact q4
          · rw [show S0 + (S - S0) + (S2 - S) = S2 by omega, t6]
            decide
          · rw [show S0 + (S - S0) + (S2 - S) = S2 by omega, t6]
            decide
        obtain ⟨x, w, μX5, μM5, u1, u2, u3, u4, u5, u6⟩ := ih n1 n2 (c + 1) j2 (S2 + 1) μX4 μM4 (by omega) (by omega) (by omega) (by omega) t3 (by omega) (by omega) (by omega) (by omega) (by omega) hgd
        refine ⟨x, w, μX5, μM5, ?_, u2, ?_, ((i4.trans f1).trans t4).trans u4, (((pp_Fr i5).trans (pp_Fl hS0 f2)).trans (pp_Fl (by omega) t5)).trans u5, u6⟩
        · rw [f_X8_readAll_R_L13, show (200 : Int32) = pp_i 200 from rfl, pp_ite (pp_ge (by omega) (by omega)), if_neg (by omega), i1]
          simp only [Option.bind_some]
          rw [if_neg (by decide), k1]
          simp only [Option.bind_some]
          rw [if_neg (by decide), t1]
          simp only [Option.bind_some]
          rw [show pp_i c + 1 = pp_i (c + 1) from pp_add c 1]
          exact u1
        · rw [f_X12_allHere_L4, hJ.2.1.2.2.2.2.1, if_pos (show pp_i 0 = (0 : Int32) from rfl), pp_M_and hJ.2.1.1 hJ.2.1.2.2.1 hJ.2.1.2.1 hJ.2.1.2.2.2.1, if_pos hcx]
          simp only [Option.bind_some]
          rw [if_neg (by decide), i2]
          simp only [Option.bind_some]
          rw [k2]
          simp only [Option.bind_some]
          rw [t2]
          exact u3
      · subst hx
        obtain ⟨n2, rfl⟩ : ∃ n, n2 = n + 1 := ⟨n2 - 1, by omega⟩
        refine ⟨0, .inl (0, μX2), μX2, μM2, ?_, rfl, ?_, i4.trans f1, (pp_Fr i5).trans (pp_Fl hS0 f2), Or.inr ⟨rfl, j2, S2, S3, kX, kM⟩⟩
        · rw [f_X8_readAll_R_L13, show (200 : Int32) = pp_i 200 from rfl, pp_ite (pp_ge (by omega) (by omega)), if_neg (by omega), i1]
          simp only [Option.bind_some]
          rw [if_neg (by decide), k1]
          rfl
        · rw [f_X12_allHere_L4, hJ.2.1.2.2.2.2.1, if_pos (show pp_i 0 = (0 : Int32) from rfl), pp_M_and hJ.2.1.1 hJ.2.1.2.2.1 hJ.2.1.2.1 hJ.2.1.2.2.2.1, if_pos hcx]
          simp only [Option.bind_some]
          rw [if_neg (by decide), i2]
          simp only [Option.bind_some]
          rw [k2]
          simp only [Option.bind_some]
          rw [pp_M_stepW kM]
          simp only [Option.bind_some]
          rw [f_X12_allHere_L4, kM.2.2.2.2.1, if_neg (show ¬ pp_i 1 = (0 : Int32) by decide)]
    · refine ⟨1, .inr μX, μX, μM, ?_, rfl, ?_, pp_F.refl, pp_F.refl, Or.inl ⟨rfl, j, S, hJ, hS0, a1, a2, hg⟩⟩
      · rw [f_X8_readAll_R_L13]
        by_cases c2 : 200 ≤ c
        · rw [show (200 : Int32) = pp_i 200 from rfl, pp_ite (pp_ge (by omega) (by omega)), if_pos c2]
        · have st := pp_J_stay (lo := 11) (hi := 11) hr hJ (by omega) (by decide) (by decide)
          have st : f_X8_pass 11 11 μX = some (0, μX) := st
          rw [show (200 : Int32) = pp_i 200 from rfl, pp_ite (pp_ge (by omega) (by omega)), if_neg c2, st]
          rfl
      · rw [f_X12_allHere_L4, hJ.2.1.2.2.2.2.1, if_pos (show pp_i 0 = (0 : Int32) from rfl), pp_M_and hJ.2.1.1 hJ.2.1.2.2.1 hJ.2.1.2.1 hJ.2.1.2.2.2.1, if_neg hcx]
        rfl
theorem pp_W_allL {N l p S op n : Nat} {b : Nat → Nat} {FM : g_M → Option g_M} {μ : g_M} (hn : 0 < n) (h : pp_PM μ l b p 1 S op) : f_X12_allHere_L4 FM N n μ = some μ := by
  obtain ⟨n, rfl⟩ : ∃ k, n = k + 1 := ⟨n - 1, by omega⟩
  rw [f_X12_allHere_L4, h.2.2.2.2.1, if_neg (show ¬ pp_i 1 = (0 : Int32) by decide)]
theorem pp_Say_all {N l W r d h : Nat} {b : Nat → Nat} {FX : Int32 → g_M → Option (Int32 × g_M)} {FM : g_M → Option g_M} (hN : 300 ≤ N) (hr : 60 < r) (h19 : h + 1 ≤ 19)
    (hO : pp_Say l b W r d h (fun μ => f_X8_readOne_R FX N r (3 * W) (pp_i d) μ) (fun μ => f_X12_oneHere FM N μ)) : pp_Say l b W r d (h + 1) (fun μ => f_X8_readAll_R FX N r (3 * W) (pp_i d) μ) (fun μ => f_X12_allHere FM N μ) := by
  intro μX μM j S hJ hSj hS2
  have hW : W ≤ 200 := by
    have := hJ.1.1.2.1
    have := hJ.1.2.2.2.2
    omega
  obtain ⟨x, μX2, μM2, k1, k2, f1, f2, k3⟩ := hO μX μM j S hJ hSj hS2
  have k1 : f_X8_readOne_R FX N r (3 * W) (pp_i d) μX = some (x, μX2) := k1
  have k2 : f_X12_oneHere FM N μM = some μM2 := k2
  rcases k3 with ⟨hx, j2, S2, kJ, q1, q2, q3, q4⟩ | ⟨hx, j2, S2, S3, kX, kM⟩
  · subst hx
    obtain ⟨x, w, μX5, μM5, u1, u2, u3, u4, u5, u6⟩ := pp_J_allL (S0 := S) (j0 := j) hN hr h19 hO (W - j2) N N 0 j2 S2 μX2 μM2 (by omega) (by omega) (by omega) (by omega) kJ (by omega) (by omega) q1 q2 q3 (pp_gd_mono q4 (by omega) h19)
    have u1 : f_X8_readAll_R_L13 FX N r (3 * W) N (pp_i d) 0 μX2 = some w := u1
    refine ⟨x, μX5, μM5, ?_, ?_, f1.trans u4, f2.trans u5, u6⟩
    · show f_X8_readAll_R FX N r (3 * W) (pp_i d) μX = _
      unfold f_X8_readAll_R
      rw [k1]
      simp only [Option.bind_some]
      rw [if_neg (by decide), u1]
      exact u2
    · show f_X12_allHere FM N μM = _
      unfold f_X12_allHere
      rw [k2]
      simp only [Option.bind_some]
      rw [u3]
      rfl
  · subst hx
    refine ⟨0, μX2, μM2, ?_, ?_, f1, f2, Or.inr ⟨rfl, j2, S2, S3, kX, kM⟩⟩
    · show f_X8_readAll_R FX N r (3 * W) (pp_i d) μX = _
      unfold f_X8_readAll_R
      rw [k1]
      rfl
    · show f_X12_allHere FM N μM = _
      unfold f_X12_allHere
      rw [k2]
      simp only [Option.bind_some]
      rw [pp_W_allL (by omega) kM]
      rfl
theorem pp_W_all {N l : Nat} {b : Nat → Nat} {FM : g_M → Option g_M} (hN : 300 ≤ N) : pp_Mum l b (fun μ => f_X12_allHere FM N μ) := by
  intro μ p S op h
  obtain ⟨μ1, i1, i2, i3⟩ := pp_W_one (FM := FM) hN μ p S op h
  have i1 : f_X12_oneHere FM N μ = some μ1 := i1
  refine ⟨μ1, ?_, i2, i3⟩
  show f_X12_allHere FM N μ = _
  unfold f_X12_allHere
  rw [i1]
  simp only [Option.bind_some]
  rw [pp_W_allL (by omega) i2]
  rfl
theorem pp_J_condL {N l W r d h S0 j0 : Nat} {b : Nat → Nat} {FX : Int32 → g_M → Option (Int32 × g_M)} {FM : g_M → Option g_M} (hN : 300 ≤ N) (hr : 60 < r) (h19 : h + 1 ≤ 19)
    (hO : pp_Say l b W r d h (fun μ => f_X8_readAll_R FX N r (3 * W) (pp_i d) μ) (fun μ => f_X12_allHere FM N μ)) : ∀ (m n1 n2 c j S : Nat) (μX μM : g_M), W ≤ j + m → m < n1 → m < n2 → c ≤ j → pp_J μX μM l b W j r S d → S ≤ j → 2 * S ≤ pp_wp l b j → S0 ≤ S → S + j0 ≤ S0 + j → 2 * S + pp_wp l b j0 ≤ 2 * S0 + pp_wp l b j → pp_gd (pp_q (μM 1)) (h + 1) S0 (S - S0) →
    ∃ (x : Int32) (w : (Int32 × g_M) ⊕ g_M) (μX1 μM1 : g_M), f_X8_readCondition_R_L13 FX N r (3 * W) n1 (pp_i d) (pp_i c) μX = some w ∧ (match w with | .inl q => some q | .inr μ5 => some (1, μ5)) = some (x, μX1) ∧ f_X12_condHere_L4 FM N n2 μM = some μM1 ∧ pp_Out μX μM l b W j0 r S0 d (h + 1) x μX1 μM1 := by
  intro m
  induction m with
  | zero =>
    intro n1 n2 c j S μX μM hj h1 h2 hc hJ hSj hS2 hS0 a1 a2 hg
    obtain ⟨n1, rfl⟩ : ∃ n, n1 = n + 1 := ⟨n1 - 1, by omega⟩
    obtain ⟨n2, rfl⟩ : ∃ n, n2 = n + 1 := ⟨n2 - 1, by omega⟩
    have hjW : j ≤ W := hJ.1.2.2.1
    have hW : W ≤ 200 := by
      have := hJ.1.1.2.1
      have := hJ.1.2.2.2.2
      omega
    have hcx : ¬ pp_cx l b (pp_wp l b j) = 10 := by
      have e : j = W := by omega
      rw [e, hJ.1.1.1, show pp_cx l b l = 26 from if_neg (Nat.lt_irrefl l)]
      decide
    refine ⟨1, .inr μX, μX, μM, ?_, rfl, ?_, pp_F.refl, pp_F.refl, Or.inl ⟨rfl, j, S, hJ, hS0, a1, a2, hg⟩⟩
    · rw [f_X8_readCondition_R_L13]
      by_cases c2 : 200 ≤ c
      · rw [show (200 : Int32) = pp_i 200 from rfl, pp_ite (pp_ge (by omega) (by omega)), if_pos c2]
      · have st := pp_J_stay (lo := 10) (hi := 10) hr hJ (by omega) (by decide) (by decide)
        have st : f_X8_pass 10 10 μX = some (0, μX) := st
        rw [show (200 : Int32) = pp_i 200 from rfl, pp_ite (pp_ge (by omega) (by omega)), if_neg c2, st]
        rfl
    · rw [f_X12_condHere_L4, hJ.2.1.2.2.2.2.1, if_pos (show pp_i 0 = (0 : Int32) from rfl), pp_M_or hJ.2.1.1 hJ.2.1.2.2.1 hJ.2.1.2.1 hJ.2.1.2.2.2.1, if_neg hcx]
      rfl
  | succ m ih =>
    intro n1 n2 c j S μX μM hj h1 h2 hc hJ hSj hS2 hS0 a1 a2 hg
    obtain ⟨n1, rfl⟩ : ∃ n, n1 = n + 1 := ⟨n1 - 1, by omega⟩
    obtain ⟨n2, rfl⟩ : ∃ n, n2 = n + 1 := ⟨n2 - 1, by omega⟩
    have hjW : j ≤ W := hJ.1.2.2.1
    have hl2 : l ≤ 200 := hJ.1.2.2.2.2
    have hW : W ≤ 200 := by
      have := hJ.1.1.2.1
      omega
    by_cases hcx : pp_cx l b (pp_wp l b j) = 10
    · have hp := pp_lt_of_cx (Nat.le_of_eq hcx) (by decide)
      have hlt : j < W := by rw [pp_PX_lt hJ.1]; exact hp
      have hw2 := pp_wp_2 (n := 10) (by decide) hcx
      obtain ⟨μX1, μM1, i1, i2, i3, i4, i5⟩ := pp_J_next hN hr hJ hcx (by decide)
      have i1 : f_X8_pass 10 10 μX = some (1, μX1) := i1
      obtain ⟨x, μX2, μM2, k1, k2, f1, f2, k3⟩ := hO μX1 μM1 (j + 1) S i3 (by omega) (by omega)
      have k1 : f_X8_readAll_R FX N r (3 * W) (pp_i d) μX1 = some (x, μX2) := k1
      have k2 : f_X12_allHere FM N μM1 = some μM2 := k2
      rcases k3 with ⟨hx, j2, S2, kJ, q1, q2, q3, q4⟩ | ⟨hx, j2, S2, S3, kX, kM⟩
      · subst hx
        have hjW2 : j2 ≤ W := kJ.1.2.2.1
        have hwl := pp_wp_le (l := l) (b := b) j2
        obtain ⟨μX4, μM4, t1, t2, t3, t4, t5, t6, t7⟩ := pp_J_step hr kJ (by omega) (by omega) (q := 5) (x := 0) (y := 0) (by decide) (by decide)
        have t1 : f_X7_addStep r (3 * W) 5 0 0 μX2 = some μX4 := t1
        have t2 : f_X12_steps 5 0 0 μM2 = some μM4 := t2
        have hgd : pp_gd (pp_q (μM4 1)) (h + 1) S0 (S2 + 1 - S0) := by
          rw [show S2 + 1 - S0 = (S - S0) + (S2 - S) + 1 by omega]
          refine pp_gd_two (h1 := h + 1) (h2 := h) (pp_gd_congr hg (fun k h1 h2 => ?_)) (pp_gd_congr (q := pp_q (μM2 1)) ?_ (fun k h1 h2 => t7 k (by omega))) (Nat.le_refl _) (Nat.le_refl _) h19 ?_ ?_
          · rw [t7 k (by omega)]
            show μM2 1 (94 + 3 * k) = μM 1 (94 + 3 * k)
            rw [f2 1 (94 + 3 * k) (decide_eq_false (by omega)), pp_Fr1 i5]
          · rw [show S0 + (S - S0) = S by omega]
            exact q4
          · rw [show S0 + (S - S0) + (S2 - S) = S2 by omega, t6]
            decide
          · rw [show S0 + (S - S0) + (S2 - S) = S2 by omega, t6]
            decide
        obtain ⟨x, w, μX5, μM5, u1, u2, u3, u4, u5, u6⟩ := ih n1 n2 (c + 1) j2 (S2 + 1) μX4 μM4 (by omega) (by omega) (by omega) (by omega) t3 (by omega) (by omega) (by omega) (by omega) (by omega) hgd
        refine ⟨x, w, μX5, μM5, ?_, u2, ?_, ((i4.trans f1).trans t4).trans u4, (((pp_Fr i5).trans (pp_Fl hS0 f2)).trans (pp_Fl (by omega) t5)).trans u5, u6⟩
        · rw [f_X8_readCondition_R_L13, show (200 : Int32) = pp_i 200 from rfl, pp_ite (pp_ge (by omega) (by omega)), if_neg (by omega), i1]
          simp only [Option.bind_some]
          rw [if_neg (by decide), k1]
          simp only [Option.bind_some]
          rw [if_neg (by decide), t1]
          simp only [Option.bind_some]
          rw [show pp_i c + 1 = pp_i (c + 1) from pp_add c 1]
          exact u1
        · rw [f_X12_condHere_L4, hJ.2.1.2.2.2.2.1, if_pos (show pp_i 0 = (0 : Int32) from rfl), pp_M_or hJ.2.1.1 hJ.2.1.2.2.1 hJ.2.1.2.1 hJ.2.1.2.2.2.1, if_pos hcx]
          simp only [Option.bind_some]
          rw [if_neg (by decide), i2]
          simp only [Option.bind_some]
          rw [k2]
          simp only [Option.bind_some]
          rw [t2]
          exact u3
      · subst hx
        obtain ⟨n2, rfl⟩ : ∃ n, n2 = n + 1 := ⟨n2 - 1, by omega⟩
        refine ⟨0, .inl (0, μX2), μX2, μM2, ?_, rfl, ?_, i4.trans f1, (pp_Fr i5).trans (pp_Fl hS0 f2), Or.inr ⟨rfl, j2, S2, S3, kX, kM⟩⟩
        · rw [f_X8_readCondition_R_L13, show (200 : Int32) = pp_i 200 from rfl, pp_ite (pp_ge (by omega) (by omega)), if_neg (by omega), i1]
          simp only [Option.bind_some]
          rw [if_neg (by decide), k1]
          rfl
        · rw [f_X12_condHere_L4, hJ.2.1.2.2.2.2.1, if_pos (show pp_i 0 = (0 : Int32) from rfl), pp_M_or hJ.2.1.1 hJ.2.1.2.2.1 hJ.2.1.2.1 hJ.2.1.2.2.2.1, if_pos hcx]
          simp only [Option.bind_some]
          rw [if_neg (by decide), i2]
          simp only [Option.bind_some]
          rw [k2]
          simp only [Option.bind_some]
          rw [pp_M_stepW kM]
          simp only [Option.bind_some]
          rw [f_X12_condHere_L4, kM.2.2.2.2.1, if_neg (show ¬ pp_i 1 = (0 : Int32) by decide)]
    · refine ⟨1, .inr μX, μX, μM, ?_, rfl, ?_, pp_F.refl, pp_F.refl, Or.inl ⟨rfl, j, S, hJ, hS0, a1, a2, hg⟩⟩
      · rw [f_X8_readCondition_R_L13]
        by_cases c2 : 200 ≤ c
        · rw [show (200 : Int32) = pp_i 200 from rfl, pp_ite (pp_ge (by omega) (by omega)), if_pos c2]
        · have st := pp_J_stay (lo := 10) (hi := 10) hr hJ (by omega) (by decide) (by decide)
          have st : f_X8_pass 10 10 μX = some (0, μX) := st
          rw [show (200 : Int32) = pp_i 200 from rfl, pp_ite (pp_ge (by omega) (by omega)), if_neg c2, st]
          rfl
      · rw [f_X12_condHere_L4, hJ.2.1.2.2.2.2.1, if_pos (show pp_i 0 = (0 : Int32) from rfl), pp_M_or hJ.2.1.1 hJ.2.1.2.2.1 hJ.2.1.2.1 hJ.2.1.2.2.2.1, if_neg hcx]
        rfl
theorem pp_W_condL {N l p S op n : Nat} {b : Nat → Nat} {FM : g_M → Option g_M} {μ : g_M} (hn : 0 < n) (h : pp_PM μ l b p 1 S op) : f_X12_condHere_L4 FM N n μ = some μ := by
  obtain ⟨n, rfl⟩ : ∃ k, n = k + 1 := ⟨n - 1, by omega⟩
  rw [f_X12_condHere_L4, h.2.2.2.2.1, if_neg (show ¬ pp_i 1 = (0 : Int32) by decide)]
theorem pp_W_cond {N l n : Nat} {b : Nat → Nat} (hN : 300 ≤ N) (hn : 0 < n) : pp_Mum l b (fun μ => f_X12_condHere N n μ) := by
  intro μ p S op h
  obtain ⟨n, rfl⟩ : ∃ k, n = k + 1 := ⟨n - 1, by omega⟩
  obtain ⟨μ1, i1, i2, i3⟩ := pp_W_all (FM := f_X12_condHere N n) hN μ p S op h
  have i1 : f_X12_allHere (f_X12_condHere N n) N μ = some μ1 := i1
  refine ⟨μ1, ?_, i2, i3⟩
  show f_X12_condHere N (n + 1) μ = _
  rw [f_X12_condHere, i1]
  simp only [Option.bind_some]
  rw [pp_W_condL (by omega) i2]
  rfl
theorem pp_Say_cond {N l W r : Nat} {b : Nat → Nat} (hN : 300 ≤ N) (hr : 60 < r) : ∀ (n d : Nat), n + d = 5 → d ≤ 3 → pp_Say l b W r d (9 - 2 * d) (fun μ => f_X8_readCondition_R N r (3 * W) n (pp_i d) μ) (fun μ => f_X12_condHere N n μ) := by
  intro n
  induction n with
  | zero => intro d h1 h2; omega
  | succ n ih =>
    intro d hnd hd μX μM j S hJ hSj hS2
    have hW : W ≤ 200 := by
      have := hJ.1.1.2.1
      have := hJ.1.2.2.2.2
      omega
    have hone : pp_Say l b W r d (7 - 2 * d) (fun μ => f_X8_readOne_R (f_X8_readCondition_R N r (3 * W) n) N r (3 * W) (pp_i d) μ) (fun μ => f_X12_oneHere (f_X12_condHere N n) N μ) := by
      refine pp_Say_one hN hr hd (by omega) (by omega) (fun h3 => ?_) (pp_W_cond hN (by omega))
      have := ih (d + 1) (by omega) (by omega)
      rw [show 9 - 2 * (d + 1) = 7 - 2 * d by omega] at this
      exact this
    have hall := pp_Say_all hN hr (by omega) hone
    obtain ⟨x, μX2, μM2, k1, k2, f1, f2, k3⟩ := hall μX μM j S hJ hSj hS2
    have k1 : f_X8_readAll_R (f_X8_readCondition_R N r (3 * W) n) N r (3 * W) (pp_i d) μX = some (x, μX2) := k1
    have k2 : f_X12_allHere (f_X12_condHere N n) N μM = some μM2 := k2
    rcases k3 with ⟨hx, j2, S2, kJ, q1, q2, q3, q4⟩ | ⟨hx, j2, S2, S3, kX, kM⟩
    · subst hx
      obtain ⟨x, w, μX5, μM5, u1, u2, u3, u4, u5, u6⟩ := pp_J_condL (S0 := S) (j0 := j) hN hr (by omega) hall (W - j2) N N 0 j2 S2 μX2 μM2 (by omega) (by omega) (by omega) (by omega) kJ (by omega) (by omega) q1 q2 q3 (pp_gd_mono q4 (by omega) (by omega))
      have u1 : f_X8_readCondition_R_L13 (f_X8_readCondition_R N r (3 * W) n) N r (3 * W) N (pp_i d) 0 μX2 = some w := u1
      rw [show 7 - 2 * d + 1 + 1 = 9 - 2 * d by omega] at u6
      refine ⟨x, μX5, μM5, ?_, ?_, f1.trans u4, f2.trans u5, u6⟩
      · show f_X8_readCondition_R N r (3 * W) (n + 1) (pp_i d) μX = _
        rw [f_X8_readCondition_R, k1]
        simp only [Option.bind_some]
        rw [if_neg (by decide), u1]
        exact u2
      · show f_X12_condHere N (n + 1) μM = _
        rw [f_X12_condHere, k2]
        simp only [Option.bind_some]
        rw [u3]
        rfl
    · subst hx
      refine ⟨0, μX2, μM2, ?_, ?_, f1, f2, Or.inr ⟨rfl, j2, S2, S3, kX, kM⟩⟩
      · show f_X8_readCondition_R N r (3 * W) (n + 1) (pp_i d) μX = _
        rw [f_X8_readCondition_R, k1]
        rfl
      · show f_X12_condHere N (n + 1) μM = _
        rw [f_X12_condHere, k2]
        simp only [Option.bind_some]
        rw [pp_W_condL (by omega) kM]
        rfl
