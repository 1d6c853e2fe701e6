/-! ===== a RULE is kept by both ===== -/
theorem pp_J_addRule {μX μM : g_M} {l W j r R S S2 op k d L : Nat} {b : Nat → Nat} (hr : 60 < r) (hJ : pp_J μX μM l b W j r S2 op) (hRL : pp_RL μX μM r R S) (hR : R < 8) (hS : S ≤ S2) (hS2 : S2 ≤ 150) (hk : k ≤ 5) (hd : d ≤ 2) (hg : S = S2 ∨ pp_gd (pp_q (μM 1)) 9 S (S2 - S)) :
    ∃ μX1 μM1 : g_M, f_X7_addRule r L (pp_i k) (pp_i d) μX = some μX1 ∧ ((g_wr μM 1 544 (pp_i (38 + 4 * R)) (pp_i k)).bind fun μ93 => (g_wr μ93 1 544 (pp_i (38 + 4 * R) + 1) (pp_i d)).bind fun μ94 => (g_wr μ94 1 544 (pp_i (38 + 4 * R) + 2) (pp_i S)).bind fun μ95 => (g_wr μ95 1 544 (pp_i (38 + 4 * R) + 3) (μ95 1 7)).bind fun μ96 => some (g_set μ96 1 5 ((μ96 1 5) + 1))) = some μM1 ∧
      pp_J μX1 μM1 l b W j r S2 op ∧ pp_RL μX1 μM1 r (R + 1) S2 ∧ pp_F (pp_So r) μX μX1 ∧ pp_F pp_Sn μM μM1 := by
  obtain ⟨hX, hM, hSR⟩ := hJ
  obtain ⟨hT, hz, h5, hK, h12, h7, h13⟩ := hM
  obtain ⟨⟨w1, w2, w3, w4, w5, w6⟩, x2, x3, x4, x5⟩ := hX
  obtain ⟨a1, a2, a3, a4, a5, a6⟩ := hRL
  obtain ⟨μM1, eM⟩ : ∃ μ, μ = g_set (g_set (g_set (g_set (g_set μM 1 (38 + 4 * R) (pp_i k)) 1 (38 + 4 * R + 1) (pp_i d)) 1 (38 + 4 * R + 2) (pp_i S)) 1 (38 + 4 * R + 3) (pp_i S2)) 1 5 (pp_i (R + 1)) := ⟨_, rfl⟩
  obtain ⟨μX1, eX⟩ : ∃ μ, μ = g_set (g_set (g_set (g_set μX (r + 1) R (pp_i k)) (r + 2) R (pp_i d)) (r + 3) R (pp_i S2)) r 4 (pp_i (R + 1)) := ⟨_, rfl⟩
  have mrow : ∀ i, i ≠ 1 → μM1 i = μM i := fun i hi => by
    rw [eM, pp_rowN hi, pp_rowN hi, pp_rowN hi, pp_rowN hi, pp_rowN hi]
  have mo : ∀ q, q ≠ 5 → (q < 38 + 4 * R ∨ 38 + 4 * R + 3 < q) → μM1 1 q = μM 1 q := fun q hq hq2 => by
    rw [eM, pp_set_n (by omega), pp_set_n (by omega), pp_set_n (by omega), pp_set_n (by omega), pp_set_n (by omega)]
  have m5 : μM1 1 5 = pp_i (R + 1) := by rw [eM, pp_set_s]
  have m0 : μM1 1 (38 + 4 * R) = pp_i k := by rw [eM, pp_set_n (by omega), pp_set_n (by omega), pp_set_n (by omega), pp_set_n (by omega), pp_set_s]
  have m1 : μM1 1 (38 + 4 * R + 1) = pp_i d := by rw [eM, pp_set_n (by omega), pp_set_n (by omega), pp_set_n (by omega), pp_set_s]
  have m2 : μM1 1 (38 + 4 * R + 2) = pp_i S := by rw [eM, pp_set_n (by omega), pp_set_n (by omega), pp_set_s]
  have m3 : μM1 1 (38 + 4 * R + 3) = pp_i S2 := by rw [eM, pp_set_n (by omega), pp_set_s]
  have xrow : ∀ i, (i < r ∨ r + 3 < i) → μX1 i = μX i := fun i hi => by
    rw [eX, pp_rowN (by omega), pp_rowN (by omega), pp_rowN (by omega), pp_rowN (by omega)]
  have xo : ∀ i q, (q ≠ R ∨ i = r) → q ≠ 4 ∨ i ≠ r → μX1 i q = μX i q := fun i q hq hq2 => by
    rw [eX, pp_set_n (by omega), pp_set_n (by omega), pp_set_n (by omega), pp_set_n (by omega)]
  have x4' : μX1 r 4 = pp_i (R + 1) := by rw [eX, pp_set_s]
  have x1 : μX1 (r + 1) R = pp_i k := by rw [eX, pp_set_n (by omega), pp_set_n (by omega), pp_set_n (by omega), pp_set_s]
  have x2' : μX1 (r + 2) R = pp_i d := by rw [eX, pp_set_n (by omega), pp_set_n (by omega), pp_set_s]
  have x3' : μX1 (r + 3) R = pp_i S2 := by rw [eX, pp_set_n (by omega), pp_set_s]
  refine ⟨μX1, μM1, ?_, ?_, ⟨⟨⟨w1, w2, ?_, ?_, ?_, ?_⟩, ?_, x3, ?_, x5⟩, ⟨?_, hz, ?_, ?_, ?_, ?_, ?_⟩, ?_⟩, ⟨by omega, m5, x4', fun i hi => ?_, fun h => by omega, fun j hj => ?_⟩, ?_, ?_⟩
  · unfold f_X7_addRule
    rw [a3, show (8 : Int32) = pp_i 8 from rfl, pp_ite (pp_ge (by omega) (by omega)), if_neg (by omega), pp_wr (by omega) (by decide)]
    simp only [Option.bind_some]
    rw [pp_rowN (show r ≠ r + 1 by omega), a3, pp_wr (by omega) (by decide)]
    simp only [Option.bind_some]
    rw [pp_rowN (show r ≠ r + 2 by omega), pp_rowN (show r ≠ r + 1 by omega), a3, x4, pp_wr (by omega) (by decide)]
    simp only [Option.bind_some]
    rw [pp_rowN (show r ≠ r + 3 by omega), pp_rowN (show r ≠ r + 2 by omega), pp_rowN (show r ≠ r + 1 by omega), a3, show pp_i R + 1 = pp_i (R + 1) from pp_add R 1, eX]
  · rw [pp_wr (by omega) (by decide)]
    simp only [Option.bind_some]
    rw [show pp_i (38 + 4 * R) + 1 = pp_i (38 + 4 * R + 1) from pp_add _ 1, pp_wr (by omega) (by decide)]
    simp only [Option.bind_some]
    rw [show pp_i (38 + 4 * R) + 2 = pp_i (38 + 4 * R + 2) from pp_add _ 2, pp_wr (by omega) (by decide)]
    simp only [Option.bind_some]
    rw [show pp_i (38 + 4 * R) + 3 = pp_i (38 + 4 * R + 3) from pp_add _ 3, pp_wr (by omega) (by decide)]
    simp only [Option.bind_some]
    rw [pp_set_n (show ¬ ((1 : Nat) = 1 ∧ 7 = 38 + 4 * R + 2) by omega), pp_set_n (show ¬ ((1 : Nat) = 1 ∧ 7 = 38 + 4 * R + 1) by omega), pp_set_n (show ¬ ((1 : Nat) = 1 ∧ 7 = 38 + 4 * R) by omega), h7,
      pp_set_n (show ¬ ((1 : Nat) = 1 ∧ 5 = 38 + 4 * R + 3) by omega), pp_set_n (show ¬ ((1 : Nat) = 1 ∧ 5 = 38 + 4 * R + 2) by omega), pp_set_n (show ¬ ((1 : Nat) = 1 ∧ 5 = 38 + 4 * R + 1) by omega), pp_set_n (show ¬ ((1 : Nat) = 1 ∧ 5 = 38 + 4 * R) by omega), a2, show pp_i R + 1 = pp_i (R + 1) from pp_add R 1, eM]
  · rw [xrow 45 (by omega)]; exact w3
  · rw [xrow 47 (by omega)]; exact w4
  · rw [xrow 48 (by omega)]; exact w5
  · rw [xrow 47 (by omega), xrow 48 (by omega), xrow 49 (by omega)]; exact w6
  · rw [xrow 45 (by omega)]; exact x2
  · rw [xo r 5 (Or.inr rfl) (Or.inl (by decide))]; exact x4
  · rw [mrow 4 (by decide)]; exact hT
  · rw [mrow 0 (by decide)]; exact h5
  · unfold pp_TK
    rw [mrow 0 (by decide)]
    exact hK
  · rw [mrow 0 (by decide)]; exact h12
  · rw [mo 7 (by decide) (by omega)]; exact h7
  · rw [mrow 0 (by decide)]; exact h13
  · intro q hq
    rw [xrow (r + 4) (by omega), mo (94 + 3 * q) (by omega) (by omega), mo (94 + 3 * q + 1) (by omega) (by omega), mo (94 + 3 * q + 2) (by omega) (by omega)]
    exact hSR q hq
  · by_cases e : i = R
    · subst e
      refine ⟨S, S2, k, d, hS, Nat.le_refl _, hk, hd, m0, m1, m2, m3, x1, x2', x3', ?_, fun h0 => a5 h0, fun j hj => ?_⟩
      · rcases hg with g | g
        · exact Or.inl g
        · exact Or.inr (pp_gd_congr g (fun q h1 h2 => mo (94 + 3 * q) (by omega) (by omega)))
      · rw [mo _ (by omega) (by omega)]
        exact a6 j hj
    · obtain ⟨b', e', k', d', g1, g2, g3, g4, g5, g6, g7, g8, g9, g10, g11, g12, g13, g14⟩ := a4 i (by omega)
      refine ⟨b', e', k', d', g1, by omega, g3, g4, ?_, ?_, ?_, ?_, ?_, ?_, ?_, ?_, g13, fun j hj => ?_⟩
      · rw [mo _ (by omega) (by omega)]; exact g5
      · rw [mo _ (by omega) (by omega)]; exact g6
      · rw [mo _ (by omega) (by omega)]; exact g7
      · rw [mo _ (by omega) (by omega)]; exact g8
      · rw [xo _ _ (Or.inl e) (Or.inr (by omega))]; exact g9
      · rw [xo _ _ (Or.inl e) (Or.inr (by omega))]; exact g10
      · rw [xo _ _ (Or.inl e) (Or.inr (by omega))]; exact g11
      · rcases g12 with g | g
        · exact Or.inl g
        · exact Or.inr (pp_gd_congr g (fun q h1 h2 => mo (94 + 3 * q) (by omega) (by omega)))
      · rw [mo _ (by omega) (by omega)]; exact g14 j hj
  · have e : j = R := by omega
    subst e
    exact m3
  · rw [eX]
    exact (((pp_F.set (decide_eq_true (by omega))).trans (pp_F.set (decide_eq_true (by omega)))).trans (pp_F.set (decide_eq_true (by omega)))).trans (pp_F.set (decide_eq_true (by omega)))
  · rw [eM]
    exact ((((pp_F.set (decide_eq_true (by omega))).trans (pp_F.set (decide_eq_true (by omega)))).trans (pp_F.set (decide_eq_true (by omega)))).trans (pp_F.set (decide_eq_true (by omega)))).trans (pp_F.set (decide_eq_true (by omega)))
