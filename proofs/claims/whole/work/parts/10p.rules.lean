/-! ===== rules(), by both ===== -/
theorem pp_any (v : Int32) : ∃ n : Nat, v = pp_i n := ⟨v.toBitVec.toNat, by
  apply Int32.toBitVec_inj.mp
  simp [pp_i]⟩
theorem pp_M_rL2 {N : Nat} : ∀ (m n x : Nat) (μ : g_M), x + m = 544 → m < n → ∃ μ1 : g_M, f_X12_rules_L2 N n (pp_i x) μ = some μ1 ∧ (∀ i, i ≠ 6 → μ1 i = μ i) ∧ (∀ k, x ≤ k → k < 544 → μ1 6 k = μ 1 k) ∧ ∀ k, k < x → μ1 6 k = μ 6 k
  | 0, n, x, μ, hx, hn => by
    obtain ⟨n, rfl⟩ : ∃ k, n = k + 1 := ⟨n - 1, by omega⟩
    refine ⟨μ, ?_, fun _ _ => rfl, fun k h1 h2 => by omega, fun _ _ => rfl⟩
    rw [f_X12_rules_L2, show (544 : Int32) = pp_i 544 from rfl, pp_ite (pp_ge (by omega) (by omega)), if_pos (by omega)]
  | m + 1, n, x, μ, hx, hn => by
    obtain ⟨n, rfl⟩ : ∃ k, n = k + 1 := ⟨n - 1, by omega⟩
    obtain ⟨μ1, i1, i2, i3, i4⟩ := pp_M_rL2 (N := N) m n (x + 1) (g_set μ 6 x (μ 1 x)) (by omega) (by omega)
    refine ⟨μ1, ?_, fun i hi => by rw [i2 i hi, pp_rowN hi], fun k h1 h2 => ?_, fun k h1 => by rw [i4 k (by omega), pp_set_n (by omega)]⟩
    · rw [f_X12_rules_L2, show (544 : Int32) = pp_i 544 from rfl, pp_ite (pp_ge (by omega) (by omega)), if_neg (by omega), pp_rd (by omega) (by decide)]
      simp only [Option.bind_some]
      rw [pp_wr (by omega) (by decide)]
      simp only [Option.bind_some]
      rw [show pp_i x + 1 = pp_i (x + 1) from pp_add x 1]
      exact i1
    · by_cases e : k = x
      · subst e
        rw [i4 k (by omega), pp_set_s]
      · rw [i3 k (by omega) h2, pp_rowN (by decide)]
theorem pp_M_rL84 {N : Nat} : ∀ (m n x : Nat) (μ : g_M), x + m = 544 → m < n → ¬ μ 0 12 = 0 → ∃ μ1 : g_M, f_X12_rules_L84 N n (pp_i x) μ = some μ1 ∧ (∀ i, i ≠ 1 → μ1 i = μ i) ∧ (∀ k, x ≤ k → k < 544 → μ1 1 k = μ 6 k) ∧ ∀ k, k < x ∨ 544 ≤ k → μ1 1 k = μ 1 k
  | 0, n, x, μ, hx, hn, hw => by
    obtain ⟨n, rfl⟩ : ∃ k, n = k + 1 := ⟨n - 1, by omega⟩
    refine ⟨μ, ?_, fun _ _ => rfl, fun k h1 h2 => by omega, fun _ _ => rfl⟩
    rw [f_X12_rules_L84, show (544 : Int32) = pp_i 544 from rfl, pp_ite (pp_ge (by omega) (by omega)), if_pos (by omega)]
  | m + 1, n, x, μ, hx, hn, hw => by
    obtain ⟨n, rfl⟩ : ∃ k, n = k + 1 := ⟨n - 1, by omega⟩
    obtain ⟨μ1, i1, i2, i3, i4⟩ := pp_M_rL84 (N := N) m n (x + 1) (g_set μ 1 x (μ 6 x)) (by omega) (by omega) (by rw [pp_rowN (by decide)]; exact hw)
    refine ⟨μ1, ?_, fun i hi => by rw [i2 i hi, pp_rowN hi], fun k h1 h2 => ?_, fun k h1 => by rw [i4 k (by omega), pp_set_n (by omega)]⟩
    · rw [f_X12_rules_L84, show (544 : Int32) = pp_i 544 from rfl, pp_ite (pp_ge (by omega) (by omega)), if_neg (by omega), if_neg hw, pp_rd (by omega) (by decide)]
      simp only [Option.bind_some]
      rw [pp_wr (by omega) (by decide)]
      simp only [Option.bind_some]
      rw [show pp_i x + 1 = pp_i (x + 1) from pp_add x 1]
      exact i1
    · by_cases e : k = x
      · subst e
        rw [i4 k (by omega), pp_set_s]
      · rw [i3 k (by omega) h2, pp_rowN (by decide)]
theorem pp_J_RR {μX μM : g_M} {l W r R S op : Nat} {b : Nat → Nat} (hJ : pp_J μX μM l b W W r S op) (hRL : pp_RL μX μM r R S) (hS : S ≤ W) (hSl : 2 * S ≤ l) : pp_RR μX r (3 * W) (μM 1) := by
  have hl2 : l ≤ 200 := hJ.1.2.2.2.2
  have hWl : W ≤ l := hJ.1.1.2.1
  obtain ⟨a1, a2, a3, a4, a5, a6⟩ := hRL
  exact ⟨R, S, a1, by omega, a2, hJ.2.1.2.2.2.2.2.1, by omega, by omega, a3, a4, hJ.2.2⟩
theorem pp_rules_both {N l W r : Nat} {b : Nat → Nat} {μX μM : g_M} (hN : 1000 ≤ N) (hr : 60 < r) (hW : pp_WX μX l b W) (h46 : μX 45 5 = pp_i 0) (h4 : μX r 4 = pp_i 0) (hr5 : μX r 5 = pp_i 0) (hT : pp_TB (μM 4) l b) (hz : pp_BZ l b) (h5 : μM 0 5 = pp_i l) :
    ∃ (w ans : Int32) (μX1 μM1 : g_M) (j1 : Nat), pp_rtL N r (3 * W) N 0 1 μX = some (w, μX1) ∧ f_X12_rules N μM = some (ans, μM1) ∧ pp_F (pp_So r) μX μX1 ∧ (∀ i, i ≠ 0 → i ≠ 1 → i ≠ 6 → μM1 i = μM i) ∧ (∀ k, k ≠ 5 → (k < 8 ∨ 13 < k) → μM1 0 k = μM 0 k) ∧ μM1 0 5 = pp_i 0 ∧ pp_WX μX1 l b W ∧ μX1 45 5 = pp_i j1 ∧ j1 ≤ W ∧
      ((w = 1 ∧ j1 = W ∧ ∃ R : Nat, R ≤ 8 ∧ ans = pp_i R ∧ μX1 r 4 = pp_i R ∧ pp_RR μX1 r (3 * W) (μM1 1) ∧ ∀ k, k ≠ 5 → k ≠ 7 → (k < 38 ∨ (70 ≤ k ∧ k < 94)) → μM1 1 k = μM 1 k) ∨
       ((w = 0 ∨ j1 < W) ∧ ans = -100 - pp_i (pp_wp l b j1) ∧ μM1 1 = μM 1)) := by
  have hl2 : l ≤ 200 := hT.1
  have hWl : W ≤ l := hW.2.1
  obtain ⟨μa, a1, a2, a3, a4⟩ := pp_M_rL2 (N := N) 544 N 0 μM (by omega) (by omega)
  have a1 : f_X12_rules_L2 N N 0 μM = some μa := a1
  obtain ⟨μb, eb⟩ : ∃ μ, μ = g_set (g_set (g_set (g_set μa 1 5 0) 1 7 0) 0 10 0) 0 12 0 := ⟨_, rfl⟩
  have b4 : μb 4 = μM 4 := by rw [eb, pp_rowN (by decide), pp_rowN (by decide), pp_rowN (by decide), pp_rowN (by decide), a2 4 (by decide)]
  have b05 : μb 0 5 = pp_i l := by rw [eb, pp_set_n (by decide), pp_set_n (by decide), pp_rowN (by decide), pp_rowN (by decide), a2 0 (by decide)]; exact h5
  have b010 : μb 0 10 = pp_i 0 := by rw [eb, pp_set_n (by decide), pp_set_s]; rfl
  have b012 : μb 0 12 = pp_i 0 := by rw [eb, pp_set_s]; rfl
  have b15 : μb 1 5 = pp_i 0 := by rw [eb, pp_rowN (by decide), pp_rowN (by decide), pp_set_n (by decide), pp_set_s]; rfl
  have b17 : μb 1 7 = pp_i 0 := by rw [eb, pp_rowN (by decide), pp_rowN (by decide), pp_set_s]; rfl
  have b1 : ∀ k, k ≠ 5 → k ≠ 7 → μb 1 k = μM 1 k := fun k h h' => by rw [eb, pp_rowN (by decide), pp_rowN (by decide), pp_set_n (by omega), pp_set_n (by omega), a2 1 (by decide)]
  have b0 : ∀ k, k ≠ 10 → k ≠ 12 → μb 0 k = μM 0 k := fun k h h' => by rw [eb, pp_set_n (by omega), pp_set_n (by omega), pp_rowN (by decide), pp_rowN (by decide), a2 0 (by decide)]
  have brow : ∀ i, i ≠ 0 → i ≠ 1 → μb i = μa i := fun i h h' => by rw [eb, pp_rowN h, pp_rowN h, pp_rowN h', pp_rowN h']
  have hTb : pp_TB (μb 4) l b := by rw [b4]; exact hT
  obtain ⟨μc, c1, c2, c3s⟩ := pp_M_next (N := N) (by omega) hTb b05 b010 (Nat.zero_le l)
  have c3 := c3s.mono (fun a b q => pp_St_r q)
  obtain ⟨op, hop⟩ := pp_any (μc 0 13)
  have crow1 : μc 1 = μb 1 := pp_Fr1 c3
  have hPM : pp_PM μc l b (pp_wp l b 0) 0 0 op := ⟨by rw [c3.row (a := 4) (fun b => by simp [pp_Sr])]; exact hTb, hz, by rw [c3 0 5 (by decide)]; exact b05, c2, by rw [c3s 0 12 (by decide)]; exact b012, by rw [crow1]; exact b17, hop⟩
  have hJ : pp_J μX μc l b W 0 r 0 op := ⟨⟨hW, h46, Nat.zero_le W, hr5, hl2⟩, hPM, fun k hk => absurd hk (Nat.not_lt_zero k)⟩
  have hRL : pp_RL μX μc r 0 0 := ⟨by decide, by rw [crow1]; exact b15, h4, fun i hi => absurd hi (Nat.not_lt_zero i), fun _ => rfl, fun j hj => by omega⟩
  obtain ⟨w, μX1, μd, d1, d2, d3, d4, d5⟩ := pp_J_rulesL (N := N) (by omega) hr W N N 0 0 0 op μX μc (by omega) (by omega) (by omega) hJ hRL (Nat.le_refl 0) (Nat.zero_le _)
  have d1 : pp_rtL N r (3 * W) N 0 1 μX = some (w, μX1) := d1
  have d6 : ∀ i, i ≠ 0 → i ≠ 1 → μd i = μa i := fun i h h' => by
    rw [d4.row (a := i) (fun b => decide_eq_false (by omega)), c3.row (a := i) (fun b => decide_eq_false (by omega)), brow i h h']
  have d0 : ∀ k, (k < 8 ∨ 13 < k) → μd 0 k = μM 0 k := fun k hk => by
    rw [d4 0 k (decide_eq_false (by omega)), c3 0 k (decide_eq_false (by omega)), b0 k (by omega) (by omega)]
  have d11 : ∀ k, k ≠ 5 → k ≠ 7 → (k < 38 ∨ (70 ≤ k ∧ k < 94) ∨ 544 ≤ k) → μd 1 k = μM 1 k := fun k h h' h2 => by
    rw [d4 1 k (decide_eq_false (by omega)), crow1, b1 k h h']
  have hrun : ∀ (z : Option (Int32 × g_M)), ((f_X12_rules_L84 N N 0 (g_set μd 0 5 0)).bind fun μ13 => if (μ13 0 12) = 0 then some ((μ13 1 5), μ13) else some (((-100) - (μ13 0 9)), μ13)) = z → f_X12_rules N μM = z := fun z hz => by
    unfold f_X12_rules
    rw [a1]
    simp only [Option.bind_some]
    rw [← eb, c1]
    simp only [Option.bind_some]
    rw [d2]
    exact hz
  rcases d5 with ⟨hw, S1, R1, op1, kJ, kR, k3, k4⟩ | ⟨j1, S1, S2, op1, hw, kX, kM⟩
  · have e84 : f_X12_rules_L84 N N 0 (g_set μd 0 5 0) = some (g_set μd 0 5 0) := by
      obtain ⟨n, e⟩ : ∃ n, N = n + 1 := ⟨N - 1, by omega⟩
      have : ∀ k, 0 < k → f_X12_rules_L84 N k 0 (g_set μd 0 5 0) = some (g_set μd 0 5 0) := fun k hk => by
        obtain ⟨k, rfl⟩ : ∃ i, k = i + 1 := ⟨k - 1, by omega⟩
        rw [f_X12_rules_L84, if_neg (by decide), if_pos (show g_set μd 0 5 0 0 12 = 0 by rw [pp_set_n (by decide)]; exact kJ.2.1.2.2.2.2.1)]
      exact this N (by omega)
    refine ⟨w, pp_i R1, μX1, g_set μd 0 5 0, W, d1, hrun _ ?_, d3, fun i h h' h6 => ?_, fun k h h' => ?_, pp_set_s, kJ.1.1, kJ.1.2.1, Nat.le_refl W, Or.inl ⟨hw, rfl, R1, kR.1, rfl, kR.2.2.1, ?_, fun k h h' h2 => ?_⟩⟩
    · rw [e84]
      simp only [Option.bind_some]
      rw [if_pos (show g_set μd 0 5 0 0 12 = 0 by rw [pp_set_n (by decide)]; exact kJ.2.1.2.2.2.2.1), pp_rowN (show (1 : Nat) ≠ 0 by decide), kR.2.1]
    · rw [pp_rowN h, d6 i h h', a2 i h6]
    · rw [pp_set_n (by omega), d0 k h']
    · rw [pp_rowN (show (1 : Nat) ≠ 0 by decide)]
      exact pp_J_RR kJ kR k3 k4
    · rw [pp_rowN (show (1 : Nat) ≠ 0 by decide), d11 k h h' (by omega)]
  · have hw12 : ¬ g_set μd 0 5 0 0 12 = 0 := by
      rw [pp_set_n (by decide), kM.2.2.2.2.1]
      decide
    obtain ⟨μe, e1, e2, e3, e4⟩ := pp_M_rL84 (N := N) 544 N 0 (g_set μd 0 5 0) (by omega) (by omega) hw12
    have e1 : f_X12_rules_L84 N N 0 (g_set μd 0 5 0) = some μe := e1
    have e0 : μe 0 = g_set μd 0 5 0 0 := e2 0 (by decide)
    refine ⟨w, -100 - pp_i (pp_wp l b j1), μX1, μe, j1, d1, hrun _ ?_, d3, fun i h h' h6 => ?_, fun k h h' => ?_, ?_, kX.1, kX.2.1, kX.2.2.1, Or.inr ⟨hw, rfl, ?_⟩⟩
    · rw [e1]
      simp only [Option.bind_some]
      rw [e0, if_neg hw12, pp_set_n (by decide), kM.2.2.2.1.1]
    · rw [e2 i h', pp_rowN h, d6 i h h', a2 i h6]
    · rw [e0, pp_set_n (by omega), d0 k h']
    · rw [e0, pp_set_s]
      rfl
    · funext k
      rcases Nat.lt_or_ge k 544 with c | c
      · rw [e3 k (Nat.zero_le k) c, pp_rowN (by decide), d6 6 (by decide) (by decide), a3 k (Nat.zero_le k) c]
      · rw [e4 k (Or.inr c), pp_rowN (by decide), d11 k (by omega) (by omega) (by omega)]
