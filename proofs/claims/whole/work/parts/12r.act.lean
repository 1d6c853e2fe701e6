/-! ===== acts ===== -/
def pp_AC (kd : Nat) (n f p : Int32) (μX μM : g_M) : Prop := pp_TR μX μM ∧ μX 50 2 = n ∧ μM 0 42 = n ∧ μX 50 3 = f ∧ μM 0 43 = f ∧ μM 0 41 = pp_i kd ∧ μX 50 4 = p ∧ μM 0 44 = p
def pp_SXa (a _b : Nat) : Bool := decide (a = 50 ∨ a = 51)
def pp_SMa (a b : Nat) : Bool := decide (a = 18 ∨ (a = 0 ∧ 40 ≤ b ∧ b ≤ 44))
def pp_JG (kd : Nat) (n f : Int32) (fX fM : Int32 → g_M → Option (Int32 × g_M)) : Prop := ∀ (x p : Int32) (μX μM : g_M), pp_AC kd n f p μX μM → ∃ (v : Int32) (μX1 μM1 : g_M), fX x μX = some (v, μX1) ∧ fM x μM = some (v, μM1) ∧ pp_AC kd n f p μX1 μM1 ∧ pp_F pp_SXa μX μX1 ∧ pp_F pp_SMa μM μM1
def pp_JP (kd : Nat) (n f : Int32) (fX fM : Int32 → g_M → Option (Int32 × g_M)) : Prop := ∀ (x : Int32) (μX μM : g_M), pp_AC kd n f 0 μX μM → ∃ (v q : Int32) (μX1 μM1 : g_M), fX x μX = some (v, μX1) ∧ fM x μM = some (v, μM1) ∧ pp_AC kd n f q μX1 μM1 ∧ pp_F pp_SXa μX μX1 ∧ pp_F pp_SMa μM μM1
theorem pp_JG.P {kd : Nat} {n f : Int32} {fX fM : Int32 → g_M → Option (Int32 × g_M)} (h : pp_JG kd n f fX fM) : pp_JP kd n f fX fM := fun x μX μM hA => by
  obtain ⟨v, μX1, μM1, h1⟩ := h x 0 μX μM hA
  exact ⟨v, 0, μX1, μM1, h1⟩
theorem pp_bg (b : Int32) {kd : Nat} {n f p : Int32} {μX μM : g_M} (h : pp_AC kd n f p μX μM) : ∃ (μX1 μM1 : g_M), f_X0_began b μX = some μX1 ∧ f_X12_runs b μM = some μM1 ∧ pp_AC kd n f p μX1 μM1 ∧ pp_F pp_SXa μX μX1 ∧ pp_F pp_SMa μM μM1 := by
  obtain ⟨⟨c, hc, c1, c2, c3⟩, h1, h2, h3, h4, h5, h6, h7⟩ := h
  unfold f_X0_began f_X12_runs
  rw [c1, c2, show Int32.ofNat 30 = pp_i 30 from rfl, show (30 : Int32) = pp_i 30 from rfl, pp_ite (pp_ge (a := c) (b := 30) (by omega) (by omega)), pp_ite (pp_ge (a := c) (b := 30) (by omega) (by omega))]
  by_cases q : 30 ≤ c
  · rw [if_pos q, if_pos q]
    exact ⟨μX, μM, rfl, rfl, ⟨⟨c, hc, c1, c2, c3⟩, h1, h2, h3, h4, h5, h6, h7⟩, pp_F.refl, pp_F.refl⟩
  · rw [if_neg q, if_neg q, pp_wr (by omega) (by decide), pp_wr (by omega) (by decide)]
    simp only [Option.bind_some]
    rw [pp_set_n (show ¬ ((50 : Nat) = 51 ∧ 1 = c) by omega), pp_set_n (show ¬ ((0 : Nat) = 18 ∧ 40 = c) by omega), c1, c2, show pp_i c + 1 = pp_i (c + 1) from pp_add c 1]
    refine ⟨_, _, rfl, rfl, ⟨⟨c + 1, by omega, pp_set_s, pp_set_s, fun j hj => ?_⟩, ?_, ?_, ?_, ?_, ?_, ?_, ?_⟩, (pp_F.set (by exact decide_eq_true (Or.inr rfl))).trans (pp_F.set (by decide)), (pp_F.set (by exact decide_eq_true (Or.inl rfl))).trans (pp_F.set (by decide))⟩
    · rw [pp_rowN (show (51 : Nat) ≠ 50 by decide), pp_rowN (show (18 : Nat) ≠ 0 by decide)]
      by_cases e : j = c
      · rw [e, pp_set_s, pp_set_s]
      · rw [pp_set_n (by omega), pp_set_n (by omega), c3 j (by omega)]
    · rw [pp_set_n (by omega), pp_set_n (by omega), h1]
    · rw [pp_set_n (by omega), pp_set_n (by omega), h2]
    · rw [pp_set_n (by omega), pp_set_n (by omega), h3]
    · rw [pp_set_n (by omega), pp_set_n (by omega), h4]
    · rw [pp_set_n (by omega), pp_set_n (by omega), h5]
    · rw [pp_set_n (by omega), pp_set_n (by omega), h6]
    · rw [pp_set_n (by omega), pp_set_n (by omega), h7]
theorem pp_gp {kd : Nat} {n f : Int32} : pp_JG kd n f f_X3_glows_4_50 f_X12_glowsPlain := by
  intro x p μX μM h
  obtain ⟨μX1, μM1, a1, a2, a3, a4, a5⟩ := pp_bg 10 h
  refine ⟨x - n * 3, μX1, μM1, ?_, ?_, a3, a4, a5⟩
  · unfold f_X3_glows_4_50
    rw [a1]
    simp only [Option.bind_some]
    rw [a3.2.1]
  · unfold f_X12_glowsPlain
    rw [a2]
    simp only [Option.bind_some]
    rw [a3.2.2.1]
theorem pp_pp {kd : Nat} {n f : Int32} : pp_JP kd n f f_X3_parts_4_50 f_X12_partsPlain := by
  intro x μX μM h
  obtain ⟨μX1, μM1, a1, a2, a3, a4, a5⟩ := pp_bg 12 h
  obtain ⟨b0, b1, b2, b3, b4, b5, b6, b7⟩ := a3
  have fin : ∀ q : Int32, pp_AC kd n f q (g_set μX1 50 4 q) (g_set μM1 0 44 q) ∧ pp_F pp_SXa μX1 (g_set μX1 50 4 q) ∧ pp_F pp_SMa μM1 (g_set μM1 0 44 q) := fun q => by
    refine ⟨⟨b0.R (pp_rowN (by decide)) (pp_set_n (by decide)) (pp_rowN (by decide)) (pp_set_n (by decide)), ?_, ?_, ?_, ?_, ?_, pp_set_s, pp_set_s⟩, pp_F.set (by decide), pp_F.set (by decide)⟩
    · rw [pp_set_n (by decide), b1]
    · rw [pp_set_n (by decide), b2]
    · rw [pp_set_n (by decide), b3]
    · rw [pp_set_n (by decide), b4]
    · rw [pp_set_n (by decide), b5]
  have same : ∀ (μ : g_M) (a b : Nat) (v : Int32), μ a b = v → g_set μ a b v = μ := fun μ a b v hv => by
    funext i j
    unfold g_set
    by_cases c : i = a ∧ j = b
    · rw [if_pos c, c.1, c.2, hv]
    · rw [if_neg c]
  unfold f_X3_parts_4_50 f_X12_partsPlain
  rw [a1, a2]
  simp only [Option.bind_some]
  rw [b1, b2, b3, b4, b7, if_pos (show (0 : Int32) = 0 from rfl)]
  by_cases c : n = f
  · obtain ⟨g1, g2, g3⟩ := fin 1
    rw [if_pos (show n - f = 0 by rw [c, Int32.sub_self]), if_pos c, pp_set_s, if_neg (show ¬ ((1 : Int32) = 0) by decide)]
    exact ⟨0, 1, _, _, rfl, rfl, g1, a4.trans g2, a5.trans g3⟩
  · have hne : ¬ n - f = 0 := fun q => c (by
      have h2 := Int32.sub_add_cancel n f
      rw [q, Int32.zero_add] at h2
      exact h2.symm)
    obtain ⟨g1, g2, g3⟩ := fin 0
    rw [same μX1 50 4 0 b6] at g1 g2
    rw [if_neg hne, if_neg c, pp_set_s, if_pos (show (0 : Int32) = 0 from rfl), pp_set_n (by decide), pp_set_n (by decide), b2, b4]
    unfold g_rmo
    rw [if_neg hne]
    exact ⟨_, 0, _, _, rfl, rfl, g1, a4, a5.trans g3⟩
theorem pp_gl1 {n f : Int32} : pp_JG 1 n f f_X10_glows_4_50 f_X12_glows := by
  intro x p μX μM h
  obtain ⟨μX1, μM1, a1, a2, a3, a4, a5⟩ := pp_bg 20 h
  obtain ⟨v, μX2, μM2, b1, b2, b3, b4, b5⟩ := pp_gp x p μX1 μM1 a3
  refine ⟨v * 2, μX2, μM2, ?_, ?_, b3, a4.trans b4, a5.trans b5⟩
  · unfold f_X10_glows_4_50
    rw [a1]
    simp only [Option.bind_some]
    rw [show f_X3_glows_4_50 x μX1 = some (v, μX2) from b1]
    rfl
  · unfold f_X12_glows
    rw [h.2.2.2.2.2.1, if_pos (show pp_i 1 = 1 from rfl), a2]
    simp only [Option.bind_some]
    rw [b2]
    rfl
theorem pp_gl2 {n f : Int32} : pp_JG 2 n f f_X3_glows_5_50 f_X12_glows := by
  intro x p μX μM h
  obtain ⟨v, μX2, μM2, b1, b2, b3, b4, b5⟩ := pp_gp x p μX μM h
  refine ⟨v, μX2, μM2, b1, ?_, b3, b4, b5⟩
  unfold f_X12_glows
  rw [h.2.2.2.2.2.1, if_neg (show ¬ pp_i 2 = 1 by decide), if_neg (show ¬ pp_i 2 = 3 by decide), b2]
  rfl
theorem pp_gl3 {n f : Int32} : pp_JG 3 n f f_X1_glows_6_50 f_X12_glows := by
  intro x p μX μM h
  obtain ⟨μX1, μM1, a1, a2, a3, a4, a5⟩ := pp_bg 50 h
  obtain ⟨v, μX2, μM2, b1, b2, b3, b4, b5⟩ := pp_gp x p μX1 μM1 a3
  refine ⟨v ^^^ 3, μX2, μM2, ?_, ?_, b3, a4.trans b4, a5.trans b5⟩
  · unfold f_X1_glows_6_50
    rw [a1]
    simp only [Option.bind_some]
    rw [show f_X3_glows_6_50 x μX1 = some (v, μX2) from b1]
    rfl
  · unfold f_X12_glows
    rw [h.2.2.2.2.2.1, if_neg (show ¬ pp_i 3 = 1 by decide), if_pos (show pp_i 3 = 3 from rfl), a2]
    simp only [Option.bind_some]
    rw [b2]
    rfl
theorem pp_gl4 {n f : Int32} : pp_JG 4 n f f_X3_glows_7_50 f_X12_glows := by
  intro x p μX μM h
  obtain ⟨v, μX2, μM2, b1, b2, b3, b4, b5⟩ := pp_gp x p μX μM h
  refine ⟨v, μX2, μM2, b1, ?_, b3, b4, b5⟩
  unfold f_X12_glows
  rw [h.2.2.2.2.2.1, if_neg (show ¬ pp_i 4 = 1 by decide), if_neg (show ¬ pp_i 4 = 3 by decide), b2]
  rfl
theorem pp_gl5 {n f : Int32} : pp_JG 5 n f f_X3_glows_8_50 f_X12_glows := by
  intro x p μX μM h
  obtain ⟨v, μX2, μM2, b1, b2, b3, b4, b5⟩ := pp_gp x p μX μM h
  refine ⟨v, μX2, μM2, b1, ?_, b3, b4, b5⟩
  unfold f_X12_glows
  rw [h.2.2.2.2.2.1, if_neg (show ¬ pp_i 5 = 1 by decide), if_neg (show ¬ pp_i 5 = 3 by decide), b2]
  rfl
theorem pp_lp1 {n f : Int32} : pp_JG 1 n f f_X3_longs_4_50 f_X12_longsPlain := by
  intro x p μX μM h
  obtain ⟨μX1, μM1, a1, a2, a3, a4, a5⟩ := pp_bg 11 h
  obtain ⟨v, μX2, μM2, b1, b2, b3, b4, b5⟩ := pp_gl1 x p μX1 μM1 a3
  refine ⟨v ^^^ f, μX2, μM2, ?_, ?_, b3, a4.trans b4, a5.trans b5⟩
  · unfold f_X3_longs_4_50
    rw [a1]
    simp only [Option.bind_some]
    rw [b1]
    simp only [Option.bind_some]
    rw [b3.2.2.2.1]
  · unfold f_X12_longsPlain
    rw [a2]
    simp only [Option.bind_some]
    rw [b2]
    simp only [Option.bind_some]
    rw [b3.2.2.2.2.1]
theorem pp_lp2 {n f : Int32} : pp_JG 2 n f f_X3_longs_5_50 f_X12_longsPlain := by
  intro x p μX μM h
  obtain ⟨μX1, μM1, a1, a2, a3, a4, a5⟩ := pp_bg 11 h
  obtain ⟨v, μX2, μM2, b1, b2, b3, b4, b5⟩ := pp_gl2 x p μX1 μM1 a3
  refine ⟨v ^^^ f, μX2, μM2, ?_, ?_, b3, a4.trans b4, a5.trans b5⟩
  · unfold f_X3_longs_5_50
    rw [a1]
    simp only [Option.bind_some]
    rw [b1]
    simp only [Option.bind_some]
    rw [b3.2.2.2.1]
  · unfold f_X12_longsPlain
    rw [a2]
    simp only [Option.bind_some]
    rw [b2]
    simp only [Option.bind_some]
    rw [b3.2.2.2.2.1]
theorem pp_lp3 {n f : Int32} : pp_JG 3 n f f_X3_longs_6_50 f_X12_longsPlain := by
  intro x p μX μM h
  obtain ⟨μX1, μM1, a1, a2, a3, a4, a5⟩ := pp_bg 11 h
  obtain ⟨v, μX2, μM2, b1, b2, b3, b4, b5⟩ := pp_gl3 x p μX1 μM1 a3
  refine ⟨v ^^^ f, μX2, μM2, ?_, ?_, b3, a4.trans b4, a5.trans b5⟩
  · unfold f_X3_longs_6_50
    rw [a1]
    simp only [Option.bind_some]
    rw [b1]
    simp only [Option.bind_some]
    rw [b3.2.2.2.1]
  · unfold f_X12_longsPlain
    rw [a2]
    simp only [Option.bind_some]
    rw [b2]
    simp only [Option.bind_some]
    rw [b3.2.2.2.2.1]
theorem pp_lp4 {n f : Int32} : pp_JG 4 n f f_X3_longs_7_50 f_X12_longsPlain := by
  intro x p μX μM h
  obtain ⟨μX1, μM1, a1, a2, a3, a4, a5⟩ := pp_bg 11 h
  obtain ⟨v, μX2, μM2, b1, b2, b3, b4, b5⟩ := pp_gl4 x p μX1 μM1 a3
  refine ⟨v ^^^ f, μX2, μM2, ?_, ?_, b3, a4.trans b4, a5.trans b5⟩
  · unfold f_X3_longs_7_50
    rw [a1]
    simp only [Option.bind_some]
    rw [b1]
    simp only [Option.bind_some]
    rw [b3.2.2.2.1]
  · unfold f_X12_longsPlain
    rw [a2]
    simp only [Option.bind_some]
    rw [b2]
    simp only [Option.bind_some]
    rw [b3.2.2.2.2.1]
theorem pp_lp5 {n f : Int32} : pp_JG 5 n f f_X3_longs_8_50 f_X12_longsPlain := by
  intro x p μX μM h
  obtain ⟨μX1, μM1, a1, a2, a3, a4, a5⟩ := pp_bg 11 h
  obtain ⟨v, μX2, μM2, b1, b2, b3, b4, b5⟩ := pp_gl5 x p μX1 μM1 a3
  refine ⟨v ^^^ f, μX2, μM2, ?_, ?_, b3, a4.trans b4, a5.trans b5⟩
  · unfold f_X3_longs_8_50
    rw [a1]
    simp only [Option.bind_some]
    rw [b1]
    simp only [Option.bind_some]
    rw [b3.2.2.2.1]
  · unfold f_X12_longsPlain
    rw [a2]
    simp only [Option.bind_some]
    rw [b2]
    simp only [Option.bind_some]
    rw [b3.2.2.2.2.1]
theorem pp_la1 {n f : Int32} : pp_JG 1 n f f_X3_longs_4_50 f_X12_longsActs := by
  intro x p μX μM h
  obtain ⟨v, μX2, μM2, b1, b2, b3, b4, b5⟩ := pp_lp1 x p μX μM h
  refine ⟨v, μX2, μM2, b1, ?_, b3, b4, b5⟩
  unfold f_X12_longsActs
  rw [h.2.2.2.2.2.1, if_neg (show ¬ pp_i 1 = 2 by decide), if_neg (show ¬ pp_i 1 = 3 by decide), if_neg (show ¬ pp_i 1 = 5 by decide), b2]
  rfl
theorem pp_la2 {n f : Int32} : pp_JG 2 n f f_X6_longs_5_50 f_X12_longsActs := by
  intro x p μX μM h
  obtain ⟨μX1, μM1, a1, a2, a3, a4, a5⟩ := pp_bg 30 h
  obtain ⟨v, μX2, μM2, b1, b2, b3, b4, b5⟩ := pp_lp2 x p μX1 μM1 a3
  refine ⟨v - n, μX2, μM2, ?_, ?_, b3, a4.trans b4, a5.trans b5⟩
  · unfold f_X6_longs_5_50
    rw [a1]
    simp only [Option.bind_some]
    rw [b1]
    simp only [Option.bind_some]
    rw [b3.2.1]
  · unfold f_X12_longsActs
    rw [h.2.2.2.2.2.1, if_pos (show pp_i 2 = 2 from rfl), a2]
    simp only [Option.bind_some]
    rw [b2]
    simp only [Option.bind_some]
    rw [b3.2.2.1]
theorem pp_la3 {n f : Int32} : pp_JG 3 n f f_X6_longs_6_50 f_X12_longsActs := by
  intro x p μX μM h
  obtain ⟨μX1, μM1, a1, a2, a3, a4, a5⟩ := pp_bg 30 h
  obtain ⟨v, μX2, μM2, b1, b2, b3, b4, b5⟩ := pp_lp3 x p μX1 μM1 a3
  refine ⟨v - n, μX2, μM2, ?_, ?_, b3, a4.trans b4, a5.trans b5⟩
  · unfold f_X6_longs_6_50
    rw [a1]
    simp only [Option.bind_some]
    rw [b1]
    simp only [Option.bind_some]
    rw [b3.2.1]
  · unfold f_X12_longsActs
    rw [h.2.2.2.2.2.1, if_neg (show ¬ pp_i 3 = 2 by decide), if_pos (show pp_i 3 = 3 from rfl), a2]
    simp only [Option.bind_some]
    rw [b2]
    simp only [Option.bind_some]
    rw [b3.2.2.1]
theorem pp_la4 {n f : Int32} : pp_JG 4 n f f_X3_longs_7_50 f_X12_longsActs := by
  intro x p μX μM h
  obtain ⟨v, μX2, μM2, b1, b2, b3, b4, b5⟩ := pp_lp4 x p μX μM h
  refine ⟨v, μX2, μM2, b1, ?_, b3, b4, b5⟩
  unfold f_X12_longsActs
  rw [h.2.2.2.2.2.1, if_neg (show ¬ pp_i 4 = 2 by decide), if_neg (show ¬ pp_i 4 = 3 by decide), if_neg (show ¬ pp_i 4 = 5 by decide), b2]
  rfl
theorem pp_la5 {n f : Int32} : pp_JG 5 n f f_X5_longs_8_50 f_X12_longsActs := by
  intro x p μX μM h
  obtain ⟨μX1, μM1, a1, a2, a3, a4, a5⟩ := pp_bg 60 h
  obtain ⟨v, μX2, μM2, b1, b2, b3, b4, b5⟩ := pp_lp5 x p μX1 μM1 a3
  refine ⟨0 - v, μX2, μM2, ?_, ?_, b3, a4.trans b4, a5.trans b5⟩
  · unfold f_X5_longs_8_50
    rw [a1]
    simp only [Option.bind_some]
    rw [b1]
    rfl
  · unfold f_X12_longsActs
    rw [h.2.2.2.2.2.1, if_neg (show ¬ pp_i 5 = 2 by decide), if_neg (show ¬ pp_i 5 = 3 by decide), if_pos (show pp_i 5 = 5 from rfl), a2]
    simp only [Option.bind_some]
    rw [b2]
    rfl
theorem pp_pa1 {n f : Int32} : pp_JP 1 n f f_X3_parts_4_50 f_X12_parts := by
  intro x μX μM h
  obtain ⟨v, q, μX2, μM2, b1, b2, b3, b4, b5⟩ := pp_pp x μX μM h
  refine ⟨v, q, μX2, μM2, b1, ?_, b3, b4, b5⟩
  unfold f_X12_parts
  rw [h.2.2.2.2.2.1, if_neg (show ¬ pp_i 1 = 4 by decide), if_neg (show ¬ pp_i 1 = 5 by decide), b2]
  rfl
theorem pp_pa2 {n f : Int32} : pp_JP 2 n f f_X3_parts_5_50 f_X12_parts := by
  intro x μX μM h
  obtain ⟨v, q, μX2, μM2, b1, b2, b3, b4, b5⟩ := pp_pp x μX μM h
  refine ⟨v, q, μX2, μM2, b1, ?_, b3, b4, b5⟩
  unfold f_X12_parts
  rw [h.2.2.2.2.2.1, if_neg (show ¬ pp_i 2 = 4 by decide), if_neg (show ¬ pp_i 2 = 5 by decide), b2]
  rfl
theorem pp_pa3 {n f : Int32} : pp_JP 3 n f f_X3_parts_6_50 f_X12_parts := by
  intro x μX μM h
  obtain ⟨v, q, μX2, μM2, b1, b2, b3, b4, b5⟩ := pp_pp x μX μM h
  refine ⟨v, q, μX2, μM2, b1, ?_, b3, b4, b5⟩
  unfold f_X12_parts
  rw [h.2.2.2.2.2.1, if_neg (show ¬ pp_i 3 = 4 by decide), if_neg (show ¬ pp_i 3 = 5 by decide), b2]
  rfl
theorem pp_pq4 {n f : Int32} : pp_JP 4 n f f_X4_parts_7_50 f_X12_partsPortable := by
  intro x μX μM h
  obtain ⟨μX1, μM1, a1, a2, a3, a4, a5⟩ := pp_bg 40 h
  obtain ⟨v, q, μX2, μM2, b1, b2, b3, b4, b5⟩ := pp_pp x μX1 μM1 a3
  refine ⟨v + f, q, μX2, μM2, ?_, ?_, b3, a4.trans b4, a5.trans b5⟩
  · unfold f_X4_parts_7_50
    rw [a1]
    simp only [Option.bind_some]
    rw [show f_X3_parts_7_50 x μX1 = some (v, μX2) from b1]
    simp only [Option.bind_some]
    rw [b3.2.2.2.1]
  · unfold f_X12_partsPortable
    rw [a2]
    simp only [Option.bind_some]
    rw [b2]
    simp only [Option.bind_some]
    rw [b3.2.2.2.2.1]
theorem pp_pq5 {n f : Int32} : pp_JP 5 n f f_X4_parts_8_50 f_X12_partsPortable := by
  intro x μX μM h
  obtain ⟨μX1, μM1, a1, a2, a3, a4, a5⟩ := pp_bg 40 h
  obtain ⟨v, q, μX2, μM2, b1, b2, b3, b4, b5⟩ := pp_pp x μX1 μM1 a3
  refine ⟨v + f, q, μX2, μM2, ?_, ?_, b3, a4.trans b4, a5.trans b5⟩
  · unfold f_X4_parts_8_50
    rw [a1]
    simp only [Option.bind_some]
    rw [show f_X3_parts_8_50 x μX1 = some (v, μX2) from b1]
    simp only [Option.bind_some]
    rw [b3.2.2.2.1]
  · unfold f_X12_partsPortable
    rw [a2]
    simp only [Option.bind_some]
    rw [b2]
    simp only [Option.bind_some]
    rw [b3.2.2.2.2.1]
theorem pp_pa4 {n f : Int32} : pp_JP 4 n f f_X4_parts_7_50 f_X12_parts := by
  intro x μX μM h
  obtain ⟨v, q, μX2, μM2, b1, b2, b3, b4, b5⟩ := pp_pq4 x μX μM h
  refine ⟨v, q, μX2, μM2, b1, ?_, b3, b4, b5⟩
  unfold f_X12_parts
  rw [h.2.2.2.2.2.1, if_pos (show pp_i 4 = 4 from rfl), b2]
  rfl
theorem pp_pa5 {n f : Int32} : pp_JP 5 n f f_X5_parts_8_50 f_X12_parts := by
  intro x μX μM h
  obtain ⟨μX1, μM1, a1, a2, a3, a4, a5⟩ := pp_bg 61 h
  obtain ⟨v, q, μX2, μM2, b1, b2, b3, b4, b5⟩ := pp_pq5 x μX1 μM1 a3
  unfold f_X5_parts_8_50 f_X12_parts
  rw [h.2.2.2.2.2.1, if_neg (show ¬ pp_i 5 = 4 by decide), if_pos (show pp_i 5 = 5 from rfl), a1, a2]
  simp only [Option.bind_some]
  rw [b1, b2]
  simp only [Option.bind_some]
  rw [b3.2.2.2.2.2.2.1, b3.2.2.2.2.2.2.2, b3.2.1, b3.2.2.1]
  by_cases c : q = 0
  · obtain ⟨w, μX3, μM3, c1, c2, c3, c4, c5⟩ := pp_gl5 n q μX2 μM2 b3
    rw [if_pos c, if_pos c, c1, c2]
    exact ⟨_, q, _, _, rfl, rfl, c3, (a4.trans b4).trans c4, (a5.trans b5).trans c5⟩
  · rw [if_neg c, if_neg c]
    exact ⟨_, q, _, _, rfl, rfl, b3, a4.trans b4, a5.trans b5⟩
theorem pp_wp1 {n f : Int32} : pp_JG 1 n f f_X3_weds_4_50 f_X12_wedsPlain := by
  intro x p μX μM h
  obtain ⟨μX1, μM1, a1, a2, a3, a4, a5⟩ := pp_bg 13 h
  obtain ⟨v, μX2, μM2, b1, b2, b3, b4, b5⟩ := pp_la1 x p μX1 μM1 a3
  refine ⟨v + 1, μX2, μM2, ?_, ?_, b3, a4.trans b4, a5.trans b5⟩
  · unfold f_X3_weds_4_50
    rw [a1]
    simp only [Option.bind_some]
    rw [b1]
    rfl
  · unfold f_X12_wedsPlain
    rw [a2]
    simp only [Option.bind_some]
    rw [b2]
    rfl
theorem pp_wa1 {n f : Int32} : pp_JP 1 n f f_X3_weds_4_50 f_X12_wedsActs := by
  intro x μX μM h
  obtain ⟨v, μX2, μM2, b1, b2, b3, b4, b5⟩ := pp_wp1 x 0 μX μM h
  refine ⟨v, 0, μX2, μM2, b1, ?_, b3, b4, b5⟩
  unfold f_X12_wedsActs
  rw [h.2.2.2.2.2.1, if_neg (show ¬ pp_i 1 = 3 by decide), b2]
  rfl
theorem pp_wp2 {n f : Int32} : pp_JG 2 n f f_X3_weds_5_50 f_X12_wedsPlain := by
  intro x p μX μM h
  obtain ⟨μX1, μM1, a1, a2, a3, a4, a5⟩ := pp_bg 13 h
  obtain ⟨v, μX2, μM2, b1, b2, b3, b4, b5⟩ := pp_la2 x p μX1 μM1 a3
  refine ⟨v + 1, μX2, μM2, ?_, ?_, b3, a4.trans b4, a5.trans b5⟩
  · unfold f_X3_weds_5_50
    rw [a1]
    simp only [Option.bind_some]
    rw [b1]
    rfl
  · unfold f_X12_wedsPlain
    rw [a2]
    simp only [Option.bind_some]
    rw [b2]
    rfl
theorem pp_wa2 {n f : Int32} : pp_JP 2 n f f_X3_weds_5_50 f_X12_wedsActs := by
  intro x μX μM h
  obtain ⟨v, μX2, μM2, b1, b2, b3, b4, b5⟩ := pp_wp2 x 0 μX μM h
  refine ⟨v, 0, μX2, μM2, b1, ?_, b3, b4, b5⟩
  unfold f_X12_wedsActs
  rw [h.2.2.2.2.2.1, if_neg (show ¬ pp_i 2 = 3 by decide), b2]
  rfl
theorem pp_wp3 {n f : Int32} : pp_JG 3 n f f_X3_weds_6_50 f_X12_wedsPlain := by
  intro x p μX μM h
  obtain ⟨μX1, μM1, a1, a2, a3, a4, a5⟩ := pp_bg 13 h
  obtain ⟨v, μX2, μM2, b1, b2, b3, b4, b5⟩ := pp_la3 x p μX1 μM1 a3
  refine ⟨v + 1, μX2, μM2, ?_, ?_, b3, a4.trans b4, a5.trans b5⟩
  · unfold f_X3_weds_6_50
    rw [a1]
    simp only [Option.bind_some]
    rw [b1]
    rfl
  · unfold f_X12_wedsPlain
    rw [a2]
    simp only [Option.bind_some]
    rw [b2]
    rfl
theorem pp_wp4 {n f : Int32} : pp_JG 4 n f f_X3_weds_7_50 f_X12_wedsPlain := by
  intro x p μX μM h
  obtain ⟨μX1, μM1, a1, a2, a3, a4, a5⟩ := pp_bg 13 h
  obtain ⟨v, μX2, μM2, b1, b2, b3, b4, b5⟩ := pp_la4 x p μX1 μM1 a3
  refine ⟨v + 1, μX2, μM2, ?_, ?_, b3, a4.trans b4, a5.trans b5⟩
  · unfold f_X3_weds_7_50
    rw [a1]
    simp only [Option.bind_some]
    rw [b1]
    rfl
  · unfold f_X12_wedsPlain
    rw [a2]
    simp only [Option.bind_some]
    rw [b2]
    rfl
theorem pp_wa4 {n f : Int32} : pp_JP 4 n f f_X3_weds_7_50 f_X12_wedsActs := by
  intro x μX μM h
  obtain ⟨v, μX2, μM2, b1, b2, b3, b4, b5⟩ := pp_wp4 x 0 μX μM h
  refine ⟨v, 0, μX2, μM2, b1, ?_, b3, b4, b5⟩
  unfold f_X12_wedsActs
  rw [h.2.2.2.2.2.1, if_neg (show ¬ pp_i 4 = 3 by decide), b2]
  rfl
theorem pp_wp5 {n f : Int32} : pp_JG 5 n f f_X3_weds_8_50 f_X12_wedsPlain := by
  intro x p μX μM h
  obtain ⟨μX1, μM1, a1, a2, a3, a4, a5⟩ := pp_bg 13 h
  obtain ⟨v, μX2, μM2, b1, b2, b3, b4, b5⟩ := pp_la5 x p μX1 μM1 a3
  refine ⟨v + 1, μX2, μM2, ?_, ?_, b3, a4.trans b4, a5.trans b5⟩
  · unfold f_X3_weds_8_50
    rw [a1]
    simp only [Option.bind_some]
    rw [b1]
    rfl
  · unfold f_X12_wedsPlain
    rw [a2]
    simp only [Option.bind_some]
    rw [b2]
    rfl
theorem pp_wa5 {n f : Int32} : pp_JP 5 n f f_X3_weds_8_50 f_X12_wedsActs := by
  intro x μX μM h
  obtain ⟨v, μX2, μM2, b1, b2, b3, b4, b5⟩ := pp_wp5 x 0 μX μM h
  refine ⟨v, 0, μX2, μM2, b1, ?_, b3, b4, b5⟩
  unfold f_X12_wedsActs
  rw [h.2.2.2.2.2.1, if_neg (show ¬ pp_i 5 = 3 by decide), b2]
  rfl
theorem pp_wa3 {n f : Int32} : pp_JP 3 n f f_X1_weds_6_50 f_X12_wedsActs := by
  intro x μX μM h
  obtain ⟨μX1, μM1, a1, a2, a3, a4, a5⟩ := pp_bg 51 h
  obtain ⟨v, μX2, μM2, b1, b2, b3, b4, b5⟩ := pp_wp3 x 0 μX1 μM1 a3
  obtain ⟨w, q, μX3, μM3, c1, c2, c3, c4, c5⟩ := pp_pa3 x μX2 μM2 b3
  refine ⟨v * w, q, μX3, μM3, ?_, ?_, c3, (a4.trans b4).trans c4, (a5.trans b5).trans c5⟩
  · unfold f_X1_weds_6_50
    rw [a1]
    simp only [Option.bind_some]
    rw [b1]
    simp only [Option.bind_some]
    rw [c1]
    rfl
  · unfold f_X12_wedsActs
    rw [h.2.2.2.2.2.1, if_pos (show pp_i 3 = 3 from rfl), a2]
    simp only [Option.bind_some]
    rw [b2]
    simp only [Option.bind_some]
    rw [c2]
    rfl
theorem pp_trR {t L u Lu : Nat} {μX μM μX1 μM1 : g_M} (h : pp_Rel t L u Lu μX μM) (hS : pp_TR μX1 μM1) (fX : pp_F pp_SXa μX μX1) (fM : pp_F pp_SMa μM μM1) : pp_Rel t L u Lu μX1 μM1 := by
  have eX : ∀ a, ¬ (a = 50 ∨ a = 51) → μX1 a = μX a := fun a ha => fX.row (fun b => decide_eq_false ha)
  have eM : ∀ a, ¬ (a = 18 ∨ a = 0) → μM1 a = μM a := fun a ha => fM.row (fun b => decide_eq_false (by omega))
  have e0 : ∀ b, ¬ (40 ≤ b ∧ b ≤ 44) → μM1 0 b = μM 0 b := fun b hb => fM 0 b (decide_eq_false (by omega))
  obtain ⟨ht, hu, ⟨hI, hD, hR, c, hp⟩, hk, hta, hrw, hs, hh, htr⟩ := h
  refine ⟨ht, hu, ?_, hk.R hu (fun a ha => eX a ?_) (by rw [eX 0 (by omega)]) (eM 2 (by omega)) (e0 2 (by omega)), hta.R (eX 46 (by omega)) (by rw [eX 45 (by omega)]) (eM 4 (by omega)) (e0 5 (by omega)), hrw.R (eX 52 (by omega)) (by rw [eX 0 (by omega)]) (eM 11 (by omega)) (e0 32 (by omega)), hs.R (fun a h1 h2 => eX a (by omega)) (eM 12 (by omega)) (eM 13 (by omega)) (eM 14 (by omega)), hh.R (fun a h1 h2 => eX a (by omega)) (eM 15 (by omega)) (eM 16 (by omega)) (eM 17 (by omega)), hS⟩
  · rw [eM 1 (by omega)]
    refine ⟨hI, ⟨hD.1.rows (by rw [eX 1 (by omega)]) (fun i h1 h2 => eX i (by omega)), ?_⟩, hR.F (fun a ha hb => eX a (by
      have := pp_rk_no ht ha hb
      omega)), c, hp.F (by rw [eX 1 (by omega)]) (eX 17 (by omega))⟩
    rw [eX 1 (by omega)]
    exact hD.2
  · rcases ha with ha | ⟨ha, hb⟩
    · omega
    · have := pp_rk_no hu ha hb
      omega
theorem pp_c_trace {t L u Lu : Nat} {μX μM : g_M} {a : Int32} (h : pp_Rel t L u Lu μX μM) : ∃ (v : Int32), f_X11_trace a μX = some v ∧ f_X12_trace a μM = some v ∧ pp_Rel t L u Lu μX μM := by
  obtain ⟨c, hc, c1, c2, c3⟩ := h.2.2.2.2.2.2.2.2
  have f6 : f_X12_isIn a.toInt64 0 (pp_i c - 1).toInt64 = f_X11_isBetween a 0 (pp_i c - 1) := pp_M_in (lo := 0) (hi := pp_i c - 1)
  unfold f_X11_trace f_X12_trace
  rw [c1, c2, f6]
  rcases pp_itm (a := a) (z := c) (by omega) with e5 | ⟨k, hk, rfl, e5⟩
  · rw [if_pos e5, if_pos e5]
    exact ⟨_, rfl, rfl, h⟩
  · rw [if_neg (pp_n10 e5), if_neg (pp_n10 e5), pp_rd (by omega) (by decide), pp_rd (by omega) (by decide), c3 k hk]
    exact ⟨_, rfl, rfl, h⟩
/-- behind an act -/
theorem pp_acE {t L u Lu kd : Nat} {n f x : Int32} {μX0 μM0 μX μM : g_M} {fX fM : Int32 → g_M → Option (Int32 × g_M)} (hJ : pp_JP kd n f fX fM) (h : pp_Rel t L u Lu μX0 μM0) (hA : pp_AC kd n f 0 μX μM) (f1 : pp_F pp_SXa μX0 μX) (f2 : pp_F pp_SMa μM0 μM) :
    ∃ (v : Int32) (μX1 μM1 : g_M), ((fX x μX).bind fun w => if (w.2 50 4) = 0 then some (w.1, w.2) else some ((-15), w.2)) = some (v, μX1) ∧ ((fM x μM).bind fun w => if (w.2 0 44) = 0 then some (w.1, w.2) else some ((-15), w.2)) = some (v, μM1) ∧ pp_Rel t L u Lu μX1 μM1 := by
  obtain ⟨v, q, μX1, μM1, j1, j2, j3, j4, j5⟩ := hJ x μX μM hA
  have hR := pp_trR h j3.1 (f1.trans j4) (f2.trans j5)
  rw [j1, j2]
  simp only [Option.bind_some]
  rw [j3.2.2.2.2.2.2.1, j3.2.2.2.2.2.2.2]
  by_cases c : q = 0
  · rw [if_pos c, if_pos c]
    exact ⟨_, _, _, rfl, rfl, hR⟩
  · rw [if_neg c, if_neg c]
    exact ⟨_, _, _, rfl, rfl, hR⟩
theorem pp_c_act {t L u Lu : Nat} {μX μM : g_M} {a1 a2 a3 : Int32} (h : pp_Rel t L u Lu μX μM) : ∃ (v : Int32) (μX1 μM1 : g_M), f_X11_act a1 a2 a3 μX = some (v, μX1) ∧ f_X12_act a1 a2 a3 μM = some (v, μM1) ∧ pp_Rel t L u Lu μX1 μM1 := by
  have h0 : pp_Rel t L u Lu (g_set (g_set μX 50 1 0) 50 4 0) (g_set μM 0 40 0) := pp_trR h ⟨0, by decide, by rw [pp_set_n (by decide), pp_set_s]; rfl, pp_set_s, fun j hj => absurd hj (Nat.not_lt_zero j)⟩ ((pp_F.set (by decide)).trans (pp_F.set (by decide))) (pp_F.set (by decide))
  obtain ⟨μX3, e3⟩ : ∃ μ, μ = g_set (g_set μX 50 1 0) 50 4 0 := ⟨_, rfl⟩
  obtain ⟨μM3, m3⟩ : ∃ μ, μ = g_set μM 0 40 0 := ⟨_, rfl⟩
  have p3 : μX3 50 4 = 0 := by rw [e3, pp_set_s]
  unfold f_X11_act f_X12_act f_X0_clear f_X11_isShelf f_X12_isShelf
  simp only [Option.bind_some]
  rw [← e3, ← m3] at h0 ⊢
  clear e3 m3 h
  rcases pp_btw (a := a1) (lo := 0) (hi := 3) (by decide) (by decide) with ⟨e1, e2⟩ | ⟨i, k1, k2, rfl, e1, e2⟩
  · have e1 : f_X11_isBetween a1 0 3 = 0 := e1
    have e2 : f_X12_isIn a1.toInt64 0 3 = 0 := e2
    rw [if_pos e1, if_pos e2]
    exact ⟨_, _, _, rfl, rfl, h0⟩
  have e1 : f_X11_isBetween (pp_i i) 0 3 = 1 := e1
  have e2 : f_X12_isIn (pp_i i).toInt64 0 3 = 1 := e2
  rw [if_neg (pp_n10 e1), if_neg (pp_n10 e2)]
  rcases pp_btw (a := a2) (lo := 0) (hi := 3) (by decide) (by decide) with ⟨e5, e6⟩ | ⟨k, i1, i2, rfl, e5, e6⟩
  · have e5 : f_X11_isBetween a2 0 3 = 0 := e5
    have e6 : f_X12_isIn a2.toInt64 0 3 = 0 := e6
    rw [if_pos e5, if_pos e6]
    exact ⟨_, _, _, rfl, rfl, h0⟩
  have e5 : f_X11_isBetween (pp_i k) 0 3 = 1 := e5
  have e6 : f_X12_isIn (pp_i k).toInt64 0 3 = 1 := e6
  rw [if_neg (pp_n10 e5), if_neg (pp_n10 e6)]
  rcases pp_held h0 (show i < 4 by omega) with ⟨h1, h2⟩ | ⟨h1, h2, n, hn, h3, h4⟩ | ⟨h1, h2, -⟩
  · rw [h1, h2]
    exact ⟨_, _, _, rfl, rfl, h0⟩
  · obtain ⟨hI, hD, hR, hp⟩ := h0.2.2.1
    have hn6 := hI.1.2
    obtain ⟨kd, wa, pl, fi, g1, g2, g3, g4, g5, g6, g7, g8, g9, g10⟩ := hI.2.1 n hn
    obtain ⟨c0, c1, c2, c3⟩ := hD.1.2.1 n hn
    have rM : ∀ μ : g_M, g_rd μ 16 4 (pp_i i) = some (μ 16 i) := fun μ => pp_rd (by omega) (by decide)
    have it0 : ∀ μ : g_M, f_X12_its (pp_i n) 0 μ = some (μ 1 (8 + 5 * n + 0)) := fun μ => pp_M_its (i := 0) (by omega)
    have it3 : ∀ μ : g_M, f_X12_its (pp_i n) 3 μ = some (μ 1 (8 + 5 * n + 3)) := fun μ => pp_M_its (i := 3) (by omega)
    rw [h1, h2]
    simp only [Option.bind_some, rM]
    rw [if_pos True.intro, if_pos True.intro, pp_rd (by omega) (by decide), h3]
    simp only [Option.bind_some]
    rw [pp_rd (by omega) (by decide), pp_rowN (show (12 : Nat) ≠ 50 by decide), c3, g10]
    simp only [Option.bind_some]
    rw [pp_rd (by omega) (by decide), pp_rowN (show (9 : Nat) ≠ 50 by decide), pp_rowN (show (9 : Nat) ≠ 50 by decide), c0, g7]
    simp only [Option.bind_some]
    have r16 : ∀ (μ : g_M) (b : Nat) (v : Int32), g_set μ 0 b v 16 i = μ 16 i := fun _ _ _ => pp_set_n (by omega)
    have r1 : ∀ (μ : g_M) (b j : Nat) (v : Int32), g_set μ 0 b v 1 j = μ 1 j := fun _ _ _ _ => pp_set_n (by omega)
    simp only [r16, h4, it0, it3, r1, g7, g10, Option.bind_some]
    have hA : pp_AC kd (pp_i n) (pp_i fi) 0 (g_set (g_set μX3 50 2 (pp_i n)) 50 3 (pp_i fi)) (g_set (g_set (g_set (g_set μM3 0 44 0) 0 41 (pp_i kd)) 0 42 (pp_i n)) 0 43 (pp_i fi)) := by
      refine ⟨h0.2.2.2.2.2.2.2.2.R ?_ ?_ ?_ ?_, ?_, ?_, ?_, ?_, ?_, ?_, ?_⟩
      · rw [pp_rowN (by decide), pp_rowN (by decide)]
      · rw [pp_set_n (by decide), pp_set_n (by decide)]
      · rw [pp_rowN (by decide), pp_rowN (by decide), pp_rowN (by decide), pp_rowN (by decide)]
      · rw [pp_set_n (by decide), pp_set_n (by decide), pp_set_n (by decide), pp_set_n (by decide)]
      · rw [pp_set_n (by decide), pp_set_s]
      · rw [pp_set_n (by decide), pp_set_s]
      · rw [pp_set_s]
      · rw [pp_set_s]
      · rw [pp_set_n (by decide), pp_set_n (by decide), pp_set_s]
      · rw [pp_set_n (by decide), pp_set_n (by decide), p3]
      · rw [pp_set_n (by decide), pp_set_n (by decide), pp_set_n (by decide), pp_set_s]
    have f1 : pp_F pp_SXa μX3 (g_set (g_set μX3 50 2 (pp_i n)) 50 3 (pp_i fi)) := (pp_F.set (by decide)).trans (pp_F.set (by decide))
    have f2 : pp_F pp_SMa μM3 (g_set (g_set (g_set (g_set μM3 0 44 0) 0 41 (pp_i kd)) 0 42 (pp_i n)) 0 43 (pp_i fi)) := (((pp_F.set (by decide)).trans (pp_F.set (by decide))).trans (pp_F.set (by decide))).trans (pp_F.set (by decide))
    generalize g_set (g_set μX3 50 2 (pp_i n)) 50 3 (pp_i fi) = μX4 at hA f1 ⊢
    generalize g_set (g_set (g_set (g_set μM3 0 44 0) 0 41 (pp_i kd)) 0 42 (pp_i n)) 0 43 (pp_i fi) = μM4 at hA f2 ⊢
    have hkd : kd = 1 ∨ kd = 2 ∨ kd = 3 ∨ kd = 4 ∨ kd = 5 := by omega
    have hk : k = 0 ∨ k = 1 ∨ k = 2 ∨ k = 3 := by omega
    rcases hkd with rfl | rfl | rfl | rfl | rfl
    · rw [if_pos (show pp_i 1 = 1 from rfl)]
      rcases hk with rfl | rfl | rfl | rfl
      · rw [if_pos (show pp_i 0 = 0 from rfl), if_pos (show pp_i 0 = 0 from rfl)]
        exact pp_acE pp_gl1.P h0 hA f1 f2
      · rw [if_neg (show ¬ pp_i 1 = 0 by decide), if_pos (show pp_i 1 = 1 from rfl), if_neg (show ¬ pp_i 1 = 0 by decide), if_pos (show pp_i 1 = 1 from rfl)]
        exact pp_acE pp_la1.P h0 hA f1 f2
      · rw [if_neg (show ¬ pp_i 2 = 0 by decide), if_neg (show ¬ pp_i 2 = 1 by decide), if_pos (show pp_i 2 = 2 from rfl), if_neg (show ¬ pp_i 2 = 0 by decide), if_neg (show ¬ pp_i 2 = 1 by decide), if_pos (show pp_i 2 = 2 from rfl)]
        exact pp_acE pp_pa1 h0 hA f1 f2
      · rw [if_neg (show ¬ pp_i 3 = 0 by decide), if_neg (show ¬ pp_i 3 = 1 by decide), if_neg (show ¬ pp_i 3 = 2 by decide), if_neg (show ¬ pp_i 3 = 0 by decide), if_neg (show ¬ pp_i 3 = 1 by decide), if_neg (show ¬ pp_i 3 = 2 by decide)]
        exact pp_acE pp_wa1 h0 hA f1 f2
    · rw [if_neg (show ¬ pp_i 2 = 1 by decide), if_pos (show pp_i 2 = 2 from rfl)]
      rcases hk with rfl | rfl | rfl | rfl
      · rw [if_pos (show pp_i 0 = 0 from rfl), if_pos (show pp_i 0 = 0 from rfl)]
        exact pp_acE pp_gl2.P h0 hA f1 f2
      · rw [if_neg (show ¬ pp_i 1 = 0 by decide), if_pos (show pp_i 1 = 1 from rfl), if_neg (show ¬ pp_i 1 = 0 by decide), if_pos (show pp_i 1 = 1 from rfl)]
        exact pp_acE pp_la2.P h0 hA f1 f2
      · rw [if_neg (show ¬ pp_i 2 = 0 by decide), if_neg (show ¬ pp_i 2 = 1 by decide), if_pos (show pp_i 2 = 2 from rfl), if_neg (show ¬ pp_i 2 = 0 by decide), if_neg (show ¬ pp_i 2 = 1 by decide), if_pos (show pp_i 2 = 2 from rfl)]
        exact pp_acE pp_pa2 h0 hA f1 f2
      · rw [if_neg (show ¬ pp_i 3 = 0 by decide), if_neg (show ¬ pp_i 3 = 1 by decide), if_neg (show ¬ pp_i 3 = 2 by decide), if_neg (show ¬ pp_i 3 = 0 by decide), if_neg (show ¬ pp_i 3 = 1 by decide), if_neg (show ¬ pp_i 3 = 2 by decide)]
        exact pp_acE pp_wa2 h0 hA f1 f2
    · rw [if_neg (show ¬ pp_i 3 = 1 by decide), if_neg (show ¬ pp_i 3 = 2 by decide), if_pos (show pp_i 3 = 3 from rfl)]
      rcases hk with rfl | rfl | rfl | rfl
      · rw [if_pos (show pp_i 0 = 0 from rfl), if_pos (show pp_i 0 = 0 from rfl)]
        exact pp_acE pp_gl3.P h0 hA f1 f2
      · rw [if_neg (show ¬ pp_i 1 = 0 by decide), if_pos (show pp_i 1 = 1 from rfl), if_neg (show ¬ pp_i 1 = 0 by decide), if_pos (show pp_i 1 = 1 from rfl)]
        exact pp_acE pp_la3.P h0 hA f1 f2
      · rw [if_neg (show ¬ pp_i 2 = 0 by decide), if_neg (show ¬ pp_i 2 = 1 by decide), if_pos (show pp_i 2 = 2 from rfl), if_neg (show ¬ pp_i 2 = 0 by decide), if_neg (show ¬ pp_i 2 = 1 by decide), if_pos (show pp_i 2 = 2 from rfl)]
        exact pp_acE pp_pa3 h0 hA f1 f2
      · rw [if_neg (show ¬ pp_i 3 = 0 by decide), if_neg (show ¬ pp_i 3 = 1 by decide), if_neg (show ¬ pp_i 3 = 2 by decide), if_neg (show ¬ pp_i 3 = 0 by decide), if_neg (show ¬ pp_i 3 = 1 by decide), if_neg (show ¬ pp_i 3 = 2 by decide)]
        exact pp_acE pp_wa3 h0 hA f1 f2
    · rw [if_neg (show ¬ pp_i 4 = 1 by decide), if_neg (show ¬ pp_i 4 = 2 by decide), if_neg (show ¬ pp_i 4 = 3 by decide), if_pos (show pp_i 4 = 4 from rfl)]
      rcases hk with rfl | rfl | rfl | rfl
      · rw [if_pos (show pp_i 0 = 0 from rfl), if_pos (show pp_i 0 = 0 from rfl)]
        exact pp_acE pp_gl4.P h0 hA f1 f2
      · rw [if_neg (show ¬ pp_i 1 = 0 by decide), if_pos (show pp_i 1 = 1 from rfl), if_neg (show ¬ pp_i 1 = 0 by decide), if_pos (show pp_i 1 = 1 from rfl)]
        exact pp_acE pp_la4.P h0 hA f1 f2
      · rw [if_neg (show ¬ pp_i 2 = 0 by decide), if_neg (show ¬ pp_i 2 = 1 by decide), if_pos (show pp_i 2 = 2 from rfl), if_neg (show ¬ pp_i 2 = 0 by decide), if_neg (show ¬ pp_i 2 = 1 by decide), if_pos (show pp_i 2 = 2 from rfl)]
        exact pp_acE pp_pa4 h0 hA f1 f2
      · rw [if_neg (show ¬ pp_i 3 = 0 by decide), if_neg (show ¬ pp_i 3 = 1 by decide), if_neg (show ¬ pp_i 3 = 2 by decide), if_neg (show ¬ pp_i 3 = 0 by decide), if_neg (show ¬ pp_i 3 = 1 by decide), if_neg (show ¬ pp_i 3 = 2 by decide)]
        exact pp_acE pp_wa4 h0 hA f1 f2
    · rw [if_neg (show ¬ pp_i 5 = 1 by decide), if_neg (show ¬ pp_i 5 = 2 by decide), if_neg (show ¬ pp_i 5 = 3 by decide), if_neg (show ¬ pp_i 5 = 4 by decide), if_pos (show pp_i 5 = 5 from rfl)]
      rcases hk with rfl | rfl | rfl | rfl
      · rw [if_pos (show pp_i 0 = 0 from rfl), if_pos (show pp_i 0 = 0 from rfl)]
        exact pp_acE pp_gl5.P h0 hA f1 f2
      · rw [if_neg (show ¬ pp_i 1 = 0 by decide), if_pos (show pp_i 1 = 1 from rfl), if_neg (show ¬ pp_i 1 = 0 by decide), if_pos (show pp_i 1 = 1 from rfl)]
        exact pp_acE pp_la5.P h0 hA f1 f2
      · rw [if_neg (show ¬ pp_i 2 = 0 by decide), if_neg (show ¬ pp_i 2 = 1 by decide), if_pos (show pp_i 2 = 2 from rfl), if_neg (show ¬ pp_i 2 = 0 by decide), if_neg (show ¬ pp_i 2 = 1 by decide), if_pos (show pp_i 2 = 2 from rfl)]
        exact pp_acE pp_pa5 h0 hA f1 f2
      · rw [if_neg (show ¬ pp_i 3 = 0 by decide), if_neg (show ¬ pp_i 3 = 1 by decide), if_neg (show ¬ pp_i 3 = 2 by decide), if_neg (show ¬ pp_i 3 = 0 by decide), if_neg (show ¬ pp_i 3 = 1 by decide), if_neg (show ¬ pp_i 3 = 2 by decide)]
        exact pp_acE pp_wa5 h0 hA f1 f2
  · rw [h1, h2]
    exact ⟨_, _, _, rfl, rfl, h0⟩
