/-! ===== ranges; reports ===== -/
theorem pp_t64 {a b : Int32} : (a.toInt64 < b.toInt64) = (a < b) := propext (by rw [Int64.lt_iff_toInt_lt, Int32.lt_iff_toInt_lt, Int32.toInt_toInt64, Int32.toInt_toInt64])
theorem pp_M_in {a lo hi : Int32} : f_X12_isIn a.toInt64 lo.toInt64 hi.toInt64 = f_X11_isBetween a lo hi := by
  unfold f_X12_isIn f_X11_isBetween
  rw [pp_ite (propext (lg_cmp_lt _ _)), pp_ite (pp_t64 (a := a) (b := lo))]
  by_cases c : a < lo
  · rw [if_pos c, if_pos c]
  · rw [if_neg c, if_neg c, pp_ite (show (lg_cmp a.toInt64 hi.toInt64 > 0) = (a > hi) from (propext (lg_cmp_gt _ _)).trans pp_t64)]
theorem pp_X_btw {a lo hi : Int32} : f_X11_isBetween a lo hi = if lo ≤ a ∧ a ≤ hi then 1 else 0 := by
  unfold f_X11_isBetween
  by_cases c : a < lo
  · rw [if_pos c, if_neg (fun q => Int32.not_lt.mpr q.1 c)]
  · rw [if_neg c]
    by_cases d : a > hi
    · rw [if_pos d, if_neg (fun q => Int32.not_lt.mpr q.2 d)]
    · rw [if_neg d, if_pos ⟨Int32.not_lt.mp c, Int32.not_lt.mp d⟩]
theorem pp_rem {a b : Nat} (ha : a < 2147483648) (hb : b < 2147483648) : g_rem (pp_i a) (pp_i b) = pp_i (a % b) := by
  unfold g_rem
  have h := Nat.div_add_mod a b
  have h2 := Nat.mul_comm b (a / b)
  rw [pp_div ha hb, pp_mul, pp_sub (by omega)]
  congr 1
  omega
/-- the reports of the class are those of s -/
def pp_Rp (s : Nat → Int32) (μ : g_M) (c : Nat) : Prop := c ≤ 6 ∧ s 6 = pp_i c ∧ μ 1 17 = pp_i c ∧ ∀ i, i < c → ∃ (k p : Nat) (lo hi : Int32), 1 ≤ k ∧ k ≤ 5 ∧ p ≤ 15 ∧ s (70 + 4 * i) = pp_i k ∧ s (70 + 4 * i + 1) = pp_i p ∧ s (70 + 4 * i + 2) = lo ∧ s (70 + 4 * i + 3) = hi ∧ μ 17 (4 * i) = pp_i k ∧ μ 17 (4 * i + 1) = pp_i p ∧ μ 17 (4 * i + 2) = lo ∧ μ 17 (4 * i + 3) = hi
def pp_so (s : Nat → Int32) (i x w : Nat) : Bool := decide (s (70 + 4 * i + 2) ≤ f_X12_longsBy (s (70 + 4 * i)) 5 (s (70 + 4 * i + 1)) (pp_i w) (pp_i x) 0 ∧ f_X12_longsBy (s (70 + 4 * i)) 5 (s (70 + 4 * i + 1)) (pp_i w) (pp_i x) 0 ≤ s (70 + 4 * i + 3))
theorem pp_X_so {s : Nat → Int32} {μ : g_M} {c i x w : Nat} (h : pp_Rp s μ c) (hi : i < c) (hx : x ≤ 15) (hw : w ≤ 9) : f_X9_isSo (pp_i i) (pp_i x) (pp_i w) μ = some (if pp_so s i x w = true then 1 else 0) := by
  obtain ⟨hc, h6, h17, hr⟩ := h
  obtain ⟨k, p, lo, hi', k1, k5, hp, e0, e1, e2, e3, m0, m1, m2, m3⟩ := hr i hi
  have key : ∀ v : Int32, (if v < lo then some (0 : Int32) else (if v > hi' then some 0 else some 1)) = some (if decide (lo ≤ v ∧ v ≤ hi') = true then 1 else 0) := fun v => by
    by_cases c : v < lo
    · rw [if_pos c, if_neg (fun q => Int32.not_lt.mpr (of_decide_eq_true q).1 c)]
    · rw [if_neg c]
      by_cases d : v > hi'
      · rw [if_pos d, if_neg (fun q => Int32.not_lt.mpr (of_decide_eq_true q).2 d)]
      · rw [if_neg d, if_pos (decide_eq_true ⟨Int32.not_lt.mp c, Int32.not_lt.mp d⟩)]
  unfold f_X9_isSo pp_so
  rw [e0, e1, e2, e3, show pp_i i * 4 = pp_i (4 * i) from (pp_mul i 4).trans (congrArg pp_i (Nat.mul_comm i 4))]
  simp only [Option.bind_some]
  rw [show pp_i (4 * i) + 1 = pp_i (4 * i + 1) from pp_add _ 1, show pp_i (4 * i) + 2 = pp_i (4 * i + 2) from pp_add _ 2, show pp_i (4 * i) + 3 = pp_i (4 * i + 3) from pp_add _ 3, pp_rd (by omega) (by decide), pp_rd (by omega) (by decide), pp_rd (by omega) (by decide), pp_rd (by omega) (by decide), m0, m1, m2, m3]
  simp only [Option.bind_some]
  rw [pp_X_abs (by omega) (by omega)]
  unfold f_X10_yearns_4 f_X6_yearns_5 f_X1_yearns_6 f_X4_yearns_7 f_X5_yearns_8 f_X3_yearns_4 f_X3_yearns_5 f_X4_yearns_8 f_X12_longsBy
  rw [pp_M_ap (by omega) (by omega)]
  have hk5 : k = 1 ∨ k = 2 ∨ k = 3 ∨ k = 4 ∨ k = 5 := by omega
  have n1 : ∀ q : Nat, 2 ≤ q → q ≤ 5 → ¬ pp_i q = (1 : Int32) := fun q h h' z => absurd (pp_inj (a := q) (b := 1) (by omega) (by omega) z) (by omega)
  have n2 : ∀ q : Nat, 3 ≤ q → q ≤ 5 → ¬ pp_i q = (2 : Int32) := fun q h h' z => absurd (pp_inj (a := q) (b := 2) (by omega) (by omega) z) (by omega)
  have n3 : ∀ q : Nat, 4 ≤ q → q ≤ 5 → ¬ pp_i q = (3 : Int32) := fun q h h' z => absurd (pp_inj (a := q) (b := 3) (by omega) (by omega) z) (by omega)
  have n4 : ∀ q : Nat, 5 ≤ q → q ≤ 5 → ¬ pp_i q = (4 : Int32) := fun q h h' z => absurd (pp_inj (a := q) (b := 4) (by omega) (by omega) z) (by omega)
  rcases hk5 with rfl | rfl | rfl | rfl | rfl
  · simp only [if_pos (show pp_i 1 = (1 : Int32) from rfl)]
    exact key _
  · simp only [if_neg (n1 2 (by decide) (by decide)), if_pos (show pp_i 2 = (2 : Int32) from rfl)]
    exact key _
  · simp only [if_neg (n1 3 (by decide) (by decide)), if_neg (n2 3 (by decide) (by decide)), if_pos (show pp_i 3 = (3 : Int32) from rfl)]
    exact key _
  · simp only [if_neg (n1 4 (by decide) (by decide)), if_neg (n2 4 (by decide) (by decide)), if_neg (n3 4 (by decide) (by decide)), if_pos (show pp_i 4 = (4 : Int32) from rfl)]
    exact key _
  · simp only [if_neg (n1 5 (by decide) (by decide)), if_neg (n2 5 (by decide) (by decide)), if_neg (n3 5 (by decide) (by decide)), if_neg (n4 5 (by decide) (by decide)), if_pos (show pp_i 5 = (5 : Int32) from rfl), if_pos (show (0 : Int32) = 0 from rfl), Int32.add_zero]
    exact key _
