/-! ===== both readers read the same ===== -/
/-- the steps of both are alike -/
def pp_SR (μX μM : g_M) (r S : Nat) : Prop := ∀ k, k < S → μX (r + 4) (3 * k) = μM 1 (94 + 3 * k) ∧ μX (r + 4) (3 * k + 1) = μM 1 (94 + 3 * k + 1) ∧ μX (r + 4) (3 * k + 2) = μM 1 (94 + 3 * k + 2) ∧ ∃ a b : Nat, a ≤ 10004 ∧ b ≤ 10004 ∧ μM 1 (94 + 3 * k + 1) = pp_i a ∧ μM 1 (94 + 3 * k + 2) = pp_i b
theorem pp_SR.congr {μX μX1 μM μM1 : g_M} {r S : Nat} (h : pp_SR μX μM r S) (h1 : μX1 (r + 4) = μX (r + 4)) (h2 : μM1 1 = μM 1) : pp_SR μX1 μM1 r S := by
  unfold pp_SR
  rw [h1, h2]
  exact h
def pp_J (μX μM : g_M) (l : Nat) (b : Nat → Nat) (W j r S op : Nat) : Prop := pp_PX μX l b W j r S ∧ pp_PM μM l b (pp_wp l b j) 0 S op ∧ pp_SR μX μM r S
theorem pp_nv_le {b : Nat → Nat} : ∀ (m p v : Nat), (∀ k, k < m → pp_dg (b (p + k)) = true) → pp_nv b m p v + 1 ≤ (v + 1) * 10 ^ m
  | 0, p, v, _ => by rw [pp_nv]; omega
  | m + 1, p, v, h => by
    have h0 := of_decide_eq_true (h 0 (by omega))
    rw [Nat.add_zero] at h0
    have ih := pp_nv_le m (p + 1) (v * 10 + b p - 48) (fun k hk => by
      have := h (k + 1) (by omega)
      rwa [show p + (k + 1) = p + 1 + k by omega] at this)
    rw [pp_nv]
    refine Nat.le_trans ih ?_
    rw [Nat.pow_succ, Nat.mul_comm (10 ^ m), ← Nat.mul_assoc]
    exact Nat.mul_le_mul_right _ (by omega)
theorem pp_J_val {N : Nat} {μX μM : g_M} {l W j r S op : Nat} {b : Nat → Nat} (hN : 300 ≤ N) (h : pp_J μX μM l b W j r S op) :
    (13 ≤ pp_cx l b (pp_wp l b j) ∧ pp_cx l b (pp_wp l b j) ≤ 18 ∧ ∃ (a : Nat) (μM1 : g_M), a ≤ 10004 ∧ f_X8_valueHere μX = some (pp_i a) ∧ f_X12_valueHere N μM = some (pp_i a, μM1) ∧ pp_PM μM1 l b (pp_wp l b (j + 1)) 0 S op ∧ pp_F pp_Sr μM μM1) ∨
    (¬ (13 ≤ pp_cx l b (pp_wp l b j) ∧ pp_cx l b (pp_wp l b j) ≤ 18) ∧ ∃ (v v2 : Int32) (μM1 : g_M), f_X8_valueHere μX = some v ∧ f_X12_valueHere N μM = some (v2, μM1) ∧ pp_PM μM1 l b (pp_wp l b j) 1 S op ∧ pp_F pp_Sr μM μM1) := by
  obtain ⟨hX, hM, hS⟩ := h
  have hc := pp_PX_code hX
  have hcx := pp_cx_le (l := l) (b := b) (p := pp_wp l b j)
  have hM0 := hM
  obtain ⟨hT, hz, h5, hK, h12, h7, h13⟩ := hM
  have hfact := pp_M_fact hT h5 hz hK
  have hnum := pp_M_num hT hK
  obtain ⟨⟨w1, w2, w3, w4, w5, w6⟩, x2, x3, x4, x5⟩ := hX
  have hn50 : ∃ v : Int32, g_rd μX 49 201 (pp_i j) = some v := ⟨_, pp_rd (by omega) (by decide)⟩
  -- the class
  have hxv : f_X8_valueHere μX = if 13 ≤ pp_cx l b (pp_wp l b j) ∧ pp_cx l b (pp_wp l b j) ≤ 17 then some (pp_i (10000 + (pp_cx l b (pp_wp l b j) - 13))) else g_rd μX 49 201 (pp_i j) := by
    obtain ⟨v, hv⟩ := hn50
    unfold f_X8_valueHere
    rw [x2, hc, hv]
    simp only [Option.bind_some]
    rw [show (13 : Int32) = pp_i 13 from rfl, show (17 : Int32) = pp_i 17 from rfl, pp_ite (pp_lt (by omega) (by omega)), pp_ite (pp_gt (by omega) (by omega))]
    by_cases c1 : pp_cx l b (pp_wp l b j) < 13
    · rw [if_pos c1, if_neg (by omega)]
    · rw [if_neg c1]
      by_cases c2 : 17 < pp_cx l b (pp_wp l b j)
      · rw [if_pos c2, if_neg (by omega)]
      · rw [if_neg c2, if_pos (by omega), show (10000 : Int32) = pp_i 10000 from rfl, pp_add, pp_sub (by omega)]
        congr 2
        omega
  by_cases cf : 13 ≤ pp_cx l b (pp_wp l b j) ∧ pp_cx l b (pp_wp l b j) ≤ 17
  · have hp : pp_wp l b j < l := by
      rcases Nat.lt_or_ge (pp_wp l b j) l with q | q
      · exact q
      · have : pp_cx l b (pp_wp l b j) = 26 := if_neg (by omega)
        omega
    obtain ⟨μ1, i1, i2, i3⟩ := pp_M_need1 hN hM0 hp
    refine Or.inl ⟨cf.1, by omega, 10000 + (pp_cx l b (pp_wp l b j) - 13), μ1, by omega, by rw [hxv, if_pos cf], ?_, i2, i3⟩
    unfold f_X12_valueHere
    rw [hfact, if_pos cf]
    simp only [Option.bind_some]
    have hneg : ¬ (pp_i (pp_cx l b (pp_wp l b j) - 13) < 0) := by
      rw [show (0 : Int32) = pp_i 0 from rfl, pp_lt (by omega) (by omega)]
      omega
    have hge : pp_i (pp_cx l b (pp_wp l b j) - 13) ≥ 0 := by
      show (0 : Int32) ≤ _
      rw [show (0 : Int32) = pp_i 0 from rfl, pp_le (by omega) (by omega)]
      omega
    rw [if_neg hneg, if_pos hge, i1, show (10000 : Int32) = pp_i 10000 from rfl, pp_add]
    rfl
  · rw [if_neg cf] at hxv
    have hm1 : ((-1 : Int32) < 0) := by decide
    have hm2 : ¬ ((-1 : Int32) ≥ 0) := by decide
    by_cases c18 : pp_cx l b (pp_wp l b j) = 18
    · have hp : pp_wp l b j < l := by
        rcases Nat.lt_or_ge (pp_wp l b j) l with q | q
        · exact q
        · have : pp_cx l b (pp_wp l b j) = 26 := if_neg (by omega)
          omega
      have hjW : j < W := by
        rcases Nat.lt_or_ge j W with q | q
        · exact q
        · have e : j = W := by omega
          rw [e, w1] at hp
          omega
      have ecd : pp_cd l b (pp_wp l b j) = 18 := by
        rw [show pp_cx l b (pp_wp l b j) = pp_cd l b (pp_wp l b j) from if_pos hp] at c18
        exact c18
      have hd := pp_cd_18 ecd
      have hle := pp_nv_le (b := b) (pp_we l b (pp_wp l b j) - pp_wp l b j) (pp_wp l b j) 0 (pp_we_dg hp hd.1)
      have hpow : 10 ^ (pp_we l b (pp_wp l b j) - pp_wp l b j) ≤ 10 ^ 4 := Nat.pow_le_pow_right (by decide) hd.2
      obtain ⟨μ1, i1, i2, i3⟩ := pp_M_need1 hN hM0 hp
      have n1 := hnum.mpr c18
      refine Or.inl ⟨by omega, by omega, pp_nv b (pp_we l b (pp_wp l b j) - pp_wp l b j) (pp_wp l b j) 0, μ1, by omega, ?_, ?_, i2, i3⟩
      · rw [hxv, pp_rd (by omega) (by decide), (w6 j hjW).2.2.2, if_pos ecd]
      · unfold f_X12_valueHere
        rw [hfact, if_neg cf]
        simp only [Option.bind_some]
        rw [if_pos hm1, if_neg hm2, if_pos n1.1, if_neg (Int32.not_lt.mpr n1.2), i1, (hK.2.2.1 hp).2.2 hd.1 hd.2]
        rfl
    · obtain ⟨v, hv⟩ := hn50
      obtain ⟨μ1, i1, i2, i3⟩ := pp_M_need0 (N := N) hM0
      refine Or.inr ⟨by omega, v, μM 0 11, μ1, by rw [hxv, hv], ?_, i2, i3⟩
      unfold f_X12_valueHere
      rw [hfact, if_neg cf]
      simp only [Option.bind_some]
      rw [if_pos hm1, if_neg hm2]
      by_cases c8 : μM 0 8 = 2
      · rw [if_pos c8, if_pos (Int32.not_le.mp (fun q => c18 (hnum.mp ⟨c8, q⟩))), i1]
        rfl
      · rw [if_neg c8, i1]
        rfl
/-- the reference's value, where it is wrong already -/
theorem pp_W_val {N : Nat} {μM : g_M} {l p S op : Nat} {b : Nat → Nat} (h : pp_PM μM l b p 1 S op) : ∃ (v2 : Int32) (μM1 : g_M), f_X12_valueHere N μM = some (v2, μM1) ∧ pp_PM μM1 l b p 1 S op ∧ pp_F pp_Sr μM μM1 := by
  have h0 := h
  obtain ⟨hT, hz, h5, hK, h12, h7, h13⟩ := h
  have hfact := pp_M_fact hT h5 hz hK
  obtain ⟨μ1, i1, i2, i3⟩ := pp_M_needW (N := N) (c := 1) h0
  obtain ⟨μ2, j1, j2, j3⟩ := pp_M_needW (N := N) (c := 0) h0
  unfold f_X12_valueHere
  rw [hfact, i1, j1]
  simp only [Option.bind_some]
  (repeat' split) <;> first | exact ⟨_, μ1, rfl, i2, i3⟩ | exact ⟨_, μ2, rfl, j2, j3⟩
theorem pp_J_addStep {μX μM : g_M} {l W j r S op : Nat} {b : Nat → Nat} (hr : 60 < r) (h : pp_J μX μM l b W j r S op) (hSW : S < W) (hS : S < 150) {q x y : Nat} (hx : x ≤ 10004) (hy : y ≤ 10004) :
    ∃ μX1 μM1 : g_M, f_X7_addStep r (3 * W) (pp_i q) (pp_i x) (pp_i y) μX = some μX1 ∧ f_X12_steps (pp_i q) (pp_i x) (pp_i y) μM = some μM1 ∧ pp_J μX1 μM1 l b W j r (S + 1) op ∧ pp_F (pp_Sq r) μX μX1 ∧ (∀ i, i ≠ 1 → μM1 i = μM i) ∧ (∀ k, k ≠ 7 → (k < 94 + 3 * S ∨ 94 + 3 * S + 2 < k) → μM1 1 k = μM 1 k) ∧ μM1 1 (94 + 3 * S) = pp_i q := by
  obtain ⟨hX, hM, hS0⟩ := h
  have hW2 : W ≤ 200 := by
    have := hX.1.2.1
    have := hX.2.2.2.2
    omega
  obtain ⟨m1, m2⟩ := pp_M_step1 (x := pp_i q) (y := pp_i x) (z := pp_i y) hM hS
  obtain ⟨⟨w1, w2, w3, w4, w5, w6⟩, x2, x3, x4, x5⟩ := hX
  refine ⟨g_set (g_set (g_set (g_set μX (r + 4) (3 * S) (pp_i q)) (r + 4) (3 * S + 1) (pp_i x)) (r + 4) (3 * S + 2) (pp_i y)) r 5 (pp_i (S + 1)), _, ?_, m1, ⟨⟨⟨w1, w2, ?_, ?_, ?_, ?_⟩, ?_, x3, pp_set_s, x5⟩, m2, ?_⟩, ?_, ?_, ?_, ?_⟩
  · unfold f_X7_addStep
    simp only [Option.bind_some]
    rw [x4, show (3 : Int32) = pp_i 3 from rfl, pp_mul, pp_add, show Int32.ofNat (3 * W) = pp_i (3 * W) from rfl, pp_ite (pp_gt (by omega) (by omega)), if_neg (by omega), show S * 3 = 3 * S from Nat.mul_comm _ _, pp_wr (by omega) (by omega)]
    simp only [Option.bind_some]
    rw [show pp_i (3 * S) + 1 = pp_i (3 * S + 1) from pp_add _ 1, show pp_i (3 * S) + 2 = pp_i (3 * S + 2) from pp_add _ 2, pp_wr (by omega) (by omega)]
    simp only [Option.bind_some]
    rw [pp_wr (by omega) (by omega)]
    simp only [Option.bind_some]
    rw [pp_rowN (show r ≠ r + 4 by omega), pp_rowN (show r ≠ r + 4 by omega), pp_rowN (show r ≠ r + 4 by omega), x4, show pp_i S + 1 = pp_i (S + 1) from pp_add S 1]
  · rw [pp_rowN (by omega), pp_rowN (by omega), pp_rowN (by omega), pp_rowN (by omega)]; exact w3
  · rw [pp_rowN (by omega), pp_rowN (by omega), pp_rowN (by omega), pp_rowN (by omega)]; exact w4
  · rw [pp_rowN (by omega), pp_rowN (by omega), pp_rowN (by omega), pp_rowN (by omega)]; exact w5
  · intro i hi
    have r48 : ∀ a, a ≤ 59 → g_set (g_set (g_set (g_set μX (r + 4) (3 * S) (pp_i q)) (r + 4) (3 * S + 1) (pp_i x)) (r + 4) (3 * S + 2) (pp_i y)) r 5 (pp_i (S + 1)) a = μX a := fun a ha => by
      rw [pp_rowN (by omega), pp_rowN (by omega), pp_rowN (by omega), pp_rowN (by omega)]
    rw [r48 47 (by decide), r48 48 (by decide), r48 49 (by decide)]
    exact w6 i hi
  · rw [pp_rowN (by omega), pp_rowN (by omega), pp_rowN (by omega), pp_rowN (by omega)]; exact x2
  · intro k hk
    rw [pp_rowN (show r + 4 ≠ r by omega)]
    by_cases e : k = S
    · subst e
      refine ⟨?_, ?_, ?_, x, y, hx, hy, ?_, ?_⟩
      · rw [pp_set_n (by omega), pp_set_n (by omega), pp_set_s, pp_set_n (by omega), pp_set_n (by omega), pp_set_n (by omega), pp_set_s]
      · rw [pp_set_n (by omega), pp_set_s, pp_set_n (by omega), pp_set_n (by omega), pp_set_s]
      · rw [pp_set_s, pp_set_n (by omega), pp_set_s]
      · rw [pp_set_n (by omega), pp_set_n (by omega), pp_set_s]
      · rw [pp_set_n (by omega), pp_set_s]
    · obtain ⟨u1, u2, u3, a, c, ha, hc, u4, u5⟩ := hS0 k (by omega)
      have xk : ∀ i, i < 3 → g_set (g_set (g_set μX (r + 4) (3 * S) (pp_i q)) (r + 4) (3 * S + 1) (pp_i x)) (r + 4) (3 * S + 2) (pp_i y) (r + 4) (3 * k + i) = μX (r + 4) (3 * k + i) := fun i hi => by
        rw [pp_set_n (by omega), pp_set_n (by omega), pp_set_n (by omega)]
      have mk : ∀ i, i < 3 → g_set (g_set (g_set (g_set μM 1 (94 + 3 * S) (pp_i q)) 1 (94 + 3 * S + 1) (pp_i x)) 1 (94 + 3 * S + 2) (pp_i y)) 1 7 (pp_i (S + 1)) 1 (94 + 3 * k + i) = μM 1 (94 + 3 * k + i) := fun i hi => by
        rw [pp_set_n (by omega), pp_set_n (by omega), pp_set_n (by omega), pp_set_n (by omega)]
      have x0 : g_set (g_set (g_set μX (r + 4) (3 * S) (pp_i q)) (r + 4) (3 * S + 1) (pp_i x)) (r + 4) (3 * S + 2) (pp_i y) (r + 4) (3 * k) = μX (r + 4) (3 * k) := xk 0 (by decide)
      have m0 : g_set (g_set (g_set (g_set μM 1 (94 + 3 * S) (pp_i q)) 1 (94 + 3 * S + 1) (pp_i x)) 1 (94 + 3 * S + 2) (pp_i y)) 1 7 (pp_i (S + 1)) 1 (94 + 3 * k) = μM 1 (94 + 3 * k) := mk 0 (by decide)
      rw [x0, xk 1 (by decide), xk 2 (by decide), m0, mk 1 (by decide), mk 2 (by decide)]
      exact ⟨u1, u2, u3, a, c, ha, hc, u4, u5⟩
  · exact (((pp_F.set (by simp [pp_Sq])).trans (pp_F.set (by simp [pp_Sq]))).trans (pp_F.set (by simp [pp_Sq]))).trans (pp_F.set (by simp [pp_Sq]))
  · intro i hi
    rw [pp_rowN hi, pp_rowN hi, pp_rowN hi, pp_rowN hi]
  · intro k h7 hk
    rw [pp_set_n (by omega), pp_set_n (by omega), pp_set_n (by omega), pp_set_n (by omega)]
  · rw [pp_set_n (by omega), pp_set_n (by omega), pp_set_n (by omega), pp_set_s]
