/-! ===== both readers at a word ===== -/
def pp_Sr (a b : Nat) : Bool := decide (a = 0 ∧ 8 ≤ b ∧ b ≤ 13)
/-- the reference reads at p; w: it is wrong; S steps, op open -/
def pp_PM (μ : g_M) (l : Nat) (b : Nat → Nat) (p w S op : Nat) : Prop := pp_TB (μ 4) l b ∧ pp_BZ l b ∧ μ 0 5 = pp_i l ∧ pp_TK μ l b p ∧ μ 0 12 = pp_i w ∧ μ 1 7 = pp_i S ∧ μ 0 13 = pp_i op
theorem pp_PM_next {N l p S op : Nat} {b : Nat → Nat} {μ : g_M} (hN : 300 ≤ N) (h : pp_PM μ l b p 0 S op) (hp : p < l) : ∃ μ1 : g_M, f_X12_nextToken N μ = some μ1 ∧ pp_PM μ1 l b (pp_sk l b (pp_we l b p)) 0 S op ∧ pp_F pp_St μ μ1 := by
  obtain ⟨hT, hz, h5, hK, h12, h7, h13⟩ := h
  obtain ⟨μ1, i1, i2, i3⟩ := pp_M_next hN hT h5 (hK.2.2.1 hp).1 (pp_we_le (b := b) hp).2
  exact ⟨μ1, i1, ⟨by rw [i3.row (a := 4) (fun b => by simp [pp_St])]; exact hT, hz, by rw [i3 0 5 (by decide)]; exact h5, i2, by rw [i3 0 12 (by decide)]; exact h12, by rw [i3 1 7 (by decide)]; exact h7, by rw [i3 0 13 (by decide)]; exact h13⟩, i3⟩
theorem pp_St_r {a b : Nat} (h : pp_Sr a b = false) : pp_St a b = false := by
  unfold pp_Sr at h
  unfold pp_St
  simp only [decide_eq_false_iff_not] at h ⊢
  omega
theorem pp_PM.TK12 {l p w w2 S op : Nat} {b : Nat → Nat} {μ : g_M} (h : pp_PM μ l b p w S op) : pp_PM (g_set μ 0 12 (pp_i w2)) l b p w2 S op := by
  obtain ⟨hT, hz, h5, hK, h12, h7, h13⟩ := h
  refine ⟨by rw [pp_rowN (by decide)]; exact hT, hz, by rw [pp_set_n (by decide)]; exact h5, ?_, pp_set_s, by rw [pp_rowN (by decide)]; exact h7, by rw [pp_set_n (by decide)]; exact h13⟩
  unfold pp_TK
  rw [pp_set_n (by decide), pp_set_n (by decide), pp_set_n (by decide), pp_set_n (by decide)]
  exact hK
theorem pp_PM.TK13 {l p w S op op2 : Nat} {b : Nat → Nat} {μ : g_M} (h : pp_PM μ l b p w S op) : pp_PM (g_set μ 0 13 (pp_i op2)) l b p w S op2 := by
  obtain ⟨hT, hz, h5, hK, h12, h7, h13⟩ := h
  refine ⟨by rw [pp_rowN (by decide)]; exact hT, hz, by rw [pp_set_n (by decide)]; exact h5, ?_, by rw [pp_set_n (by decide)]; exact h12, by rw [pp_rowN (by decide)]; exact h7, pp_set_s⟩
  unfold pp_TK
  rw [pp_set_n (by decide), pp_set_n (by decide), pp_set_n (by decide), pp_set_n (by decide)]
  exact hK
/-- it is right: on -/
theorem pp_M_need1 {N l p S op : Nat} {b : Nat → Nat} {μ : g_M} (hN : 300 ≤ N) (h : pp_PM μ l b p 0 S op) (hp : p < l) : ∃ μ1 : g_M, f_X12_needs N 1 μ = some μ1 ∧ pp_PM μ1 l b (pp_sk l b (pp_we l b p)) 0 S op ∧ pp_F pp_Sr μ μ1 := by
  obtain ⟨μ1, i1, i2, i3⟩ := pp_PM_next hN (h.TK12 (w2 := 0)) hp
  refine ⟨μ1, ?_, i2, (pp_F.set (by decide)).trans (i3.mono (fun a b q => pp_St_r q))⟩
  unfold f_X12_needs
  rw [h.2.2.2.2.1, if_pos (show pp_i 0 = (0 : Int32) from rfl), if_neg (by decide)]
  simp only [Option.bind_some]
  rw [show (0 : Int32) = pp_i 0 from rfl, pp_set_s, if_pos rfl, i1]
  rfl
/-- it isn't: wrong, here -/
theorem pp_M_need0 {N l p S op : Nat} {b : Nat → Nat} {μ : g_M} (h : pp_PM μ l b p 0 S op) : ∃ μ1 : g_M, f_X12_needs N 0 μ = some μ1 ∧ pp_PM μ1 l b p 1 S op ∧ pp_F pp_Sr μ μ1 := by
  refine ⟨g_set μ 0 12 (pp_i 1), ?_, h.TK12, pp_F.set (by decide)⟩
  unfold f_X12_needs
  rw [h.2.2.2.2.1, if_pos (show pp_i 0 = (0 : Int32) from rfl), if_pos rfl]
  simp only [Option.bind_some]
  rw [show (1 : Int32) = pp_i 1 from rfl, pp_set_s, if_neg (by decide)]
/-- it was wrong: it stays so -/
theorem pp_M_needW {N l p S op : Nat} {b : Nat → Nat} {μ : g_M} {c : Int32} (h : pp_PM μ l b p 1 S op) : ∃ μ1 : g_M, f_X12_needs N c μ = some μ1 ∧ pp_PM μ1 l b p 1 S op ∧ pp_F pp_Sr μ μ1 := by
  refine ⟨g_set μ 0 12 (pp_i 1), ?_, h.TK12, pp_F.set (by decide)⟩
  unfold f_X12_needs
  rw [h.2.2.2.2.1, if_neg (show ¬ pp_i 1 = (0 : Int32) by decide)]
  simp only [Option.bind_some]
  rw [show (1 : Int32) = pp_i 1 from rfl, pp_set_s, if_neg (by decide)]
/-- a step -/
theorem pp_M_step1 {l p S op : Nat} {b : Nat → Nat} {μ : g_M} {x y z : Int32} (h : pp_PM μ l b p 0 S op) (hS : S < 150) : f_X12_steps x y z μ = some (g_set (g_set (g_set (g_set μ 1 (94 + 3 * S) x) 1 (94 + 3 * S + 1) y) 1 (94 + 3 * S + 2) z) 1 7 (pp_i (S + 1))) ∧ pp_PM (g_set (g_set (g_set (g_set μ 1 (94 + 3 * S) x) 1 (94 + 3 * S + 1) y) 1 (94 + 3 * S + 2) z) 1 7 (pp_i (S + 1))) l b p 0 (S + 1) op := by
  obtain ⟨hT, hz, h5, hK, h12, h7, h13⟩ := h
  refine ⟨?_, ⟨by rw [pp_rowN (by decide), pp_rowN (by decide), pp_rowN (by decide), pp_rowN (by decide)]; exact hT, hz, by rw [pp_rowN (by decide), pp_rowN (by decide), pp_rowN (by decide), pp_rowN (by decide)]; exact h5, ?_, by rw [pp_rowN (by decide), pp_rowN (by decide), pp_rowN (by decide), pp_rowN (by decide)]; exact h12, pp_set_s, by rw [pp_rowN (by decide), pp_rowN (by decide), pp_rowN (by decide), pp_rowN (by decide)]; exact h13⟩⟩
  · unfold f_X12_steps
    have i0 : (94 + 3 * pp_i S : Int32) = pp_i (94 + 3 * S) := by
      rw [show (94 : Int32) = pp_i 94 from rfl, show (3 : Int32) = pp_i 3 from rfl, pp_mul, pp_add]
    rw [h12, if_pos (show pp_i 0 = (0 : Int32) from rfl), h7, i0, pp_wr (by omega) (by decide)]
    simp only [Option.bind_some]
    rw [pp_set_n (show ¬ ((1 : Nat) = 1 ∧ 7 = 94 + 3 * S) by omega), h7, i0, show pp_i (94 + 3 * S) + 1 = pp_i (94 + 3 * S + 1) from pp_add _ 1, pp_wr (by omega) (by decide)]
    simp only [Option.bind_some]
    rw [pp_set_n (show ¬ ((1 : Nat) = 1 ∧ 7 = 94 + 3 * S + 1) by omega), pp_set_n (show ¬ ((1 : Nat) = 1 ∧ 7 = 94 + 3 * S) by omega), h7, i0, show pp_i (94 + 3 * S) + 2 = pp_i (94 + 3 * S + 2) from pp_add _ 2, pp_wr (by omega) (by decide)]
    simp only [Option.bind_some]
    rw [pp_set_n (show ¬ ((1 : Nat) = 1 ∧ 7 = 94 + 3 * S + 2) by omega), pp_set_n (show ¬ ((1 : Nat) = 1 ∧ 7 = 94 + 3 * S + 1) by omega), pp_set_n (show ¬ ((1 : Nat) = 1 ∧ 7 = 94 + 3 * S) by omega), h7, show pp_i S + 1 = pp_i (S + 1) from pp_add S 1]
  · unfold pp_TK
    rw [pp_rowN (by decide), pp_rowN (by decide), pp_rowN (by decide), pp_rowN (by decide)]
    exact hK
theorem pp_M_stepW {l p S op : Nat} {b : Nat → Nat} {μ : g_M} {x y z : Int32} (h : pp_PM μ l b p 1 S op) : f_X12_steps x y z μ = some μ := by
  unfold f_X12_steps
  rw [h.2.2.2.2.1, if_neg (show ¬ pp_i 1 = (0 : Int32) by decide)]
/-- the class reads word j -/
def pp_PX (μ : g_M) (l : Nat) (b : Nat → Nat) (W j r S : Nat) : Prop := pp_WX μ l b W ∧ μ 45 5 = pp_i j ∧ j ≤ W ∧ μ r 5 = pp_i S ∧ l ≤ 200
theorem pp_PX_code {l W j r S : Nat} {b : Nat → Nat} {μ : g_M} (h : pp_PX μ l b W j r S) : g_rd μ 47 201 (pp_i j) = some (pp_i (pp_cx l b (pp_wp l b j))) := by
  obtain ⟨⟨w1, w2, w3, w4, w5, w6⟩, h2, h3, h4, h5⟩ := h
  rw [pp_rd (by omega) (by decide)]
  by_cases c : j < W
  · rw [(w6 j c).2.1, show pp_cx l b (pp_wp l b j) = pp_cd l b (pp_wp l b j) from if_pos (w6 j c).1]
  · have e : j = W := by omega
    rw [e, w4, w1, show pp_cx l b l = 26 from if_neg (Nat.lt_irrefl l)]
theorem pp_cx_le {l p : Nat} {b : Nat → Nat} : pp_cx l b p ≤ 26 := by
  unfold pp_cx
  have := pp_cd_le (l := l) (b := b) (p := p)
  split <;> omega
theorem pp_PX_lt {l W j r S : Nat} {b : Nat → Nat} {μ : g_M} (h : pp_PX μ l b W j r S) : (j < W) = (pp_wp l b j < l) := by
  obtain ⟨⟨w1, w2, w3, w4, w5, w6⟩, h2, h3, h4, h5⟩ := h
  refine propext ⟨fun q => (w6 j q).1, fun q => ?_⟩
  rcases Nat.lt_or_ge j W with c | c
  · exact c
  · have e : j = W := by omega
    rw [e, w1] at q
    omega
def pp_Sq (r a b : Nat) : Bool := decide ((a = 45 ∧ b = 5) ∨ (a = r ∧ b = 5) ∨ a = r + 4)
theorem pp_X_pass {l W j r S lo hi : Nat} {b : Nat → Nat} {μ : g_M} (hr : 60 < r) (h : pp_PX μ l b W j r S) (hh : hi ≤ 25) (hlo : lo ≤ 25) : ∃ μ1 : g_M, f_X8_pass (pp_i lo) (pp_i hi) μ = some (if lo ≤ pp_cx l b (pp_wp l b j) ∧ pp_cx l b (pp_wp l b j) ≤ hi then 1 else 0, μ1) ∧ pp_PX μ1 l b W (if lo ≤ pp_cx l b (pp_wp l b j) ∧ pp_cx l b (pp_wp l b j) ≤ hi then j + 1 else j) r S ∧ pp_F (pp_Sq r) μ μ1 := by
  have hc := pp_PX_code h
  have hlt := pp_PX_lt h
  have hcx := pp_cx_le (l := l) (b := b) (p := pp_wp l b j)
  have h0 := h
  obtain ⟨⟨w1, w2, w3, w4, w5, w6⟩, h2, h3, h4, h5⟩ := h
  unfold f_X8_pass
  rw [h2, w3, hc, pp_ite (pp_ge (by omega) (by omega))]
  simp only [Option.bind_some]
  by_cases c : W ≤ j
  · have e : j = W := by omega
    have e26 : pp_cx l b (pp_wp l b j) = 26 := by rw [e, w1]; exact if_neg (Nat.lt_irrefl l)
    rw [if_pos c, if_neg (by omega), if_neg (by omega)]
    exact ⟨μ, rfl, h0, pp_F.refl⟩
  · rw [if_neg c]
    by_cases clo : lo ≤ pp_cx l b (pp_wp l b j)
    · rw [pp_ite (pp_lt (a := pp_cx l b (pp_wp l b j)) (b := lo) (by omega) (by omega)), if_neg (by omega), pp_ite (pp_gt (by omega) (by omega))]
      by_cases chi : pp_cx l b (pp_wp l b j) ≤ hi
      · rw [if_neg (by omega), if_pos ⟨clo, chi⟩, if_pos ⟨clo, chi⟩, show pp_i j + 1 = pp_i (j + 1) from pp_add j 1]
        refine ⟨_, rfl, ⟨⟨w1, w2, ?_, ?_, ?_, ?_⟩, ?_, by omega, ?_, h5⟩, pp_F.set (by simp [pp_Sq])⟩
        · rw [pp_set_n (by decide)]; exact w3
        · rw [pp_rowN (by decide)]; exact w4
        · rw [pp_rowN (by decide)]; exact w5
        · rw [pp_rowN (by decide), pp_rowN (by decide), pp_rowN (by decide)]; exact w6
        · rw [pp_set_s]
        · rw [pp_rowN (by omega)]; exact h4
      · rw [if_pos (by omega), if_neg (fun q => chi q.2), if_neg (fun q => chi q.2)]
        exact ⟨μ, rfl, h0, pp_F.refl⟩
    · rw [pp_ite (pp_lt (a := pp_cx l b (pp_wp l b j)) (b := lo) (by omega) (by omega)), if_pos (by omega), if_neg (show ¬ (lo ≤ pp_cx l b (pp_wp l b j) ∧ pp_cx l b (pp_wp l b j) ≤ hi) from fun q => clo q.1), if_neg (show ¬ (lo ≤ pp_cx l b (pp_wp l b j) ∧ pp_cx l b (pp_wp l b j) ≤ hi) from fun q => clo q.1)]
      exact ⟨μ, rfl, h0, pp_F.refl⟩
