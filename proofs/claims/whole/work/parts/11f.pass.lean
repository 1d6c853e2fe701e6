/-! ===== a night passes in both ===== -/
theorem pp_C.rows {s : Nat → Int32} {μ μ1 : g_M} (h : pp_C s μ) (h11 : μ1 1 11 = μ 1 11) (hr : ∀ i, 9 ≤ i → i ≤ 14 → μ1 i = μ i) : pp_C s μ1 := by
  unfold pp_C
  rw [h11, hr 9 (by omega) (by omega), hr 10 (by omega) (by omega), hr 11 (by omega) (by omega), hr 12 (by omega) (by omega), hr 13 (by omega) (by omega), hr 14 (by omega) (by omega)]
  exact h
def pp_Sy (a b : Nat) : Bool := decide (a = 15 ∨ (a = 1 ∧ (b = 12 ∨ b = 13 ∨ b = 15)))
theorem pp_pass {N : Nat} {s : Nat → Int32} {c : Nat} {μX μM : g_M} (hN : 200 ≤ N) (hI : pp_I s) (hD : pp_D s μX) (hs : μM 1 = s) (hc : c < 64) (hov : pp_t s < pp_e s) :
    ∃ (v : Int32) (μX1 μM1 : g_M) (w1 : Nat → Nat), f_X9_passNight N (pp_i c) μX = some (v, μX1) ∧ f_X12_goesBy N (pp_i c) μM = some (v, μM1) ∧ μM1 1 = pp_put s (pp_t s + 1) w1 (s 3 + v) ∧ (∀ o, o < pp_n s → w1 o < 16) ∧ pp_I (μM1 1) ∧ pp_D (μM1 1) μX1 ∧ pp_F pp_SG μM μM1 ∧ pp_F pp_Sy μX μX1 := by
  have hI0 := hI
  obtain ⟨hB, hO, hR, hT⟩ := hI
  have hB2 := hB.2
  have hself := pp_self hT
  obtain ⟨t1, t2, t3, t4, t5, t6⟩ := hT
  obtain ⟨hC, d12, d13, d14, d15, d16⟩ := hD
  have hw : ∀ o, o < pp_n s → pp_w s o < 16 := fun o ho => (t6 o ho).2
  have hw1 := pp_nw_16 (t := pp_t s) (c := c) hO hw
  obtain ⟨μM1, i1, i2, i3, i4⟩ := pp_M_go (c := c) hN hB hR hO hc (by omega) hw (hs.trans hself)
  obtain ⟨μX1, j1, j2⟩ := pp_X_after (c := c) hN hB hO hC (show pp_t s ≤ 16 by omega) hc hw
  have f : ∀ a b, ¬ a = 15 → μX1 a b = μX a b := fun a b h => j2 a b (decide_eq_false h)
  have hC1 : pp_C s (g_set μX1 1 12 (pp_i (pp_pk (pp_nw s (pp_t s) (pp_w s) c) (pp_n s)))) := (hC.F j2).rows (pp_set_n (by decide)) (fun i h1 h2 => pp_rowN (by omega))
  have hwo := pp_X_worth (N := N) hN hB hO hC1 (show pp_t s < 1000 by omega) hw1
  refine ⟨pp_wo s (pp_t s) (pp_nw s (pp_t s) (pp_w s) c), g_set (g_set (g_set μX1 1 12 (pp_i (pp_pk (pp_nw s (pp_t s) (pp_w s) c) (pp_n s)))) 1 15 (s 3 + pp_wo s (pp_t s) (pp_nw s (pp_t s) (pp_w s) c))) 1 13 (pp_i (pp_t s + 1)), μM1, pp_nw s (pp_t s) (pp_w s) c, ?_, i1, i2, hw1, ?_, ?_, i4, ?_⟩
  · unfold f_X9_passNight
    rw [d12, d13, t1, j1]
    simp only [Option.bind_some]
    rw [pp_set_s, pp_set_n (show ¬ ((1 : Nat) = 1 ∧ 13 = 12) by decide), f 1 13 (by decide), d13, t1, hwo]
    simp only [Option.bind_some]
    rw [pp_set_n (show ¬ ((1 : Nat) = 1 ∧ 15 = 12) by decide), f 1 15 (by decide), d15, pp_set_n (show ¬ ((1 : Nat) = 1 ∧ 13 = 15) by decide), pp_set_n (show ¬ ((1 : Nat) = 1 ∧ 13 = 12) by decide), f 1 13 (by decide), d13, t1, show pp_i (pp_t s) + 1 = pp_i (pp_t s + 1) from pp_add _ 1]
  · rw [i2]
    exact pp_I_put hI0 (by omega) hw1
  · rw [i2]
    refine ⟨pp_C_put hB2 (hC1.rows ?_ (fun i h1 h2 => ?_)), ?_, ?_, ?_, ?_, ?_⟩
    · rw [pp_set_n (by decide), pp_set_n (by decide)]
    · rw [pp_rowN (by omega), pp_rowN (by omega)]
    · rw [pp_set_n (by decide), pp_set_n (by decide), pp_set_s]
      exact congrArg pp_i (pp_pk_congr (fun o ho => (pp_w_put ho (hw1 o ho)).symm))
    · rw [pp_set_s]; rfl
    · rw [pp_set_n (by decide), pp_set_n (by decide), pp_set_n (by decide), f 1 14 (by decide), d14]; rfl
    · rw [pp_set_n (by decide), pp_set_s]; rfl
    · rw [pp_set_n (by decide), pp_set_n (by decide), pp_set_n (by decide), f 1 16 (by decide), d16]
      exact (pp_put_n (by decide) (by decide) (by omega)).symm
  · exact (((j2.mono (fun a b q => by
      have q0 := of_decide_eq_false q
      exact decide_eq_false (by omega))).trans (pp_F.set (by decide))).trans (pp_F.set (by decide))).trans (pp_F.set (by decide))
