/-! ===== calls that look ahead: on, goes, often, span, liar, chains, game ===== -/
theorem pp_w16 {s : Nat → Int32} (hI : pp_I s) : ∀ o, o < pp_n s → pp_w s o < 16 := fun o ho => (hI.2.2.2.2.2.2.2.2 o ho).2
theorem pp_tle {s : Nat → Int32} (hI : pp_I s) : pp_t s ≤ pp_e s := hI.2.2.2.2.2.2.2.1
theorem pp_D12 {s : Nat → Int32} {μ : g_M} (hI : pp_I s) (hD : pp_D s μ) : μ 1 11 = pp_i (pp_n s) ∧ μ 1 12 = pp_i (pp_pk (pp_w s) (pp_n s)) ∧ μ 1 13 = pp_i (pp_t s) ∧ μ 1 14 = pp_i (pp_e s) :=
  ⟨hD.1.1.trans hI.1.1, hD.2.1, hD.2.2.1.trans hI.2.2.2.1, hD.2.2.2.1.trans hI.2.2.2.2.1⟩
theorem pp_c_on {N t L u Lu : Nat} {μX μM : g_M} {a : Int32} (hN : 1000 ≤ N) (h : pp_Rel t L u Lu μX μM) : ∃ (v : Int32) (μX1 μM1 : g_M), f_X11_on N a μX = some (v, μX1) ∧ f_X12_on N a μM = some (v, μM1) ∧ pp_Rel t L u Lu μX1 μM1 := by
  obtain ⟨hI, hD, hR, hp⟩ := h.2.2.1
  unfold f_X11_on f_X12_on
  rcases pp_btw (a := a) (lo := 0) (hi := 16) (by decide) (by decide) with ⟨e1, e2⟩ | ⟨k, k1, k2, rfl, e1, e2⟩
  · have e1 : f_X11_isBetween a 0 16 = 0 := e1
    have e2 : f_X12_isIn a.toInt64 0 16 = 0 := e2
    rw [if_pos e1, if_pos e2]
    exact ⟨_, _, _, rfl, rfl, h⟩
  · have e1 : f_X11_isBetween (pp_i k) 0 16 = 1 := e1
    have e2 : f_X12_isIn (pp_i k).toInt64 0 16 = 1 := e2
    obtain ⟨μX1, x1, x2⟩ := pp_X_on (N := N) (n := k) (by omega) hI (by omega) hD
    obtain ⟨μM1, m1, m2, m3⟩ := pp_M_on (N := N) (n := k) (c := 0) (by omega) hI (by decide) (by omega) (pp_tle hI) (pp_w16 hI) (pp_self hI.2.2.2)
    have m1 : f_X12_onBy N (pp_i k) 0 μM = _ := m1
    rw [if_neg (pp_n10 e1), if_neg (pp_n10 e2), x1, m1]
    exact ⟨_, _, _, rfl, rfl, pp_look h x2 (m3.mono (fun a b => pp_SL_t)) m2⟩
theorem pp_c_goes {N t L u Lu : Nat} {μX μM : g_M} {a : Int32} (hN : 1000 ≤ N) (h : pp_Rel t L u Lu μX μM) : ∃ (v : Int32) (μX1 μM1 : g_M), f_X11_goes N a μX = some (v, μX1) ∧ f_X12_goes N a μM = some (v, μM1) ∧ pp_Rel t L u Lu μX1 μM1 := by
  obtain ⟨hI, hD, hR, hp⟩ := h.2.2.1
  rcases pp_ovn (a := a) hI.1 hD.1.1 rfl with ⟨e1, e2⟩ | ⟨o, ho, rfl, e1, e2⟩
  · unfold f_X11_goes f_X12_goes
    rw [if_pos e1, if_pos e2]
    exact ⟨_, _, _, rfl, rfl, h⟩
  · obtain ⟨μX1, x1, x2⟩ := pp_X_goes (N := N) (by omega) hI ho hD
    obtain ⟨μM1, m1, m2, m3⟩ := pp_M_goes (N := N) (μ := μM) (by omega) hI ho rfl
    exact ⟨_, _, _, x1, m1, pp_look h x2 (m3.mono (fun a b => pp_SL_t)) m2⟩
theorem pp_c_often {N t L u Lu : Nat} {μX μM : g_M} {a : Int32} (hN : 1000 ≤ N) (h : pp_Rel t L u Lu μX μM) : ∃ (v : Int32) (μX1 μM1 : g_M), f_X11_often N a μX = some (v, μX1) ∧ f_X12_often N a μM = some (v, μM1) ∧ pp_Rel t L u Lu μX1 μM1 := by
  obtain ⟨hI, hD, hR, hp⟩ := h.2.2.1
  rcases pp_ovn (a := a) hI.1 hD.1.1 rfl with ⟨e1, e2⟩ | ⟨o, ho, rfl, e1, e2⟩
  · unfold f_X11_often f_X12_often
    rw [if_pos e1, if_pos e2]
    exact ⟨_, _, _, rfl, rfl, h⟩
  · obtain ⟨μX1, x1, x2⟩ := pp_X_often (N := N) (by omega) hI ho hD
    obtain ⟨μM1, m1, m2, m3⟩ := pp_M_often (N := N) (μ := μM) (by omega) hI ho rfl
    exact ⟨_, _, _, x1, m1, pp_look h x2 (m3.mono (fun a b => pp_SL_t)) m2⟩
theorem pp_c_span {N t L u Lu : Nat} {μX μM : g_M} {a : Int32} (hN : 1000 ≤ N) (h : pp_Rel t L u Lu μX μM) : ∃ (v : Int32) (μM1 : g_M), f_X11_span N a μX = some v ∧ f_X12_span N a μM = some (v, μM1) ∧ pp_Rel t L u Lu μX μM1 := by
  obtain ⟨hI, hD, hR, c, hp⟩ := h.2.2.1
  obtain ⟨v, μM1, i1, i2, i3⟩ := pp_span (N := N) (a := a) (by omega) hp (μ := μM) rfl
  exact ⟨v, μM1, i1, i2, pp_look h pp_F.refl (i3.mono (fun a b => pp_Sf_t)) (i3.row (fun b => decide_eq_false (by omega)))⟩
theorem pp_c_liar {N t L u Lu : Nat} {μX μM : g_M} (hN : 1000 ≤ N) (h : pp_Rel t L u Lu μX μM) : ∃ (v : Int32) (μM1 : g_M), f_X11_liar N μX = some v ∧ f_X12_liar N μM = some (v, μM1) ∧ pp_Rel t L u Lu μX μM1 := by
  obtain ⟨hI, hD, hR, c, hp⟩ := h.2.2.1
  obtain ⟨v, μM1, i1, i2, i3⟩ := pp_liar (N := N) (by omega) hp (μ := μM) rfl
  exact ⟨v, μM1, i1, i2, pp_look h pp_F.refl (i3.mono (fun a b => pp_Sf_t)) (i3.row (fun b => decide_eq_false (by omega)))⟩
theorem pp_c_chains {N t L u Lu : Nat} {μX μM : g_M} {a : Int32} (hN : 1000 ≤ N) (h : pp_Rel t L u Lu μX μM) : ∃ (v : Int32) (μX1 μM1 : g_M), f_X11_chains N a μX = some (v, μX1) ∧ f_X12_chains N a μM = some (v, μM1) ∧ pp_Rel t L u Lu μX1 μM1 := by
  obtain ⟨hI, hD, hR, hp⟩ := h.2.2.1
  have hn := hI.1.2
  have h64 : 2 ^ pp_n (μM 1) - 1 < 64 := by have := (pp_2n hn).2; have := (pp_2n hn).1; omega
  unfold f_X11_chains f_X12_chains
  rcases pp_btw (a := a) (lo := 0) (hi := 1) (by decide) (by decide) with ⟨e1, e2⟩ | ⟨k, k1, k2, rfl, e1, e2⟩
  · have e1 : f_X11_isBetween a 0 1 = 0 := e1
    have e2 : f_X12_isIn a.toInt64 0 1 = 0 := e2
    rw [if_pos e1, if_pos e2]
    exact ⟨_, _, _, rfl, rfl, h⟩
  · have e1 : f_X11_isBetween (pp_i k) 0 1 = 1 := e1
    have e2 : f_X12_isIn (pp_i k).toInt64 0 1 = 1 := e2
    obtain ⟨μX1, x1, x2⟩ := pp_X_fc (N := N) (by omega) hI hD
    obtain ⟨μM1, m1, m2, m3⟩ := pp_M_fcL (N := N) (x1 := pp_i k) (by omega) hI (2 ^ pp_n (μM 1) - 1) N 0 (2 ^ pp_n (μM 1) - 1) (-1) μM (by omega) (by omega) (Or.inl ⟨rfl, rfl⟩) rfl
    have m1 : f_X12_chains_L16 N N (pp_i k) (-1) 0 μM = _ := m1
    have hf := pp_fc_le (s := μM 1) (n := 2 ^ pp_n (μM 1) - 1) (2 ^ pp_n (μM 1) - 1) 0 (2 ^ pp_n (μM 1) - 1) (by omega) (Nat.le_refl _)
    have hl := pp_look h x2 (m3.mono (fun a b => pp_SL_t)) m2
    rw [if_neg (pp_n10 e1), if_neg (pp_n10 e2), x1, m1]
    simp only [Option.bind_some]
    by_cases c : pp_i k = 0
    · rw [if_pos c, if_pos c]
      exact ⟨_, _, _, rfl, rfl, hl⟩
    · rw [if_neg c, if_neg c, pp_bc (by omega), pp_size (by omega) (by omega)]
      exact ⟨_, _, _, rfl, rfl, hl⟩
theorem pp_c_game {N t L u Lu : Nat} {μX μM : g_M} {a : Int32} (hN : 1000 ≤ N) (h : pp_Rel t L u Lu μX μM) : ∃ (v : Int32) (μX1 μM1 : g_M), f_X11_game N a μX = some (v, μX1) ∧ f_X12_game N a μM = some (v, μM1) ∧ pp_Rel t L u Lu μX1 μM1 := by
  obtain ⟨hI, hD, hR, hp⟩ := h.2.2.1
  obtain ⟨d11, d12, d13, d14⟩ := pp_D12 hI hD
  unfold f_X11_game f_X2_valueOfGame f_X12_game f_X11_isGame
  rcases pp_btw (a := a) (lo := 1) (hi := 4) (by decide) (by decide) with ⟨e1, e2⟩ | ⟨k, k1, k2, rfl, e1, e2⟩
  · have e1 : f_X11_isBetween a 1 4 = 0 := e1
    have e2 : f_X12_isIn a.toInt64 1 4 = 0 := e2
    rw [if_pos e1, if_pos e2]
    exact ⟨_, _, _, rfl, rfl, h⟩
  · have e1 : f_X11_isBetween (pp_i k) 1 4 = 1 := e1
    have e2 : f_X12_isIn (pp_i k).toInt64 1 4 = 1 := e2
    obtain ⟨μX1, x1, x2⟩ := pp_X_gv (N := N) (by omega) hI k 6 (pp_t (μM 1)) (pp_w (μM 1)) true μX k2 (by omega) (pp_tle hI) (pp_w16 hI) hD
    obtain ⟨μM1, m1, m2, -, -, m3⟩ := pp_M_gv (N := N) (n0 := k) (by omega) hI k2 k 6 0 (pp_t (μM 1)) (pp_w (μM 1)) (μM 1 3) μM (by omega) (by omega) (pp_tle hI) (pp_w16 hI) (pp_self hI.2.2.2)
    have x1 : f_X2_gameValue N 6 (pp_i (pp_pk (pp_w (μM 1)) (pp_n (μM 1)))) (pp_i (pp_t (μM 1))) (pp_i k) 1 μX = _ := x1
    have m1 : f_X12_valueFrom N 6 0 (pp_i k) μM = some (pp_i (pp_gv (μM 1) k (pp_t (μM 1)) (pp_w (μM 1)) true).1, μM1) := m1
    rw [if_neg (pp_n10 e1), if_neg (pp_n10 e2), d12, d13, x1, m1]
    exact ⟨_, _, _, rfl, rfl, pp_look h x2 (m3.mono (fun a b => pp_SV_t)) m2⟩
