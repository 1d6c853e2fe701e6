/-! ===== row, alterRow, judge ===== -/
theorem pp_isRow {c : Nat} {μX μM : g_M} {a1 a2 : Int32} (hc : c ≤ 4) (hX : μX 0 11 = pp_i c) (hM : μM 0 32 = pp_i c) : (f_X11_isRow a1 a2 μX = 0 ∧ f_X12_isRow a1 a2 μM = 0) ∨ (∃ k w : Nat, k < c ∧ w ≤ 2 ∧ a1 = pp_i k ∧ a2 = pp_i w ∧ f_X11_isRow a1 a2 μX = 1 ∧ f_X12_isRow a1 a2 μM = 1) := by
  unfold f_X11_isRow f_X12_isRow
  rw [hX, hM]
  have f6 : f_X12_isIn a1.toInt64 0 (pp_i c - 1).toInt64 = f_X11_isBetween a1 0 (pp_i c - 1) := pp_M_in (lo := 0) (hi := pp_i c - 1)
  rw [f6]
  rcases pp_itm (a := a1) (z := c) (by omega) with e5 | ⟨k, hk, e, e5⟩
  · rw [if_pos e5, if_pos e5]
    exact Or.inl ⟨rfl, rfl⟩
  · rw [if_neg (pp_n10 e5), if_neg (pp_n10 e5)]
    rcases pp_btw (a := a2) (lo := 0) (hi := 2) (by decide) (by decide) with ⟨e1, e2⟩ | ⟨w, w1, w2, w3, e1, e2⟩
    · have e1 : f_X11_isBetween a2 0 2 = 0 := e1
      have e2 : f_X12_isIn a2.toInt64 0 2 = 0 := e2
      rw [if_pos e1, if_pos e2]
      exact Or.inl ⟨rfl, rfl⟩
    · have e1 : f_X11_isBetween a2 0 2 = 1 := e1
      have e2 : f_X12_isIn a2.toInt64 0 2 = 1 := e2
      rw [if_neg (pp_n10 e1), if_neg (pp_n10 e2)]
      exact Or.inr ⟨k, w, hk, w2, e, w3, rfl, rfl⟩
theorem pp_c_row {t L u Lu : Nat} {μX μM : g_M} {a1 a2 : Int32} (h : pp_Rel t L u Lu μX μM) : ∃ (v : Int32), f_X11_row a1 a2 μX = some v ∧ f_X12_row a1 a2 μM = some v ∧ pp_Rel t L u Lu μX μM := by
  obtain ⟨c, hc, hX, hM, hr⟩ := h.2.2.2.2.2.1
  unfold f_X11_row f_X12_row
  rcases pp_isRow (a1 := a1) (a2 := a2) hc hX hM with ⟨e1, e2⟩ | ⟨k, w, hk, hw, rfl, rfl, e1, e2⟩
  · rw [if_pos e1, if_pos e2]
    exact ⟨_, rfl, rfl, h⟩
  · rw [if_neg (pp_n10 e1), if_neg (pp_n10 e2), show pp_i k * 3 = pp_i (3 * k) from (pp_mul k 3).trans (congrArg pp_i (Nat.mul_comm k 3)), show (3 * pp_i k : Int32) = pp_i (3 * k) from pp_mul 3 k, pp_add, pp_rd (by omega) (by decide), pp_rd (by omega) (by decide), hr _ (by omega)]
    exact ⟨_, rfl, rfl, h⟩
theorem pp_rwR {t L u Lu : Nat} {μX μM μX1 μM1 : g_M} (h : pp_Rel t L u Lu μX μM) (hS : pp_RW μX1 μM1) (fX : ∀ a, ¬ a = 52 → μX1 a = μX a) (fM : ∀ a, ¬ a = 11 → μM1 a = μM a) : pp_Rel t L u Lu μX1 μM1 := by
  obtain ⟨ht, hu, ⟨hI, hD, hR, c, hp⟩, hk, hta, hrw, hs, hh, htr⟩ := h
  refine ⟨ht, hu, ?_, hk.R hu (fun a ha => fX a ?_) (by rw [fX 0 (by omega)]) (fM 2 (by omega)) (by rw [fM 0 (by omega)]), hta.R (fX 46 (by omega)) (by rw [fX 45 (by omega)]) (fM 4 (by omega)) (by rw [fM 0 (by omega)]), hS, hs.R (fun a h1 h2 => fX a (by omega)) (fM 12 (by omega)) (fM 13 (by omega)) (fM 14 (by omega)), hh.R (fun a h1 h2 => fX a (by omega)) (fM 15 (by omega)) (fM 16 (by omega)) (fM 17 (by omega)), htr.R (fX 51 (by omega)) (by rw [fX 50 (by omega)]) (fM 18 (by omega)) (by rw [fM 0 (by omega)])⟩
  · rw [fM 1 (by omega)]
    refine ⟨hI, ⟨hD.1.rows (by rw [fX 1 (by omega)]) (fun i h1 h2 => fX i (by omega)), ?_⟩, hR.F (fun a ha hb => fX a (by
      have := pp_rk_no ht ha hb
      omega)), c, hp.F (by rw [fX 1 (by omega)]) (fX 17 (by omega))⟩
    rw [fX 1 (by omega)]
    exact hD.2
  · rcases ha with ha | ⟨ha, hb⟩
    · omega
    · have := pp_rk_no hu ha hb
      omega
theorem pp_c_alterRow {t L u Lu : Nat} {μX μM : g_M} {a1 a2 a3 : Int32} (h : pp_Rel t L u Lu μX μM) : ∃ (v : Int32) (μX1 μM1 : g_M), f_X11_alterRow a1 a2 a3 μX = some (v, μX1) ∧ f_X12_alterRow a1 a2 a3 μM = some (v, μM1) ∧ pp_Rel t L u Lu μX1 μM1 := by
  obtain ⟨c, hc, hX, hM, hr⟩ := h.2.2.2.2.2.1
  unfold f_X11_alterRow f_X12_alterRow
  rcases pp_isRow (a1 := a1) (a2 := a2) hc hX hM with ⟨e1, e2⟩ | ⟨k, w, hk, hw, rfl, rfl, e1, e2⟩
  · rw [if_pos e1, if_pos e2]
    exact ⟨_, _, _, rfl, rfl, h⟩
  · rw [if_neg (pp_n10 e1), if_neg (pp_n10 e2), show pp_i k * 3 = pp_i (3 * k) from (pp_mul k 3).trans (congrArg pp_i (Nat.mul_comm k 3)), show (3 * pp_i k : Int32) = pp_i (3 * k) from pp_mul 3 k, pp_add, pp_rd (by omega) (by decide), pp_rd (by omega) (by decide), pp_wr (by omega) (by decide), pp_wr (by omega) (by decide), hr _ (by omega)]
    refine ⟨_, _, _, rfl, rfl, pp_rwR h ⟨c, hc, by rw [pp_rowN (by decide), hX], by rw [pp_rowN (by decide), hM], fun j hj => ?_⟩ (fun a ha => pp_rowN ha) (fun a ha => pp_rowN ha)⟩
    by_cases e : j = 3 * k + w
    · rw [e, pp_set_s, pp_set_s]
    · rw [pp_set_n (fun q => e q.2), pp_set_n (fun q => e q.2), hr j hj]
theorem pp_jdL {N c : Nat} {s : Nat → Int32} (hN : 1000 ≤ N) (hI : pp_I s) (hc : c ≤ 4) : ∀ (m n1 n2 k : Nat) (w : Nat → Nat) (sc : Int32) (μX μM : g_M), k + m = c → m < n1 → m + 1 < n2 → pp_D s μX → (∀ o, o < pp_n s → w o < 16) → μX 0 11 = pp_i c → μM 0 32 = pp_i c → pp_t s + k ≤ pp_e s ∨ m = 0 → μM 1 = pp_put s (pp_t s + k) w sc → (∀ j, j < 3 * c → μX 52 j = μM 11 j) →
    ∃ (v : Int32) (μX1 μM1 : g_M) (t1 : Nat) (w1 : Nat → Nat) (sc1 : Int32), pp_F pp_Sc μX μX1 ∧ pp_F pp_SG μM μM1 ∧ μM1 1 = pp_put s t1 w1 sc1 ∧ ((f_X11_judge_L10 N n1 (pp_i (pp_pk w (pp_n s))) (pp_i k) μX = some (.inl (v, μX1)) ∧ f_X12_judge_L9 N n2 (pp_i k) 1 μM = some (v, 0, μM1)) ∨ (f_X11_judge_L10 N n1 (pp_i (pp_pk w (pp_n s))) (pp_i k) μX = some (.inr μX1) ∧ f_X12_judge_L9 N n2 (pp_i k) 1 μM = some (v, 1, μM1))) := by
  have hn6 := hI.1.2
  have h16 := hI.2.2.2.2.2.2.1
  have stop : ∀ (n : Nat) (k : Nat) (μ : g_M), k ≤ 4 → 0 < n → μ 0 32 = pp_i c → f_X12_judge_L9 N n (pp_i k) 0 μ = some (pp_i k, 0, μ) := by
    intro n k μ hk hn h32
    obtain ⟨n, rfl⟩ := pp_fu hn
    rw [f_X12_judge_L9, h32]
    split
    · rfl
    · rw [if_pos (show (0 : Int32) = 0 from rfl)]
  intro m
  induction m with
  | zero =>
    intro n1 n2 k w sc μX μM hk h1 h2 hD hw hX hM ht hrow hR
    obtain ⟨n1, rfl⟩ := pp_fu h1
    obtain ⟨n2, rfl⟩ := pp_fu h2
    rw [f_X11_judge_L10, f_X12_judge_L9, hX, hM, pp_ite (pp_ge (a := k) (b := c) (by omega) (by omega)), if_pos (by omega), pp_ite (pp_ge (a := k) (b := c) (by omega) (by omega)), if_pos (by omega)]
    exact ⟨pp_i k, μX, μM, _, w, sc, pp_F.refl, pp_F.refl, hrow, Or.inr ⟨rfl, rfl⟩⟩
  | succ m ih =>
    intro n1 n2 k w sc μX μM hk h1 h2 hD hw hX hM ht hrow hR
    obtain ⟨n1, rfl⟩ := pp_fu h1
    obtain ⟨n2, rfl⟩ := pp_fu h2
    have ht : pp_t s + k ≤ pp_e s := by omega
    obtain ⟨d11, d12, d13, d14⟩ := pp_D12 hI hD
    have ho := pp_M_over hI.2.2.2 (show pp_t s + k < 1000 by omega) hrow
    rw [f_X11_judge_L10, f_X12_judge_L9, hX, hM, pp_ite (pp_ge (a := k) (b := c) (by omega) (by omega)), if_neg (by omega), pp_ite (pp_ge (a := k) (b := c) (by omega) (by omega)), if_neg (by omega), if_neg (show ¬ ((1 : Int32) = 0) by decide), d13, d14, pp_add]
    simp only [Option.bind_some]
    rw [show pp_i k * 3 = pp_i (3 * k) from (pp_mul k 3).trans (congrArg pp_i (Nat.mul_comm k 3)), show (3 * pp_i k : Int32) = pp_i (3 * k) from pp_mul 3 k, pp_rd (by omega) (by decide), pp_rd (by omega) (by decide), ← hR (3 * k) (by omega), show pp_i k + 1 = pp_i (k + 1) from pp_add k 1]
    simp only [Option.bind_some]
    rcases pp_act (a := μX 52 (3 * k)) hI.1 hD.1.1 (μM := μM) (by rw [hrow, pp_put_0]) with ⟨e3, e4⟩ | ⟨o, hoo, eo, e3, e4⟩
    · rw [if_pos e3, if_pos e4, stop n2 (k + 1) μM (by omega) (by omega) hM]
      exact ⟨_, _, _, _, w, sc, pp_F.refl, pp_F.refl, hrow, Or.inl ⟨rfl, rfl⟩⟩
    rw [if_neg (pp_n10 e3), if_neg (pp_n10 e4), ho, eo, pp_ite (pp_lt (a := pp_t s + k) (b := pp_e s) (by omega) (by omega))]
    by_cases cc : pp_t s + k < pp_e s
    · obtain ⟨μX1, x1, x2⟩ := pp_X_after (N := N) (t := pp_t s + k) (c := pp_cc o) (w := w) (by omega) hI.1 hI.2.1 hD.1 (by omega) (pp_cc_64 (by omega)) hw
      have hw2 := pp_nw_16 (t := pp_t s + k) (c := pp_cc o) hI.2.1 hw
      have hwo := pp_X_worth (N := N) (t := pp_t s + k) (by omega) hI.1 hI.2.1 (hD.1.F x2) (by omega) hw2
      have hho := pp_X_homeSet (N := N) (by omega) hI.1 (hD.1.F x2) hw2
      obtain ⟨μM1, m1, m2, m3, m4⟩ := pp_M_gw (N := N) (a := o) (by omega) hI.1 hI.2.2.1 hI.2.1 (by omega) (show pp_t s + k < 1000 by omega) hw hrow
      have mho := pp_M_home (N := N) (by omega) hI.1 hw2 m2
      have fX : ∀ a, ¬ a = 15 → μX1 a = μX a := fun a ha => x2.row (fun b => decide_eq_false ha)
      have fM : ∀ a, ¬ (a = 0 ∨ a = 1 ∨ a = 5) → μM1 a = μM a := fun a ha => m4.row (fun b => decide_eq_false (by omega))
      have hM1 : μM1 0 32 = pp_i c := (m4 0 32 (by decide)).trans hM
      rw [if_pos cc, if_pos cc, if_pos (show (0 : Int32) = 0 from rfl), pp_X_chain (by omega), x1, m1]
      simp only [Option.bind_some]
      rw [show pp_i (3 * k) + 1 = pp_i (3 * k + 1) from pp_add _ 1, show pp_i (3 * k) + 2 = pp_i (3 * k + 2) from pp_add _ 2, pp_rd (show 3 * k + 1 < 12 by omega) (by decide), pp_rd (show 3 * k + 1 < 12 by omega) (by decide), hwo, fX 52 (by decide), fM 11 (by decide), ← hR (3 * k + 1) (by omega)]
      simp only [Option.bind_some]
      rw [pp_rd (show 3 * k + 2 < 12 by omega) (by decide), pp_rd (show 3 * k + 2 < 12 by omega) (by decide), hho, mho, fX 52 (by decide), fM 11 (by decide), ← hR (3 * k + 2) (by omega)]
      simp only [Option.bind_some]
      by_cases c1 : μX 52 (3 * k + 1) = pp_wo s (pp_t s + k) (pp_nw s (pp_t s + k) w (pp_cc o))
      · rw [if_pos c1, if_pos c1.symm]
        by_cases c2 : μX 52 (3 * k + 2) = pp_i (pp_hm (pp_n s) (pp_nw s (pp_t s + k) w (pp_cc o)))
        · rw [if_pos c2, if_pos c2.symm]
          obtain ⟨v, μX2, μM2, t2, w2, sc2, r1, r2, r3, r4⟩ := ih n1 n2 (k + 1) (pp_nw s (pp_t s + k) w (pp_cc o)) _ μX1 μM1 (by omega) (by omega) (by omega) (hD.F x2) hw2 (by rw [fX 0 (by decide)]; exact hX) hM1 (Or.inl (by omega)) m2 (fun j hj => by rw [fX 52 (by decide), fM 11 (by decide), hR j hj])
          exact ⟨v, μX2, μM2, t2, w2, sc2, x2.trans r1, m4.trans r2, r3, r4⟩
        · rw [if_neg c2, if_neg (fun q => c2 q.symm), stop n2 (k + 1) μM1 (by omega) (by omega) hM1]
          exact ⟨_, _, _, _, _, _, x2, m4, m2, Or.inl ⟨rfl, rfl⟩⟩
      · rw [if_neg c1, if_neg (show ¬ (pp_wo s (pp_t s + k) (pp_nw s (pp_t s + k) w (pp_cc o)) = μX 52 (3 * k + 1)) from fun q => c1 q.symm)]
        by_cases c2 : μX 52 (3 * k + 2) = pp_i (pp_hm (pp_n s) (pp_nw s (pp_t s + k) w (pp_cc o)))
        · rw [if_pos c2]
          exact ⟨_, _, _, _, _, _, x2, m4, m2, Or.inl ⟨rfl, stop n2 (k + 1) μM1 (by omega) (by omega) hM1⟩⟩
        · rw [if_neg c2]
          exact ⟨_, _, _, _, _, _, x2, m4, m2, Or.inl ⟨rfl, stop n2 (k + 1) μM1 (by omega) (by omega) hM1⟩⟩
    · rw [if_neg cc, if_neg cc, if_neg (show ¬ ((1 : Int32) = 0) by decide), stop n2 (k + 1) μM (by omega) (by omega) hM]
      exact ⟨_, _, _, _, w, sc, pp_F.refl, pp_F.refl, hrow, Or.inl ⟨rfl, rfl⟩⟩
theorem pp_c_judge {N t L u Lu : Nat} {μX μM : g_M} (hN : 1000 ≤ N) (h : pp_Rel t L u Lu μX μM) : ∃ (v : Int32) (μX1 μM1 : g_M), f_X11_judge N μX = some (v, μX1) ∧ f_X12_judge N μM = some (v, μM1) ∧ pp_Rel t L u Lu μX1 μM1 := by
  obtain ⟨c, hc, hX, hM, hr⟩ := h.2.2.2.2.2.1
  obtain ⟨hI, hD, hR, hp⟩ := h.2.2.1
  obtain ⟨d11, d12, d13, d14⟩ := pp_D12 hI hD
  unfold f_X11_judge f_X12_judge
  obtain ⟨fa, f1, f2, f3⟩ := pp_A_aside (N := N) (lev := 0) (μ := μM) (by omega) (by decide)
  have f1 : f_X12_laysAside N 0 μM = some (pp_rw μM 3 fa) := f1
  obtain ⟨v, μX1, μM1, t1, w1, sc1, g1, g2, g3, g4⟩ := pp_jdL (N := N) (c := c) hN hI hc c N N 0 (pp_w (μM 1)) (μM 1 3) μX (pp_rw μM 3 fa) (by omega) (by omega) (by omega) hD (pp_w16 hI) hX (by rw [pp_rw_n (by decide)]; exact hM) (Or.inl (pp_tle hI)) ((pp_rw_n (by decide)).trans (pp_self hI.2.2.2)) (fun j hj => by rw [pp_rw_n (by decide)]; exact hr j hj)
  obtain ⟨b1, b2, b3⟩ := pp_M_lay (N := N) (by omega) hI (pp_self hI.2.2.2) f2 g3 g2
  have hl := pp_look h g1 (b2.mono (fun a b => pp_SL_t)) b3
  rw [f1, d12]
  simp only [Option.bind_some]
  rcases g4 with ⟨g5, g6⟩ | ⟨g5, g6⟩
  · have g5 : f_X11_judge_L10 N N (pp_i (pp_pk (pp_w (μM 1)) (pp_n (μM 1)))) 0 μX = _ := g5
    have g6 : f_X12_judge_L9 N N 0 1 (pp_rw μM 3 fa) = _ := g6
    rw [g5, g6]
    simp only [Option.bind_some]
    rw [b1]
    exact ⟨_, _, _, rfl, rfl, hl⟩
  · have g5 : f_X11_judge_L10 N N (pp_i (pp_pk (pp_w (μM 1)) (pp_n (μM 1)))) 0 μX = _ := g5
    have g6 : f_X12_judge_L9 N N 0 1 (pp_rw μM 3 fa) = _ := g6
    rw [g5, g6]
    simp only [Option.bind_some]
    rw [b1]
    exact ⟨_, _, _, rfl, rfl, hl⟩
