/-! ===== shelf, taken ===== -/
theorem pp_hoR {t L u Lu : Nat} {μX μM μX1 μM1 : g_M} (h : pp_Rel t L u Lu μX μM) (hS : pp_HO μX1 μM1) (fX : ∀ a, ¬ (60 ≤ a ∧ a ≤ 62) → μX1 a = μX a) (fM : ∀ a, ¬ (15 ≤ a ∧ a ≤ 17) → μM1 a = μM a) : pp_Rel t L u Lu μX1 μM1 := by
  obtain ⟨ht, hu, ⟨hI, hD, hR, c, hp⟩, hk, hta, hrw, hs, hh, htr⟩ := h
  refine ⟨ht, hu, ?_, hk.R hu (fun a ha => fX a ?_) (by rw [fX 0 (by omega)]) (fM 2 (by omega)) (by rw [fM 0 (by omega)]), hta.R (fX 46 (by omega)) (by rw [fX 45 (by omega)]) (fM 4 (by omega)) (by rw [fM 0 (by omega)]), hrw.R (fX 52 (by omega)) (by rw [fX 0 (by omega)]) (fM 11 (by omega)) (by rw [fM 0 (by omega)]), hs.R (fun a h1 h2 => fX a (by omega)) (fM 12 (by omega)) (fM 13 (by omega)) (fM 14 (by omega)), hS, htr.R (fX 51 (by omega)) (by rw [fX 50 (by omega)]) (fM 18 (by omega)) (by rw [fM 0 (by omega)])⟩
  · rw [fM 1 (by omega)]
    refine ⟨hI, ⟨hD.1.rows (by rw [fX 1 (by omega)]) (fun i h1 h2 => fX i (by omega)), ?_⟩, hR.F (fun a ha hb => fX a (by
      have := pp_rk_no ht ha hb
      omega)), c, hp.F (by rw [fX 1 (by omega)]) (fX 17 (by omega))⟩
    rw [fX 1 (by omega)]
    exact hD.2
  · rcases ha with ha | ⟨ha, hb⟩
    · omega
    · have := pp_rk_no hu ha hb
      omega
/-- a shelf holds another thing -/
theorem pp_hoN {t L u Lu i : Nat} {μX μM : g_M} {x1 x2 x3 m1 m2 m3 : Int32} (h : pp_Rel t L u Lu μX μM) (hi : i < 4) (hv : (x1 = 2 ∧ m1 = 0) ∨ (x1 = 0 ∧ m1 = 1 ∧ ∃ n : Nat, n < 6 ∧ x2 = pp_i n ∧ m2 = pp_i n) ∨ (x1 = 1 ∧ m1 = 2 ∧ ∃ q z : Nat, q ≤ 4 ∧ z ≤ 40 ∧ x2 = pp_i q ∧ m2 = pp_i q ∧ x3 = pp_i z ∧ m3 = pp_i z)) : pp_Rel t L u Lu (g_set (g_set (g_set μX 60 i x1) 61 i x2) 62 i x3) (g_set (g_set (g_set μM 15 i m1) 16 i m2) 17 i m3) := by
  have hH := h.2.2.2.2.2.2.2.1
  refine pp_hoR h (fun j hj => ?_) (fun a ha => by rw [pp_rowN (by omega), pp_rowN (by omega), pp_rowN (by omega)]) (fun a ha => by rw [pp_rowN (by omega), pp_rowN (by omega), pp_rowN (by omega)])
  have e1 : g_set (g_set (g_set μX 60 i x1) 61 i x2) 62 i x3 60 j = if j = i then x1 else μX 60 j := by
    rw [pp_set_n (by omega), pp_set_n (by omega)]
    by_cases c : j = i
    · rw [if_pos c, c, pp_set_s]
    · rw [if_neg c, pp_set_n (by omega)]
  have e2 : g_set (g_set (g_set μX 60 i x1) 61 i x2) 62 i x3 61 j = if j = i then x2 else μX 61 j := by
    rw [pp_set_n (by omega)]
    by_cases c : j = i
    · rw [if_pos c, c, pp_set_s]
    · rw [if_neg c, pp_set_n (by omega), pp_set_n (by omega)]
  have e3 : g_set (g_set (g_set μX 60 i x1) 61 i x2) 62 i x3 62 j = if j = i then x3 else μX 62 j := by
    by_cases c : j = i
    · rw [if_pos c, c, pp_set_s]
    · rw [if_neg c, pp_set_n (by omega), pp_set_n (by omega), pp_set_n (by omega)]
  have g1 : g_set (g_set (g_set μM 15 i m1) 16 i m2) 17 i m3 15 j = if j = i then m1 else μM 15 j := by
    rw [pp_set_n (by omega), pp_set_n (by omega)]
    by_cases c : j = i
    · rw [if_pos c, c, pp_set_s]
    · rw [if_neg c, pp_set_n (by omega)]
  have g2 : g_set (g_set (g_set μM 15 i m1) 16 i m2) 17 i m3 16 j = if j = i then m2 else μM 16 j := by
    rw [pp_set_n (by omega)]
    by_cases c : j = i
    · rw [if_pos c, c, pp_set_s]
    · rw [if_neg c, pp_set_n (by omega), pp_set_n (by omega)]
  have g3 : g_set (g_set (g_set μM 15 i m1) 16 i m2) 17 i m3 17 j = if j = i then m3 else μM 17 j := by
    by_cases c : j = i
    · rw [if_pos c, c, pp_set_s]
    · rw [if_neg c, pp_set_n (by omega), pp_set_n (by omega), pp_set_n (by omega)]
  rw [e1, e2, e3, g1, g2, g3]
  by_cases c : j = i
  · rw [if_pos c, if_pos c, if_pos c, if_pos c, if_pos c, if_pos c]
    exact hv
  · rw [if_neg c, if_neg c, if_neg c, if_neg c, if_neg c, if_neg c]
    exact hH j hj
theorem pp_c_shelf {t L u Lu : Nat} {μX μM : g_M} {a1 a2 a3 : Int32} (h : pp_Rel t L u Lu μX μM) : ∃ (v : Int32) (μX1 μM1 : g_M), f_X11_shelf a1 a2 a3 μX = some (v, μX1) ∧ f_X12_shelf a1 a2 a3 μM = some (v, μM1) ∧ pp_Rel t L u Lu μX1 μM1 := by
  obtain ⟨hI, hD, hR, hp⟩ := h.2.2.1
  have hn6 := hI.1.2
  have hS := h.2.2.2.2.2.2.1
  unfold f_X11_shelf f_X12_shelf f_X11_isShelf f_X12_isShelf
  rcases pp_btw (a := a1) (lo := 0) (hi := 3) (by decide) (by decide) with ⟨e1, e2⟩ | ⟨i, k1, k2, rfl, e1, e2⟩
  · have e1 : f_X11_isBetween a1 0 3 = 0 := e1
    have e2 : f_X12_isIn a1.toInt64 0 3 = 0 := e2
    rw [if_pos e1, if_pos e2]
    exact ⟨_, _, _, rfl, rfl, h⟩
  have e1 : f_X11_isBetween (pp_i i) 0 3 = 1 := e1
  have e2 : f_X12_isIn (pp_i i).toInt64 0 3 = 1 := e2
  have wr : ∀ (row : Nat) (μ : g_M) (x : Int32), g_wr μ row 4 (pp_i i) x = some (g_set μ row i x) := fun row μ x => pp_wr (by omega) (by decide)
  rw [if_neg (pp_n10 e1), if_neg (pp_n10 e2)]
  unfold f_X11_putOn
  rcases pp_btw (a := a2) (lo := 0) (hi := 2) (by decide) (by decide) with ⟨e3, e4⟩ | ⟨k, i1, i2, rfl, e3, e4⟩
  · have e4 : f_X12_isIn a2.toInt64 0 2 = 0 := e4
    have n : ∀ j : Nat, j ≤ 2 → ¬ a2 = pp_i j := fun j hj q => by
      rw [q, pp_X_btw, if_pos ⟨(pp_le (by omega) (by omega)).mpr (Nat.zero_le _), (pp_le (by omega) (by omega)).mpr hj⟩] at e3
      exact absurd e3 (by decide)
    rw [if_pos e4, if_neg (show ¬ a2 = 0 from n 0 (by decide)), if_neg (show ¬ a2 = 1 from n 1 (by decide)), if_neg (show ¬ a2 = 2 from n 2 (by decide))]
    exact ⟨_, _, _, rfl, rfl, h⟩
  have e4 : f_X12_isIn (pp_i k).toInt64 0 2 = 1 := e4
  rw [if_neg (pp_n10 e4)]
  have hk : k = 0 ∨ k = 1 ∨ k = 2 := by omega
  rcases hk with rfl | rfl | rfl
  · rw [if_pos (show pp_i 0 = 0 from rfl), if_pos (show pp_i 0 = 0 from rfl), if_neg (show ¬ pp_i 0 = 1 by decide), if_neg (show ¬ pp_i 0 = 1 by decide), if_neg (show ¬ pp_i 0 = 2 by decide)]
    rcases pp_ovn (a := a3) hI.1 hD.1.1 rfl with ⟨e5, e6⟩ | ⟨o, ho, rfl, e5, e6⟩
    · rw [if_pos e5, if_pos e6]
      exact ⟨_, _, _, rfl, rfl, h⟩
    · rw [if_neg (pp_n10 e5), if_neg (pp_n10 e6), wr, wr]
      simp only [Option.bind_some]
      rw [wr, wr]
      simp only [Option.bind_some]
      rw [wr, wr]
      exact ⟨_, _, _, rfl, rfl, pp_hoN h (by omega) (Or.inr (Or.inl ⟨rfl, rfl, o, by omega, rfl, rfl⟩))⟩
  · rw [if_neg (show ¬ pp_i 1 = 0 by decide), if_neg (show ¬ pp_i 1 = 0 by decide), if_pos (show pp_i 1 = 1 from rfl), if_pos (show pp_i 1 = 1 from rfl), if_neg (show ¬ pp_i 1 = 2 by decide)]
    unfold f_X11_isSheet f_X12_isSheet
    rcases pp_btw (a := a3) (lo := 0) (hi := 3) (by decide) (by decide) with ⟨e5, e6⟩ | ⟨j, j1, j2, rfl, e5, e6⟩
    · have e5 : f_X11_isBetween a3 0 3 = 0 := e5
      have e6 : f_X12_isIn a3.toInt64 0 3 = 0 := e6
      rw [if_pos e5, if_pos e6]
      exact ⟨_, _, _, rfl, rfl, h⟩
    have e5 : f_X11_isBetween (pp_i j) 0 3 = 1 := e5
    have e6 : f_X12_isIn (pp_i j).toInt64 0 3 = 1 := e6
    obtain ⟨so, z, hz, hso, x54, m12, x55, m13, hc⟩ := hS j (by omega)
    have r54 : g_rd μX 53 4 (pp_i j) = some so := by rw [pp_rd (by omega) (by decide), x54]
    have r55 : g_rd μX 54 4 (pp_i j) = some (pp_i z) := by rw [pp_rd (by omega) (by decide), x55]
    have r12 : g_rd μM 12 4 (pp_i j) = some so := by rw [pp_rd (by omega) (by decide), m12]
    have r12b : ∀ x, g_rd (g_set μM 15 i x) 12 4 (pp_i j) = some so := fun x => by rw [pp_rd (by omega) (by decide), pp_rowN (by decide), m12]
    have r13 : ∀ x y, g_rd (g_set (g_set μM 15 i x) 16 i y) 13 4 (pp_i j) = some (pp_i z) := fun x y => by rw [pp_rd (by omega) (by decide), pp_rowN (by decide), pp_rowN (by decide), m13]
    rw [if_neg (pp_n10 e5), if_neg (pp_n10 e6), r54, r55, r12]
    simp only [Option.bind_some]
    rcases hso with rfl | ⟨q, hq, rfl⟩
    · rw [if_pos (show (-1 : Int32) = -1 from rfl), if_pos (show (-1 : Int32) < 0 by decide), wr, wr]
      simp only [Option.bind_some]
      rw [wr, wr]
      simp only [Option.bind_some]
      rw [wr, wr]
      exact ⟨_, _, _, rfl, rfl, pp_hoN h (by omega) (Or.inl ⟨rfl, rfl⟩)⟩
    · have n1 : ¬ pp_i q = (-1 : Int32) := fun e => by
        have h := congrArg Int32.toInt e
        rw [pp_int (by omega), show (-1 : Int32).toInt = -1 from rfl] at h
        omega
      rw [if_neg n1, if_neg (show ¬ pp_i q < 0 from fun e => by
        have := (pp_lt (a := q) (b := 0) (by omega) (by omega)).mp e
        omega), wr, wr]
      simp only [Option.bind_some]
      rw [r12b, wr]
      simp only [Option.bind_some]
      rw [wr, wr]
      simp only [Option.bind_some]
      rw [r13]
      simp only [Option.bind_some]
      rw [wr]
      exact ⟨_, _, _, rfl, rfl, pp_hoN h (by omega) (Or.inr (Or.inr ⟨rfl, rfl, q, z, hq, hz, rfl, rfl, rfl, rfl⟩))⟩
  · rw [if_neg (show ¬ pp_i 2 = 0 by decide), if_neg (show ¬ pp_i 2 = 0 by decide), if_neg (show ¬ pp_i 2 = 1 by decide), if_neg (show ¬ pp_i 2 = 1 by decide), if_pos (show pp_i 2 = 2 from rfl), wr, wr]
    simp only [Option.bind_some]
    rw [wr, wr]
    simp only [Option.bind_some]
    rw [wr, wr]
    exact ⟨_, _, _, rfl, rfl, pp_hoN h (by omega) (Or.inl ⟨rfl, rfl⟩)⟩
/-- what a shelf holds at the time -/
theorem pp_held {t L u Lu i : Nat} {μX μM : g_M} (h : pp_Rel t L u Lu μX μM) (hi : i < 4) : (f_X11_heldOn (pp_i i) μX = some 2 ∧ f_X12_heldOn (pp_i i) μM = some 0) ∨ (f_X11_heldOn (pp_i i) μX = some 0 ∧ f_X12_heldOn (pp_i i) μM = some 1 ∧ ∃ n : Nat, n < pp_n (μM 1) ∧ μX 61 i = pp_i n ∧ μM 16 i = pp_i n) ∨ (f_X11_heldOn (pp_i i) μX = some 1 ∧ f_X12_heldOn (pp_i i) μM = some 2 ∧ ∃ q z : Nat, q ≤ 4 ∧ z ≤ 40 ∧ μX 61 i = pp_i q ∧ μM 16 i = pp_i q ∧ μX 62 i = pp_i z ∧ μM 17 i = pp_i z) := by
  obtain ⟨hI, hD, hR, hp⟩ := h.2.2.1
  have rX : ∀ row, g_rd μX row 4 (pp_i i) = some (μX row i) := fun row => pp_rd (by omega) (by decide)
  have rM : ∀ row, g_rd μM row 4 (pp_i i) = some (μM row i) := fun row => pp_rd (by omega) (by decide)
  unfold f_X11_heldOn f_X12_heldOn
  rw [rX, rX, rM, rM]
  simp only [Option.bind_some]
  rcases h.2.2.2.2.2.2.2.1 i hi with ⟨h1, h2⟩ | ⟨h1, h2, n, hn, h3, h4⟩ | ⟨h1, h2, h3⟩
  · rw [h1, h2, if_neg (by decide), if_neg (by decide)]
    exact Or.inl ⟨rfl, rfl⟩
  · rw [h1, h2, if_pos rfl, if_pos rfl, h3, h4]
    rcases pp_ovn (a := pp_i n) hI.1 hD.1.1 rfl with ⟨e5, e6⟩ | ⟨o, ho, eo, e5, e6⟩
    · rw [if_pos e5, if_pos e6]
      exact Or.inl ⟨rfl, rfl⟩
    · rw [if_neg (pp_n10 e5), if_neg (pp_n10 e6)]
      have hon : n = o := pp_inj (by omega) (by have := hI.1.2; omega) eo
      exact Or.inr (Or.inl ⟨rfl, rfl, n, by omega, rfl, rfl⟩)
  · rw [h1, h2, if_neg (by decide), if_neg (by decide)]
    exact Or.inr (Or.inr ⟨rfl, rfl, h3⟩)
theorem pp_c_taken {t L u Lu : Nat} {μX μM : g_M} {a1 a2 : Int32} (h : pp_Rel t L u Lu μX μM) : ∃ (v : Int32), f_X11_taken a1 a2 μX = some v ∧ f_X12_taken a1 a2 μM = some v ∧ pp_Rel t L u Lu μX μM := by
  obtain ⟨hI, hD, hR, hp⟩ := h.2.2.1
  have hn6 := hI.1.2
  unfold f_X11_taken f_X12_taken f_X11_isShelf f_X12_isShelf
  simp only [Option.bind_some]
  rcases pp_btw (a := a1) (lo := 0) (hi := 3) (by decide) (by decide) with ⟨e1, e2⟩ | ⟨i, k1, k2, rfl, e1, e2⟩
  · have e1 : f_X11_isBetween a1 0 3 = 0 := e1
    have e2 : f_X12_isIn a1.toInt64 0 3 = 0 := e2
    rw [if_pos e1, if_pos e2]
    exact ⟨_, rfl, rfl, h⟩
  have e1 : f_X11_isBetween (pp_i i) 0 3 = 1 := e1
  have e2 : f_X12_isIn (pp_i i).toInt64 0 3 = 1 := e2
  have rX : ∀ row, g_rd μX row 4 (pp_i i) = some (μX row i) := fun row => pp_rd (by omega) (by decide)
  have rM : ∀ row, g_rd μM row 4 (pp_i i) = some (μM row i) := fun row => pp_rd (by omega) (by decide)
  have hh := pp_held h (show i < 4 by omega)
  rw [if_neg (pp_n10 e1), if_neg (pp_n10 e2), rX, rX, rM, rM]
  rcases pp_btw (a := a2) (lo := 0) (hi := 14) (by decide) (by decide) with ⟨e3, e4⟩ | ⟨k, i1, i2, rfl, e3, e4⟩
  · have e4 : f_X12_isIn a2.toInt64 0 14 = 0 := e4
    have e5 : f_X11_isBetween a2 10 14 = 0 := by
      rcases pp_btw (a := a2) (lo := 10) (hi := 14) (by decide) (by decide) with ⟨q, _⟩ | ⟨j, j1, j2, rfl, _, _⟩
      · exact q
      · rw [pp_X_btw, if_pos ⟨(pp_le (by omega) (by omega)).mpr (Nat.zero_le _), (pp_le (by omega) (by omega)).mpr j2⟩] at e3
        exact absurd e3 (by decide)
    have e6 : f_X11_isBetween a2 0 5 = 0 := by
      rcases pp_btw (a := a2) (lo := 0) (hi := 5) (by decide) (by decide) with ⟨q, _⟩ | ⟨j, j1, j2, rfl, _, _⟩
      · exact q
      · rw [pp_X_btw, if_pos ⟨(pp_le (by omega) (by omega)).mpr (Nat.zero_le _), (pp_le (by omega) (by omega)).mpr (show j ≤ 14 by omega)⟩] at e3
        exact absurd e3 (by decide)
    rw [if_pos e4, if_pos e5, if_pos e6]
    exact ⟨_, rfl, rfl, h⟩
  have e4 : f_X12_isIn (pp_i k).toInt64 0 14 = 1 := e4
  rw [if_neg (pp_n10 e4)]
  have f69 : f_X12_isIn (pp_i k).toInt64 6 9 = f_X11_isBetween (pp_i k) 6 9 := pp_M_in (lo := 6) (hi := 9)
  have b1 : f_X11_isBetween (pp_i k) 6 9 = if 6 ≤ k ∧ k ≤ 9 then 1 else 0 := by
    rw [pp_X_btw]
    exact pp_ite (by rw [show (6 : Int32) = pp_i 6 from rfl, show (9 : Int32) = pp_i 9 from rfl, pp_le (by omega) (by omega), pp_le (by omega) (by omega)])
  have b2 : f_X11_isBetween (pp_i k) 10 14 = if 10 ≤ k ∧ k ≤ 14 then 1 else 0 := by
    rw [pp_X_btw]
    exact pp_ite (by rw [show (10 : Int32) = pp_i 10 from rfl, show (14 : Int32) = pp_i 14 from rfl, pp_le (by omega) (by omega), pp_le (by omega) (by omega)])
  have b3 : f_X11_isBetween (pp_i k) 0 5 = if 0 ≤ k ∧ k ≤ 5 then 1 else 0 := by
    rw [pp_X_btw]
    exact pp_ite (by rw [show (0 : Int32) = pp_i 0 from rfl, show (5 : Int32) = pp_i 5 from rfl, pp_le (by omega) (by omega), pp_le (by omega) (by omega)])
  rw [f69, b1, b2, b3]
  by_cases c1 : k ≤ 5
  · have hge : ¬ pp_i k ≥ 10 := fun q => by
      have q2 : pp_i k ≥ pp_i 10 := q
      rw [pp_ge (by omega) (by omega)] at q2
      omega
    rw [if_neg (show ¬ (6 ≤ k ∧ k ≤ 9) by omega), if_neg (show ¬ (10 ≤ k ∧ k ≤ 14) by omega), if_pos (show 0 ≤ k ∧ k ≤ 5 by omega), if_pos (show (0 : Int32) = 0 from rfl), if_pos (show (0 : Int32) = 0 from rfl), if_neg (show ¬ ((1 : Int32) = 0) by decide)]
    rcases hh with ⟨h1, h2⟩ | ⟨h1, h2, n, hn, h3, h4⟩ | ⟨h1, h2, q, z, hq, hz, h3, h4, h5, h6⟩
    · rw [h1, h2]
      exact ⟨_, rfl, rfl, h⟩
    · obtain ⟨kd, wa, pl, fi, g1, g2, g3, g4, g5, g6, g7, g8, g9, g10⟩ := hI.2.1 n hn
      rw [h1, h2]
      simp only [Option.bind_some]
      rw [if_neg (show ¬ ((0 : Int32) = 2) by decide), if_neg (show ¬ ((0 : Int32) = 1) by decide), if_neg (show ¬ ((1 : Int32) = 0) by decide), if_neg hge, if_pos True.intro, h3, h4]
      rw [pp_rd (by omega) (by decide), (hD.1.2.1 n hn).1, show f_X12_its (pp_i n) 0 μM = some (μM 1 (8 + 5 * n + 0)) from pp_M_its (i := 0) (by omega), g7]
      simp only [Option.bind_some]
      rw [pp_X_under (by omega) (by omega)]
      simp only [Option.bind_some]
      by_cases c2 : f_X12_isUnder (pp_i kd) (pp_i k) = 0
      · rw [if_pos c2]
        exact ⟨_, rfl, rfl, h⟩
      · rw [if_neg c2]
        exact ⟨_, rfl, rfl, h⟩
    · rw [h1, h2]
      simp only [Option.bind_some]
      rw [if_neg (show ¬ ((1 : Int32) = 2) by decide), if_pos True.intro, if_neg (show ¬ ((2 : Int32) = 0) by decide), if_neg hge, if_neg (show ¬ ((2 : Int32) = 1) by decide)]
      exact ⟨_, rfl, rfl, h⟩
  · by_cases c2 : 10 ≤ k
    · have hge : pp_i k ≥ 10 := by
        show pp_i k ≥ pp_i 10
        rw [pp_ge (by omega) (by omega)]
        exact c2
      rw [if_neg (show ¬ (6 ≤ k ∧ k ≤ 9) by omega), if_pos (show (10 ≤ k ∧ k ≤ 14) by omega), if_pos (show (0 : Int32) = 0 from rfl), if_neg (show ¬ ((1 : Int32) = 0) by decide)]
      rcases hh with ⟨h1, h2⟩ | ⟨h1, h2, n, hn, h3, h4⟩ | ⟨h1, h2, q, z, hq, hz, h3, h4, h5, h6⟩
      · rw [h1, h2]
        exact ⟨_, rfl, rfl, h⟩
      · rw [h1, h2]
        simp only [Option.bind_some]
        rw [if_neg (show ¬ ((0 : Int32) = 2) by decide), if_neg (show ¬ ((0 : Int32) = 1) by decide), if_neg (show ¬ ((1 : Int32) = 0) by decide), if_pos hge, if_neg (show ¬ ((1 : Int32) = 2) by decide)]
        exact ⟨_, rfl, rfl, h⟩
      · rw [h1, h2]
        simp only [Option.bind_some]
        rw [if_neg (show ¬ ((1 : Int32) = 2) by decide), if_pos True.intro, if_neg (show ¬ ((2 : Int32) = 0) by decide), if_pos hge, if_pos True.intro, h3, h4, h5, h6]
        by_cases c3 : pp_i q = pp_i k - 10
        · rw [if_pos c3]
          exact ⟨_, rfl, rfl, h⟩
        · rw [if_neg c3]
          exact ⟨_, rfl, rfl, h⟩
    · rw [if_pos (show 6 ≤ k ∧ k ≤ 9 by omega), if_neg (show ¬ (10 ≤ k ∧ k ≤ 14) by omega), if_neg (show ¬ (0 ≤ k ∧ k ≤ 5) by omega), if_pos (show (0 : Int32) = 0 from rfl), if_neg (show ¬ ((1 : Int32) = 0) by decide), if_pos (show (0 : Int32) = 0 from rfl)]
      exact ⟨_, rfl, rfl, h⟩
