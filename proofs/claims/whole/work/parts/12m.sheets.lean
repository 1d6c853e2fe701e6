/-! ===== sheets ===== -/
theorem pp_ix {j n : Nat} (h : j < n) (hn : n ≤ 1000) : g_ix n (pp_i j) = some j := by
  have h1 : (pp_i j).toNatClampNeg = j := pp_nat (by omega)
  have h2 : ¬ (pp_i j < 0) := by
    show ¬ (pp_i j < pp_i 0)
    rw [pp_lt (by omega) (by omega)]
    omega
  unfold g_ix
  rw [h1, if_neg (fun q => q.elim h2 (fun q => absurd h (Nat.not_lt.mpr q)))]
theorem pp_itm {a : Int32} {z : Nat} (hz : z ≤ 1000) : (f_X11_isBetween a 0 (pp_i z - 1) = 0) ∨ (∃ j : Nat, j < z ∧ a = pp_i j ∧ f_X11_isBetween a 0 (pp_i z - 1) = 1) := by
  rw [pp_X_btw]
  by_cases c : 0 ≤ a ∧ a ≤ pp_i z - 1
  · rw [if_pos c]
    have e := (pp_back c.1).symm
    refine Or.inr ⟨a.toNatClampNeg, ?_, e, rfl⟩
    have h := c.2
    rw [e, pp_m1_le pp_lo (by omega)] at h
    exact h
  · rw [if_neg c]
    exact Or.inl rfl
theorem pp_lk {i : Nat} {so a2 : Int32} {μX μM : g_M} (hi : i < 4) (hso : so = -1 ∨ ∃ q : Nat, q ≤ 4 ∧ so = pp_i q) (hX : μX 53 i = so) (hM : μM 12 i = so) : ∃ v : Int32, f_X11_refusalAs (pp_i i) a2 μX = some v ∧ f_X12_lacks (pp_i i) a2 μM = some v ∧ ((v = 0 ∧ ∃ q : Nat, q ≤ 4 ∧ so = pp_i q) ∨ v = -11 ∨ v = -13) := by
  unfold f_X11_refusalAs f_X12_lacks
  rw [pp_rd (by omega) (by decide), pp_rd (by omega) (by decide), hX, hM]
  simp only [Option.bind_some]
  rcases hso with rfl | ⟨q, hq, rfl⟩
  · rw [if_pos (show (-1 : Int32) = -1 from rfl), if_neg (show ¬ ((-1 : Int32) ≥ 0) by decide)]
    exact ⟨-11, rfl, rfl, Or.inr (Or.inl rfl)⟩
  · have n1 : ¬ pp_i q = (-1 : Int32) := fun e => by
      have h := congrArg Int32.toInt e
      rw [pp_int (by omega), show (-1 : Int32).toInt = -1 from rfl] at h
      omega
    rw [if_neg n1, if_pos (show pp_i q ≥ 0 from (pp_le (a := 0) (by omega) (by omega)).mpr (Nat.zero_le _))]
    by_cases c : pp_i q = a2
    · rw [if_pos c]
      exact ⟨0, rfl, rfl, Or.inl ⟨rfl, q, hq, rfl⟩⟩
    · rw [if_neg c]
      exact ⟨-13, rfl, rfl, Or.inr (Or.inr rfl)⟩
theorem pp_c_item {t L u Lu : Nat} {μX μM : g_M} {a1 a2 a3 : Int32} (h : pp_Rel t L u Lu μX μM) : ∃ (v : Int32), f_X11_item a1 a2 a3 μX = some v ∧ f_X12_item a1 a2 a3 μM = some v ∧ pp_Rel t L u Lu μX μM := by
  have hS := h.2.2.2.2.2.2.1
  unfold f_X11_item f_X12_item f_X11_isSheet f_X12_isSheet
  rcases pp_btw (a := a1) (lo := 0) (hi := 3) (by decide) (by decide) with ⟨e1, e2⟩ | ⟨i, k1, k2, rfl, e1, e2⟩
  · have e1 : f_X11_isBetween a1 0 3 = 0 := e1
    have e2 : f_X12_isIn a1.toInt64 0 3 = 0 := e2
    rw [if_pos e1, if_pos e2]
    exact ⟨_, rfl, rfl, h⟩
  have e1 : f_X11_isBetween (pp_i i) 0 3 = 1 := e1
  have e2 : f_X12_isIn (pp_i i).toInt64 0 3 = 1 := e2
  rw [if_neg (pp_n10 e1), if_neg (pp_n10 e2)]
  rcases pp_btw (a := a2) (lo := 0) (hi := 4) (by decide) (by decide) with ⟨e3, e4⟩ | ⟨q, i1, i2, rfl, e3, e4⟩
  · have e3 : f_X11_isBetween a2 0 4 = 0 := e3
    have e4 : f_X12_isIn a2.toInt64 0 4 = 0 := e4
    rw [if_pos e3, if_pos e4]
    exact ⟨_, rfl, rfl, h⟩
  have e3 : f_X11_isBetween (pp_i q) 0 4 = 1 := e3
  have e4 : f_X12_isIn (pp_i q).toInt64 0 4 = 1 := e4
  obtain ⟨so, z, hz, hso, x54, m12, x55, m13, hc⟩ := hS i (by omega)
  obtain ⟨v, v1, v2, v3⟩ := pp_lk (a2 := pp_i q) (by omega) hso x54 m12
  rw [if_neg (pp_n10 e3), if_neg (pp_n10 e4), v1, v2]
  simp only [Option.bind_some]
  rcases v3 with ⟨rfl, -⟩ | rfl | rfl
  · have f6 : f_X12_isIn a3.toInt64 0 (pp_i z - 1).toInt64 = f_X11_isBetween a3 0 (pp_i z - 1) := pp_M_in (lo := 0) (hi := pp_i z - 1)
    unfold f_X11_isItem
    rw [if_pos (show (0 : Int32) ≥ 0 by decide), if_pos (show (0 : Int32) = 0 from rfl), pp_rd (by omega) (by decide), pp_rd (by omega) (by decide), x55, m13]
    simp only [Option.bind_some]
    rw [f6]
    rcases pp_itm (a := a3) (z := z) (by omega) with e5 | ⟨j, hj, rfl, e5⟩
    · rw [if_pos e5, if_pos e5]
      exact ⟨_, rfl, rfl, h⟩
    · have e40 : (40 * pp_i i + pp_i j : Int32) = pp_i (40 * i + j) := by
        rw [show (40 * pp_i i : Int32) = pp_i (40 * i) from pp_mul 40 i, pp_add]
      rw [if_neg (pp_n10 e5), if_neg (pp_n10 e5), pp_ix (by omega) (by decide), e40]
      simp only [Option.bind_some]
      rw [pp_rd (by omega) (by decide), pp_rd (by omega) (by decide), hc j hj]
      exact ⟨_, rfl, rfl, h⟩
  · rw [if_neg (show ¬ ((-11 : Int32) ≥ 0) by decide), if_neg (show ¬ ((-11 : Int32) = 0) by decide)]
    exact ⟨_, rfl, rfl, h⟩
  · rw [if_neg (show ¬ ((-13 : Int32) ≥ 0) by decide), if_neg (show ¬ ((-13 : Int32) = 0) by decide)]
    exact ⟨_, rfl, rfl, h⟩
/-- cells of the sheets alone change -/
theorem pp_shR {t L u Lu : Nat} {μX μM μX1 μM1 : g_M} (h : pp_Rel t L u Lu μX μM) (hS : pp_SH μX1 μM1) (fX : ∀ a, ¬ (53 ≤ a ∧ a ≤ 59) → μX1 a = μX a) (fM : ∀ a, ¬ (12 ≤ a ∧ a ≤ 14) → μM1 a = μM a) : pp_Rel t L u Lu μX1 μM1 := by
  obtain ⟨ht, hu, ⟨hI, hD, hR, c, hp⟩, hk, hta, hrw, hs, hh, htr⟩ := h
  refine ⟨ht, hu, ?_, hk.R hu (fun a ha => fX a ?_) (by rw [fX 0 (by omega)]) (fM 2 (by omega)) (by rw [fM 0 (by omega)]), hta.R (fX 46 (by omega)) (by rw [fX 45 (by omega)]) (fM 4 (by omega)) (by rw [fM 0 (by omega)]), hrw.R (fX 52 (by omega)) (by rw [fX 0 (by omega)]) (fM 11 (by omega)) (by rw [fM 0 (by omega)]), hS, hh.R (fun a h1 h2 => fX a (by omega)) (fM 15 (by omega)) (fM 16 (by omega)) (fM 17 (by omega)), htr.R (fX 51 (by omega)) (by rw [fX 50 (by omega)]) (fM 18 (by omega)) (by rw [fM 0 (by omega)])⟩
  · rw [fM 1 (by omega)]
    have f : pp_F pp_Sc μX μX1 ∨ True := Or.inr trivial
    refine ⟨hI, ⟨hD.1.rows (by rw [fX 1 (by omega)]) (fun i h1 h2 => fX i (by omega)), ?_⟩, hR.F (fun a ha hb => fX a (by
      have := pp_rk_no ht ha hb
      omega)), c, hp.F (by rw [fX 1 (by omega)]) (fX 17 (by omega))⟩
    rw [fX 1 (by omega)]
    exact hD.2
  · rcases ha with ha | ⟨ha, hb⟩
    · omega
    · have := pp_rk_no hu ha hb
      omega
theorem pp_X_shL {N : Nat} {i n : Nat} (hi : i < 4) (hn : n ≤ 40) : ∀ (m fuel k : Nat) (μ : g_M), k + m = n → m < fuel → ∃ μ1 : g_M, f_X11_sheet_L71 N fuel (pp_i i) (pp_i n) (pp_i k) μ = some μ1 ∧ (∀ j, k ≤ j → j < n → μ1 (56 + i) j = 0) ∧ (∀ j, j < k → μ1 (56 + i) j = μ (56 + i) j) ∧ ∀ a, ¬ a = 56 + i → μ1 a = μ a := by
  intro m
  induction m with
  | zero =>
    intro fuel k μ hk hf
    obtain ⟨f, rfl⟩ := pp_fu hf
    rw [f_X11_sheet_L71, pp_ite (pp_ge (a := k) (b := n) (by omega) (by omega)), if_pos (by omega)]
    exact ⟨μ, rfl, fun j h1 h2 => by omega, fun _ _ => rfl, fun _ _ => rfl⟩
  | succ m ih =>
    intro fuel k μ hk hf
    obtain ⟨f, rfl⟩ := pp_fu hf
    rw [f_X11_sheet_L71, pp_ite (pp_ge (a := k) (b := n) (by omega) (by omega)), if_neg (by omega), pp_ix (by omega) (by decide)]
    simp only [Option.bind_some]
    rw [pp_wr (by omega) (by decide), show pp_i k + 1 = pp_i (k + 1) from pp_add k 1]
    simp only [Option.bind_some]
    obtain ⟨μ1, i1, i2, i3, i4⟩ := ih f (k + 1) (g_set μ (56 + i) k 0) (by omega) (by omega)
    refine ⟨μ1, i1, fun j h1 h2 => ?_, fun j hj => ?_, fun a ha => (i4 a ha).trans (pp_rowN ha)⟩
    · by_cases c : j = k
      · rw [c, i3 k (by omega), pp_set_s]
      · exact i2 j (by omega) h2
    · rw [i3 j (by omega), pp_set_n (by omega)]
theorem pp_M_shL {N : Nat} {i : Nat} (hi : i < 4) : ∀ (m fuel k : Nat) (μ : g_M), k + m = 40 → m < fuel → ∃ μ1 : g_M, f_X12_sheet_L69 N fuel (pp_i i) (pp_i k) μ = some μ1 ∧ (∀ j, k ≤ j → j < 40 → μ1 14 (40 * i + j) = 0) ∧ (∀ j, ¬ (40 * i + k ≤ j ∧ j < 40 * i + 40) → μ1 14 j = μ 14 j) ∧ ∀ a, ¬ a = 14 → μ1 a = μ a := by
  intro m
  induction m with
  | zero =>
    intro fuel k μ hk hf
    obtain ⟨f, rfl⟩ := pp_fu hf
    rw [f_X12_sheet_L69, show (40 : Int32) = pp_i 40 from rfl, pp_ite (pp_ge (a := k) (b := 40) (by omega) (by omega)), if_pos (by omega)]
    exact ⟨μ, rfl, fun j h1 h2 => by omega, fun _ _ => rfl, fun _ _ => rfl⟩
  | succ m ih =>
    intro fuel k μ hk hf
    obtain ⟨f, rfl⟩ := pp_fu hf
    have e40 : (pp_i 40 * pp_i i + pp_i k : Int32) = pp_i (40 * i + k) := by
      rw [pp_mul, pp_add]
    rw [f_X12_sheet_L69, show (40 : Int32) = pp_i 40 from rfl, pp_ite (pp_ge (a := k) (b := 40) (by omega) (by omega)), if_neg (by omega), e40, pp_wr (by omega) (by decide), show pp_i k + 1 = pp_i (k + 1) from pp_add k 1]
    simp only [Option.bind_some]
    obtain ⟨μ1, i1, i2, i3, i4⟩ := ih f (k + 1) (g_set μ 14 (40 * i + k) 0) (by omega) (by omega)
    refine ⟨μ1, i1, fun j h1 h2 => ?_, fun j hj => ?_, fun a ha => (i4 a ha).trans (pp_rowN ha)⟩
    · by_cases c : j = k
      · rw [c, i3 _ (by omega), pp_set_s]
      · exact i2 j (by omega) h2
    · rw [i3 j (by omega), pp_set_n (by omega)]
theorem pp_shN {t L u Lu i z : Nat} {so : Int32} {μX μM μX1 μM1 : g_M} (h : pp_Rel t L u Lu μX μM) (hi : i < 4) (hz : z ≤ 40) (hso : so = -1 ∨ ∃ q : Nat, q ≤ 4 ∧ so = pp_i q)
    (x54 : ∀ j, μX1 53 j = if j = i then so else μX 53 j) (x55 : ∀ j, μX1 54 j = if j = i then pp_i z else μX 54 j) (x57 : ∀ j, j < z → μX1 (56 + i) j = 0) (xr : ∀ a, ¬ a = 53 → ¬ a = 54 → ¬ a = 56 + i → μX1 a = μX a)
    (m12 : ∀ j, μM1 12 j = if j = i then so else μM 12 j) (m13 : ∀ j, μM1 13 j = if j = i then pp_i z else μM 13 j) (m14 : ∀ j, j < z → μM1 14 (40 * i + j) = 0) (m14n : ∀ j, ¬ (40 * i ≤ j ∧ j < 40 * i + 40) → μM1 14 j = μM 14 j) (mr : ∀ a, ¬ a = 12 → ¬ a = 13 → ¬ a = 14 → μM1 a = μM a) : pp_Rel t L u Lu μX1 μM1 := by
  have hS := h.2.2.2.2.2.2.1
  refine pp_shR h (fun i2 hi2 => ?_) (fun a ha => xr a (by omega) (by omega) (by omega)) (fun a ha => mr a (by omega) (by omega) (by omega))
  by_cases c : i2 = i
  · subst c
    exact ⟨so, z, hz, hso, by rw [x54, if_pos rfl], by rw [m12, if_pos rfl], by rw [x55, if_pos rfl], by rw [m13, if_pos rfl], fun j hj => by rw [x57 j hj, m14 j hj]⟩
  · obtain ⟨so2, z2, g1, g2, g3, g4, g5, g6, g7⟩ := hS i2 hi2
    exact ⟨so2, z2, g1, g2, by rw [x54, if_neg c, g3], by rw [m12, if_neg c, g4], by rw [x55, if_neg c, g5], by rw [m13, if_neg c, g6], fun j hj => by rw [xr _ (by omega) (by omega) (by omega), m14n _ (by omega), g7 j hj]⟩
theorem pp_c_sheet {N t L u Lu : Nat} {μX μM : g_M} {a1 a2 a3 : Int32} (hN : 1000 ≤ N) (h : pp_Rel t L u Lu μX μM) : ∃ (v : Int32) (μX1 μM1 : g_M), f_X11_sheet N a1 a2 a3 μX = some (v, μX1) ∧ f_X12_sheet N a1 a2 a3 μM = some (v, μM1) ∧ pp_Rel t L u Lu μX1 μM1 := by
  have hS := h.2.2.2.2.2.2.1
  unfold f_X11_sheet f_X12_sheet f_X11_isSheet f_X12_isSheet
  rcases pp_btw (a := a1) (lo := 0) (hi := 3) (by decide) (by decide) with ⟨e1, e2⟩ | ⟨i, k1, k2, rfl, e1, e2⟩
  · have e1 : f_X11_isBetween a1 0 3 = 0 := e1
    have e2 : f_X12_isIn a1.toInt64 0 3 = 0 := e2
    rw [if_pos e1, if_pos e2]
    exact ⟨_, _, _, rfl, rfl, h⟩
  have e1 : f_X11_isBetween (pp_i i) 0 3 = 1 := e1
  have e2 : f_X12_isIn (pp_i i).toInt64 0 3 = 1 := e2
  have f3 : f_X12_isIn a2.toInt64 (-1) 4 = f_X11_isBetween a2 (-1) 4 := pp_M_in (lo := -1) (hi := 4)
  rw [if_neg (pp_n10 e1), if_neg (pp_n10 e2), f3]
  by_cases c3 : f_X11_isBetween a2 (-1) 4 = 0
  · rw [if_pos c3, if_pos c3]
    exact ⟨_, _, _, rfl, rfl, h⟩
  rw [if_neg c3, if_neg c3]
  have c4 : (-1 : Int32) ≤ a2 ∧ a2 ≤ 4 := Decidable.byContradiction fun q => c3 (by rw [pp_X_btw, if_neg q])
  have wr4 : ∀ (row : Nat) (μ : g_M) (x : Int32), g_wr μ row 4 (pp_i i) x = some (g_set μ row i x) := fun row μ x => pp_wr (by omega) (by decide)
  have st : ∀ (μ : g_M) (row j : Nat) (x : Int32), g_set μ row i x row j = if j = i then x else μ row j := fun μ row j x => by
    by_cases q : j = i
    · rw [if_pos q, q, pp_set_s]
    · rw [if_neg q, pp_set_n (fun e => q e.2)]
  by_cases c5 : a2 = -1
  · subst c5
    obtain ⟨μM1, m1, m2, m3, m4⟩ := pp_M_shL (N := N) (i := i) (by omega) 40 N 0 (g_set (g_set μM 12 i (-1)) 13 i 0) (by omega) (by omega)
    have m1 : f_X12_sheet_L69 N N (pp_i i) 0 (g_set (g_set μM 12 i (-1)) 13 i 0) = some μM1 := m1
    rw [if_pos rfl, if_pos (show (-1 : Int32) < 0 by decide), wr4, wr4]
    simp only [Option.bind_some]
    rw [if_neg (show ¬ ((-1 : Int32) ≥ 0) by decide), wr4, wr4]
    simp only [Option.bind_some]
    rw [m1]
    refine ⟨1, _, _, rfl, rfl, pp_shN (so := -1) (z := 0) h (show i < 4 by omega) (by decide) (Or.inl rfl) (fun j => ?_) (fun j => ?_) (fun j hj => by omega) (fun a h1 h2 h3 => ?_) (fun j => ?_) (fun j => ?_) (fun j hj => by omega) (fun j hj => ?_) (fun a h1 h2 h3 => ?_)⟩
    · rw [pp_rowN (by decide), st]
    · rw [st, pp_rowN (by decide)]
      rfl
    · rw [pp_rowN h2, pp_rowN h1]
    · rw [m4 12 (by decide), pp_rowN (by decide), st]
    · rw [m4 13 (by decide), st, pp_rowN (by decide)]
      rfl
    · rw [m3 j (by omega), pp_rowN (by decide), pp_rowN (by decide)]
    · rw [m4 a h3, pp_rowN h2, pp_rowN h1]
  have c6 : ¬ a2 < 0 := fun q => c5 (by
    apply Int32.toInt_inj.mp
    have q1 := Int32.lt_iff_toInt_lt.mp q
    have q2 := Int32.le_iff_toInt_le.mp c4.1
    have q3 : (0 : Int32).toInt = 0 := rfl
    have q4 : (-1 : Int32).toInt = -1 := rfl
    omega)
  obtain ⟨q, q1, q2, rfl⟩ := pp_of (lo := 0) (hi := 4) (Int32.not_lt.mp c6) c4.2 (by decide) (by decide)
  rw [if_neg c5, if_neg c6]
  by_cases d1 : a3 ≤ 40
  · rw [if_pos d1, if_pos d1]
    by_cases d2 : a3 ≥ 0
    · obtain ⟨n, n1, n2, rfl⟩ := pp_of (lo := 0) (hi := 40) d2 d1 (by decide) (by decide)
      obtain ⟨μX1, x1, x2, x3, x4⟩ := pp_X_shL (N := N) (i := i) (n := n) (by omega) n2 n N 0 (g_set (g_set μX 53 i (pp_i q)) 54 i (pp_i n)) (by omega) (by omega)
      have x1 : f_X11_sheet_L71 N N (pp_i i) (pp_i n) 0 (g_set (g_set μX 53 i (pp_i q)) 54 i (pp_i n)) = some μX1 := x1
      obtain ⟨μM1, m1, m2, m3, m4⟩ := pp_M_shL (N := N) (i := i) (by omega) 40 N 0 (g_set (g_set μM 12 i (pp_i q)) 13 i (pp_i n)) (by omega) (by omega)
      have m1 : f_X12_sheet_L69 N N (pp_i i) 0 (g_set (g_set μM 12 i (pp_i q)) 13 i (pp_i n)) = some μM1 := m1
      rw [if_pos d2, if_pos d2, wr4, wr4]
      simp only [Option.bind_some]
      rw [if_pos (show pp_i q ≥ 0 from (pp_le (a := 0) (by omega) (by omega)).mpr (Nat.zero_le _)), wr4, wr4]
      simp only [Option.bind_some]
      rw [x1, m1]
      refine ⟨1, _, _, rfl, rfl, pp_shN (so := pp_i q) (z := n) h (show i < 4 by omega) n2 (Or.inr ⟨q, q2, rfl⟩) (fun j => ?_) (fun j => ?_) (fun j hj => x2 j (Nat.zero_le _) hj) (fun a h1 h2 h3 => ?_) (fun j => ?_) (fun j => ?_) (fun j hj => m2 j (Nat.zero_le _) (by omega)) (fun j hj => ?_) (fun a h1 h2 h3 => ?_)⟩
      · rw [x4 53 (by omega), pp_rowN (by decide), st]
      · rw [x4 54 (by omega), st, pp_rowN (by decide)]
      · rw [x4 a h3, pp_rowN h2, pp_rowN h1]
      · rw [m4 12 (by decide), pp_rowN (by decide), st]
      · rw [m4 13 (by decide), st, pp_rowN (by decide)]
      · rw [m3 j (by omega), pp_rowN (by decide), pp_rowN (by decide)]
      · rw [m4 a h3, pp_rowN h2, pp_rowN h1]
    · rw [if_neg d2, if_neg d2]
      exact ⟨_, _, _, rfl, rfl, h⟩
  · rw [if_neg d1, if_neg d1]
    exact ⟨_, _, _, rfl, rfl, h⟩
theorem pp_c_write {t L u Lu : Nat} {μX μM : g_M} {a1 a2 a3 : Int32} (h : pp_Rel t L u Lu μX μM) : ∃ (v : Int32) (μX1 μM1 : g_M), f_X11_write a1 a2 a3 μX = some (v, μX1) ∧ f_X12_write a1 a2 a3 μM = some (v, μM1) ∧ pp_Rel t L u Lu μX1 μM1 := by
  have hS := h.2.2.2.2.2.2.1
  unfold f_X11_write f_X12_write f_X11_isSheet f_X12_isSheet
  rcases pp_btw (a := a1) (lo := 0) (hi := 3) (by decide) (by decide) with ⟨e1, e2⟩ | ⟨i, k1, k2, rfl, e1, e2⟩
  · have e1 : f_X11_isBetween a1 0 3 = 0 := e1
    have e2 : f_X12_isIn a1.toInt64 0 3 = 0 := e2
    rw [if_pos e1, if_pos e2]
    exact ⟨_, _, _, rfl, rfl, h⟩
  have e1 : f_X11_isBetween (pp_i i) 0 3 = 1 := e1
  have e2 : f_X12_isIn (pp_i i).toInt64 0 3 = 1 := e2
  obtain ⟨so, z, hz, hso, x54, m12, x55, m13, hc⟩ := hS i (by omega)
  have r54 : g_rd μX 53 4 (pp_i i) = some so := by rw [pp_rd (by omega) (by decide), x54]
  have r12 : g_rd μM 12 4 (pp_i i) = some so := by rw [pp_rd (by omega) (by decide), m12]
  have r13 : g_rd μM 13 4 (pp_i i) = some (pp_i z) := by rw [pp_rd (by omega) (by decide), m13]
  rw [if_neg (pp_n10 e1), if_neg (pp_n10 e2), r54, r12, r13]
  simp only [Option.bind_some]
  rcases hso with rfl | ⟨q, hq, rfl⟩
  · rw [if_pos (show (-1 : Int32) = -1 from rfl), if_neg (show ¬ ((-1 : Int32) ≥ 0) by decide)]
    exact ⟨_, _, _, rfl, rfl, h⟩
  have n1 : ¬ pp_i q = (-1 : Int32) := fun e => by
    have h := congrArg Int32.toInt e
    rw [pp_int (by omega), show (-1 : Int32).toInt = -1 from rfl] at h
    omega
  have f6 : f_X12_isIn a2.toInt64 0 (pp_i z - 1).toInt64 = f_X11_isBetween a2 0 (pp_i z - 1) := pp_M_in (lo := 0) (hi := pp_i z - 1)
  unfold f_X11_isItem
  rw [if_neg n1, if_pos (show pp_i q ≥ 0 from (pp_le (a := 0) (by omega) (by omega)).mpr (Nat.zero_le _)), pp_rd (by omega) (by decide), x55]
  simp only [Option.bind_some]
  rw [f6]
  rcases pp_itm (a := a2) (z := z) (by omega) with e5 | ⟨j, hj, rfl, e5⟩
  · rw [if_pos e5, if_pos e5]
    exact ⟨_, _, _, rfl, rfl, h⟩
  have e40 : (40 * pp_i i + pp_i j : Int32) = pp_i (40 * i + j) := by
    rw [show (40 * pp_i i : Int32) = pp_i (40 * i) from pp_mul 40 i, pp_add]
  have fin : ∀ x : Int32, pp_Rel t L u Lu (g_set μX (56 + i) j x) (g_set μM 14 (40 * i + j) x) := fun x => by
    refine pp_shR h (fun i2 hi2 => ?_) (fun a ha => pp_rowN (by omega)) (fun a ha => pp_rowN (by omega))
    obtain ⟨so2, z2, g1, g2, g3, g4, g5, g6, g7⟩ := hS i2 hi2
    refine ⟨so2, z2, g1, g2, by rw [pp_rowN (by omega), g3], by rw [pp_rowN (by decide), g4], by rw [pp_rowN (by omega), g5], by rw [pp_rowN (by decide), g6], fun j2 hj2 => ?_⟩
    by_cases c : i2 = i ∧ j2 = j
    · rw [c.1, c.2, pp_set_s, pp_set_s]
    · rw [pp_set_n (by omega), pp_set_n (by omega), g7 j2 hj2]
  have wM : ∀ x : Int32, g_wr μM 14 160 (pp_i (40 * i + j)) x = some (g_set μM 14 (40 * i + j) x) := fun x => pp_wr (by omega) (by decide)
  rw [if_neg (pp_n10 e5), if_neg (pp_n10 e5), pp_ix (by omega) (by decide), e40]
  simp only [Option.bind_some]
  rw [pp_wr (by omega) (by decide), wM, wM, wM, wM, wM]
  simp only [Option.bind_some]
  unfold f_X11_narrowed
  have hq5 : q = 0 ∨ q = 1 ∨ q = 2 ∨ q = 3 ∨ q = 4 := by omega
  rcases hq5 with rfl | rfl | rfl | rfl | rfl
  · rw [if_pos (show pp_i 0 = 0 from rfl), if_pos (show pp_i 0 = 0 from rfl)]
    exact ⟨_, _, _, rfl, rfl, fin _⟩
  · rw [if_neg (show ¬ pp_i 1 = 0 by decide), if_neg (show ¬ pp_i 1 = 0 by decide), if_pos (show pp_i 1 = 1 from rfl), if_pos (show pp_i 1 = 1 from rfl)]
    exact ⟨_, _, _, rfl, rfl, fin _⟩
  · rw [if_neg (show ¬ pp_i 2 = 0 by decide), if_neg (show ¬ pp_i 2 = 0 by decide), if_neg (show ¬ pp_i 2 = 1 by decide), if_neg (show ¬ pp_i 2 = 1 by decide), if_pos (show pp_i 2 = 2 from rfl), if_neg (show ¬ pp_i 2 = 4 by decide)]
    exact ⟨_, _, _, rfl, rfl, fin _⟩
  · rw [if_neg (show ¬ pp_i 3 = 0 by decide), if_neg (show ¬ pp_i 3 = 0 by decide), if_neg (show ¬ pp_i 3 = 1 by decide), if_neg (show ¬ pp_i 3 = 1 by decide), if_neg (show ¬ pp_i 3 = 2 by decide), if_pos (show pp_i 3 = 3 from rfl), if_neg (show ¬ pp_i 3 = 4 by decide)]
    exact ⟨_, _, _, rfl, rfl, fin _⟩
  · rw [if_neg (show ¬ pp_i 4 = 0 by decide), if_neg (show ¬ pp_i 4 = 0 by decide), if_neg (show ¬ pp_i 4 = 1 by decide), if_neg (show ¬ pp_i 4 = 1 by decide), if_neg (show ¬ pp_i 4 = 2 by decide), if_neg (show ¬ pp_i 4 = 3 by decide), if_pos (show pp_i 4 = 4 from rfl), if_pos (show pp_i 4 = 4 from rfl)]
    by_cases c0 : a3 = 0
    · rw [if_pos c0, if_pos c0]
      exact ⟨_, _, _, rfl, rfl, fin _⟩
    · rw [if_neg c0, if_neg c0]
      exact ⟨_, _, _, rfl, rfl, fin _⟩
