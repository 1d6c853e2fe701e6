/-! ===== goAll, wouldBe ===== -/
theorem pp_in64 {x lo hi : Int64} : f_X12_isIn x lo hi = if lo.toInt ≤ x.toInt ∧ x.toInt ≤ hi.toInt then 1 else 0 := by
  unfold f_X12_isIn
  rw [pp_ite (propext (lg_cmp_lt _ _))]
  by_cases c : x < lo
  · have q := Int64.lt_iff_toInt_lt.mp c
    rw [if_pos c, if_neg (by omega)]
  · have q : ¬ x.toInt < lo.toInt := fun z => c (Int64.lt_iff_toInt_lt.mpr z)
    rw [if_neg c, pp_ite (show (lg_cmp x hi > 0) = (hi < x) from propext (lg_cmp_gt _ _))]
    by_cases d : hi < x
    · have q2 := Int64.lt_iff_toInt_lt.mp d
      rw [if_pos d, if_neg (by omega)]
    · have q2 : ¬ hi.toInt < x.toInt := fun z => d (Int64.lt_iff_toInt_lt.mpr z)
      rw [if_neg d, if_pos (by omega)]
theorem pp_bm {x : Int} (h1 : -2147483648 ≤ x) (h2 : x < 2147483748) : (x < 2147483648 ∧ Int.bmod x (2 ^ 32) = x) ∨ (2147483648 ≤ x ∧ Int.bmod x (2 ^ 32) < 0) := by
  have e : Int.bmod x (2 ^ 32) = if x % 4294967296 < (4294967296 + 1) / 2 then x % 4294967296 else x % 4294967296 - 4294967296 := rfl
  rw [e]
  split <;> omega
theorem pp_bm64 {x : Int} (h1 : -9223372036854775808 ≤ x) (h2 : x < 9223372036854775808) : Int.bmod x (2 ^ 64) = x := by
  have e : Int.bmod x (2 ^ 64) = if x % 18446744073709551616 < (18446744073709551616 + 1) / 2 then x % 18446744073709551616 else x % 18446744073709551616 - 18446744073709551616 := rfl
  rw [e]
  split <;> omega
theorem pp_itk {a : Int32} {k z : Nat} (hk : k ≤ 20) (hz : z ≤ 40) : (f_X11_isBetween (a + pp_i k) 0 (pp_i z - 1) = 0 ∧ f_X12_isIn (a.toInt64 + (pp_i k).toInt64) 0 ((pp_i z).toInt64 - 1) = 0) ∨ (∃ j : Nat, j < z ∧ a + pp_i k = pp_i j ∧ f_X11_isBetween (a + pp_i k) 0 (pp_i z - 1) = 1 ∧ f_X12_isIn (a.toInt64 + (pp_i k).toInt64) 0 ((pp_i z).toInt64 - 1) = 1) := by
  have hl := a.minValue_le_toInt
  have hr := a.toInt_le
  have hl : -2147483648 ≤ a.toInt := hl
  have hr : a.toInt ≤ 2147483647 := hr
  have e1 : (a.toInt64 + (pp_i k).toInt64).toInt = a.toInt + k := by
    rw [Int64.toInt_add, Int32.toInt_toInt64, Int32.toInt_toInt64, pp_int (by omega)]
    exact pp_bm64 (by omega) (by omega)
  have e2 : ((pp_i z).toInt64 - 1).toInt = (z : Int) - 1 := by
    rw [Int64.toInt_sub, Int32.toInt_toInt64, pp_int (by omega), show (1 : Int64).toInt = 1 from rfl]
    exact pp_bm64 (by omega) (by omega)
  have e3 : (a + pp_i k).toInt = Int.bmod (a.toInt + k) (2 ^ 32) := by
    rw [Int32.toInt_add, pp_int (by omega)]
  rw [pp_in64, e1, e2, show (0 : Int64).toInt = 0 from rfl]
  rcases pp_itm (a := a + pp_i k) (z := z) (by omega) with e5 | ⟨j, hj, ej, e5⟩
  · rw [e5]
    refine Or.inl ⟨rfl, if_neg (fun q => ?_)⟩
    rcases pp_bm (x := a.toInt + k) (by omega) (by omega) with ⟨b1, b2⟩ | ⟨b1, b2⟩
    · rw [pp_X_btw, if_pos ⟨Int32.le_iff_toInt_le.mpr (by rw [e3, b2]; exact q.1), Int32.le_iff_toInt_le.mpr (by rw [e3, b2, pp_m1_int (by omega)]; exact q.2)⟩] at e5
      exact absurd e5 (by decide)
    · omega
  · refine Or.inr ⟨j, hj, ej, e5, if_pos ?_⟩
    rw [ej, pp_int (by omega)] at e3
    rcases pp_bm (x := a.toInt + k) (by omega) (by omega) with ⟨b1, b2⟩ | ⟨b1, b2⟩
    · omega
    · omega
theorem pp_act {s : Nat → Int32} {μX μM : g_M} {a : Int32} (hB : pp_B s) (h0 : μX 1 11 = s 0) (hs : μM 1 0 = s 0) : (f_X11_isAct a μX = 0 ∧ f_X12_isAct a μM = 0) ∨ (∃ o : Nat, o ≤ pp_n s ∧ a = pp_i o ∧ f_X11_isAct a μX = 1 ∧ f_X12_isAct a μM = 1) := by
  have hn := hB.2
  unfold f_X11_isAct f_X12_isAct
  rw [h0, hs, hB.1]
  rcases pp_btw (a := a) (lo := 0) (hi := pp_n s) (by decide) (by omega) with ⟨e1, e2⟩ | ⟨k, k1, k2, k3, e1, e2⟩
  · exact Or.inl ⟨e1, e2⟩
  · exact Or.inr ⟨k, k2, k3, e1, e2⟩
theorem pp_goL {N t L u Lu i n : Nat} {a2 : Int32} (hN : 1000 ≤ N) (hi : i < 4) (hn : n ≤ 20) : ∀ (m n1 n2 k : Nat) (x : Int32) (μX μM : g_M), k + m = n → m < n1 → m < n2 → pp_Rel t L u Lu μX μM →
    ∃ (v : Int32) (μX1 μM1 : g_M), pp_Rel t L u Lu μX1 μM1 ∧ ((f_X11_goAll_L41 N n1 (pp_i i) a2 (pp_i n) x (pp_i k) μX = some (.inl (v, μX1)) ∧ f_X12_goAll_L43 N n2 (pp_i i) a2 (pp_i n) x (pp_i k) μM = some (.inl (v, μM1))) ∨ (f_X11_goAll_L41 N n1 (pp_i i) a2 (pp_i n) x (pp_i k) μX = some (.inr (v, μX1)) ∧ f_X12_goAll_L43 N n2 (pp_i i) a2 (pp_i n) x (pp_i k) μM = some (.inr (v, μM1)))) := by
  intro m
  induction m with
  | zero =>
    intro n1 n2 k x μX μM hk h1 h2 h
    obtain ⟨n1, rfl⟩ := pp_fu h1
    obtain ⟨n2, rfl⟩ := pp_fu h2
    rw [f_X11_goAll_L41, f_X12_goAll_L43, pp_ite (pp_ge (a := k) (b := n) (by omega) (by omega)), if_pos (by omega), pp_ite (pp_ge (a := k) (b := n) (by omega) (by omega)), if_pos (by omega)]
    exact ⟨x, μX, μM, h, Or.inr ⟨rfl, rfl⟩⟩
  | succ m ih =>
    intro n1 n2 k x μX μM hk h1 h2 h
    obtain ⟨n1, rfl⟩ := pp_fu h1
    obtain ⟨n2, rfl⟩ := pp_fu h2
    obtain ⟨so, z, hz, hso, x54, m12, x55, m13, hc⟩ := h.2.2.2.2.2.2.1 i hi
    obtain ⟨hI, hD, hR, hp⟩ := h.2.2.1
    have hn6 := hI.1.2
    have r55 : g_rd μX 54 4 (pp_i i) = some (pp_i z) := by rw [pp_rd (by omega) (by decide), x55]
    have r13 : g_rd μM 13 4 (pp_i i) = some (pp_i z) := by rw [pp_rd (by omega) (by decide), m13]
    rw [f_X11_goAll_L41, f_X12_goAll_L43, pp_ite (pp_ge (a := k) (b := n) (by omega) (by omega)), if_neg (by omega), pp_ite (pp_ge (a := k) (b := n) (by omega) (by omega)), if_neg (by omega), r13]
    unfold f_X11_isItem
    rw [r55, show pp_i k + 1 = pp_i (k + 1) from pp_add k 1]
    simp only [Option.bind_some]
    rcases pp_itk (a := a2) (k := k) (z := z) (by omega) hz with ⟨e1, e2⟩ | ⟨j, hj, ej, e1, e2⟩
    · rw [if_pos e1, if_pos e2]
      exact ⟨_, _, _, h, Or.inl ⟨rfl, rfl⟩⟩
    have e40 : (40 * pp_i i + a2 + pp_i k : Int32) = pp_i (40 * i + j) := by
      rw [show (40 * pp_i i : Int32) = pp_i (40 * i) from pp_mul 40 i, Int32.add_assoc, ej, pp_add]
    rw [if_neg (pp_n10 e1), if_neg (pp_n10 e2), pp_ix hi (by decide), e40, ej]
    simp only [Option.bind_some]
    rw [pp_rd (by omega) (by decide), pp_rd (by omega) (by decide), ← hc j hj, Int32.add_zero]
    simp only [Option.bind_some]
    obtain ⟨o1, o2⟩ := pp_over hI hD (μM := μM) rfl
    rcases pp_act (a := μX (56 + i) j) hI.1 hD.1.1 (μM := μM) rfl with ⟨e3, e4⟩ | ⟨o, ho, eo, e3, e4⟩
    · rw [if_pos e3, if_pos e4]
      exact ih n1 n2 (k + 1) x μX μM (by omega) (by omega) (by omega) h
    · rw [if_neg (pp_n10 e3), if_neg (pp_n10 e4), o1, o2, eo]
      by_cases c : pp_t (μM 1) < pp_e (μM 1)
      · obtain ⟨v, μX1, μM1, i1, i2, i3, -⟩ := pp_passR (N := N) (c := pp_cc o) hN h (pp_cc_64 (by omega)) c
        rw [if_pos c, if_pos rfl, if_pos rfl, pp_X_chain (by omega), i1, pp_M_gwe (by omega) i2]
        simp only [Option.bind_some]
        exact ih n1 n2 (k + 1) (x + v) μX1 μM1 (by omega) (by omega) (by omega) i3
      · rw [if_neg c, if_neg (by decide), if_neg (by decide)]
        exact ih n1 n2 (k + 1) x μX μM (by omega) (by omega) (by omega) h
theorem pp_c_goAll {N t L u Lu : Nat} {μX μM : g_M} {a1 a2 a3 : Int32} (hN : 1000 ≤ N) (h : pp_Rel t L u Lu μX μM) : ∃ (v : Int32) (μX1 μM1 : g_M), f_X11_goAll N a1 a2 a3 μX = some (v, μX1) ∧ f_X12_goAll N a1 a2 a3 μM = some (v, μM1) ∧ pp_Rel t L u Lu μX1 μM1 := by
  have hS := h.2.2.2.2.2.2.1
  unfold f_X11_goAll f_X12_goAll f_X11_isSheet f_X12_isSheet
  rcases pp_btw (a := a1) (lo := 0) (hi := 3) (by decide) (by decide) with ⟨e1, e2⟩ | ⟨i, k1, k2, rfl, e1, e2⟩
  · have e1 : f_X11_isBetween a1 0 3 = 0 := e1
    have e2 : f_X12_isIn a1.toInt64 0 3 = 0 := e2
    rw [if_pos e1, if_pos e2]
    exact ⟨_, _, _, rfl, rfl, h⟩
  have e1 : f_X11_isBetween (pp_i i) 0 3 = 1 := e1
  have e2 : f_X12_isIn (pp_i i).toInt64 0 3 = 1 := e2
  rw [if_neg (pp_n10 e1), if_neg (pp_n10 e2)]
  rcases pp_btw (a := a3) (lo := 0) (hi := 20) (by decide) (by decide) with ⟨e3, e4⟩ | ⟨n, i1, i2, rfl, e3, e4⟩
  · have e3 : f_X11_isBetween a3 0 20 = 0 := e3
    have e4 : f_X12_isIn a3.toInt64 0 20 = 0 := e4
    rw [if_pos e3, if_pos e4]
    exact ⟨_, _, _, rfl, rfl, h⟩
  have e3 : f_X11_isBetween (pp_i n) 0 20 = 1 := e3
  have e4 : f_X12_isIn (pp_i n).toInt64 0 20 = 1 := e4
  obtain ⟨so, z, hz, hso, x54, m12, x55, m13, hc⟩ := hS i (by omega)
  obtain ⟨v, v1, v2, v3⟩ := pp_lk (a2 := 0) (by omega) hso x54 m12
  rw [if_neg (pp_n10 e3), if_neg (pp_n10 e4), v1, v2]
  simp only [Option.bind_some]
  rcases v3 with ⟨rfl, -⟩ | rfl | rfl
  · obtain ⟨w, μX1, μM1, g1, ⟨g2, g3⟩ | ⟨g2, g3⟩⟩ := pp_goL (N := N) (i := i) (n := n) (a2 := a2) hN (by omega) i2 n N N 0 0 μX μM (by omega) (by omega) (by omega) h
    · have g2 : f_X11_goAll_L41 N N (pp_i i) a2 (pp_i n) 0 0 μX = _ := g2
      have g3 : f_X12_goAll_L43 N N (pp_i i) a2 (pp_i n) 0 0 μM = _ := g3
      rw [if_pos (show (0 : Int32) ≥ 0 by decide), if_pos (show (0 : Int32) = 0 from rfl), g2, g3]
      exact ⟨_, _, _, rfl, rfl, g1⟩
    · have g2 : f_X11_goAll_L41 N N (pp_i i) a2 (pp_i n) 0 0 μX = _ := g2
      have g3 : f_X12_goAll_L43 N N (pp_i i) a2 (pp_i n) 0 0 μM = _ := g3
      rw [if_pos (show (0 : Int32) ≥ 0 by decide), if_pos (show (0 : Int32) = 0 from rfl), g2, g3]
      exact ⟨_, _, _, rfl, rfl, g1⟩
  · rw [if_neg (show ¬ ((-11 : Int32) ≥ 0) by decide), if_neg (show ¬ ((-11 : Int32) = 0) by decide)]
    exact ⟨_, _, _, rfl, rfl, h⟩
  · rw [if_neg (show ¬ ((-13 : Int32) ≥ 0) by decide), if_neg (show ¬ ((-13 : Int32) = 0) by decide)]
    exact ⟨_, _, _, rfl, rfl, h⟩
theorem pp_wbL {N i n : Nat} {s : Nat → Int32} {a2 : Int32} (hN : 1000 ≤ N) (hI : pp_I s) (hi : i < 4) (hn : n ≤ 20) : ∀ (m n1 n2 k : Nat) (x : Int32) (w : Nat → Nat) (sc : Int32) (μX μM : g_M), k + m = n → m < n1 → m < n2 → pp_D s μX → pp_SH μX μM → pp_t s + k ≤ pp_e s → (∀ o, o < pp_n s → w o < 16) → μM 1 = pp_put s (pp_t s + k) w sc →
    ∃ (v : Int32) (μX1 μM1 : g_M) (t1 : Nat) (w1 : Nat → Nat) (sc1 : Int32), pp_F pp_Sc μX μX1 ∧ pp_F pp_SG μM μM1 ∧ μM1 1 = pp_put s t1 w1 sc1 ∧ ((f_X11_wouldBe_L50 N n1 (pp_i i) a2 (pp_i n) (pp_i (pp_pk w (pp_n s))) x (pp_i k) μX = some (.inl (v, μX1)) ∧ f_X12_sumBy_L6 N n2 (pp_i i) a2 (pp_i n) x (pp_i k) μM = some (.inl (v, μM1))) ∨ (f_X11_wouldBe_L50 N n1 (pp_i i) a2 (pp_i n) (pp_i (pp_pk w (pp_n s))) x (pp_i k) μX = some (.inr (v, μX1)) ∧ f_X12_sumBy_L6 N n2 (pp_i i) a2 (pp_i n) x (pp_i k) μM = some (.inr (v, μM1)))) := by
  have hn6 := hI.1.2
  have h16 := hI.2.2.2.2.2.2.1
  intro m
  induction m with
  | zero =>
    intro n1 n2 k x w sc μX μM hk h1 h2 hD hS ht hw hM
    obtain ⟨n1, rfl⟩ := pp_fu h1
    obtain ⟨n2, rfl⟩ := pp_fu h2
    rw [f_X11_wouldBe_L50, f_X12_sumBy_L6, pp_ite (pp_ge (a := k) (b := n) (by omega) (by omega)), if_pos (by omega), pp_ite (pp_ge (a := k) (b := n) (by omega) (by omega)), if_pos (by omega)]
    exact ⟨x, μX, μM, _, w, sc, pp_F.refl, pp_F.refl, hM, Or.inr ⟨rfl, rfl⟩⟩
  | succ m ih =>
    intro n1 n2 k x w sc μX μM hk h1 h2 hD hS ht hw hM
    obtain ⟨n1, rfl⟩ := pp_fu h1
    obtain ⟨n2, rfl⟩ := pp_fu h2
    obtain ⟨so, z, hz, hso, x54, m12, x55, m13, hc⟩ := hS i hi
    obtain ⟨d11, d12, d13, d14⟩ := pp_D12 hI hD
    have r55 : g_rd μX 54 4 (pp_i i) = some (pp_i z) := by rw [pp_rd (by omega) (by decide), x55]
    have r13 : g_rd μM 13 4 (pp_i i) = some (pp_i z) := by rw [pp_rd (by omega) (by decide), m13]
    rw [f_X11_wouldBe_L50, f_X12_sumBy_L6, pp_ite (pp_ge (a := k) (b := n) (by omega) (by omega)), if_neg (by omega), pp_ite (pp_ge (a := k) (b := n) (by omega) (by omega)), if_neg (by omega), r13]
    unfold f_X11_isItem
    rw [r55, show pp_i k + 1 = pp_i (k + 1) from pp_add k 1]
    simp only [Option.bind_some]
    rcases pp_itk (a := a2) (k := k) (z := z) (by omega) hz with ⟨e1, e2⟩ | ⟨j, hj, ej, e1, e2⟩
    · rw [if_pos e1, if_pos e2]
      exact ⟨_, _, _, _, w, sc, pp_F.refl, pp_F.refl, hM, Or.inl ⟨rfl, rfl⟩⟩
    have e40 : (40 * pp_i i + a2 + pp_i k : Int32) = pp_i (40 * i + j) := by
      rw [show (40 * pp_i i : Int32) = pp_i (40 * i) from pp_mul 40 i, Int32.add_assoc, ej, pp_add]
    rw [if_neg (pp_n10 e1), if_neg (pp_n10 e2), pp_ix hi (by decide), e40, ej]
    simp only [Option.bind_some]
    rw [pp_rd (by omega) (by decide), pp_rd (by omega) (by decide), ← hc j hj, d13, d14, pp_add]
    simp only [Option.bind_some]
    have ho := pp_M_over hI.2.2.2 (show pp_t s + k < 1000 by omega) hM
    rcases pp_act (a := μX (56 + i) j) hI.1 hD.1.1 (μM := μM) (by rw [hM, pp_put_0]) with ⟨e3, e4⟩ | ⟨o, hoo, eo, e3, e4⟩
    · rw [if_pos e3, if_pos e4]
      exact ⟨_, _, _, _, w, sc, pp_F.refl, pp_F.refl, hM, Or.inl ⟨rfl, rfl⟩⟩
    · rw [if_neg (pp_n10 e3), if_neg (pp_n10 e4), ho, eo, pp_ite (pp_lt (a := pp_t s + k) (b := pp_e s) (by omega) (by omega))]
      by_cases c : pp_t s + k < pp_e s
      · obtain ⟨μX1, x1, x2⟩ := pp_X_after (N := N) (t := pp_t s + k) (c := pp_cc o) (w := w) (by omega) hI.1 hI.2.1 hD.1 (by omega) (pp_cc_64 (by omega)) hw
        have hw2 := pp_nw_16 (t := pp_t s + k) (c := pp_cc o) hI.2.1 hw
        have hwo := pp_X_worth (N := N) (t := pp_t s + k) (by omega) hI.1 hI.2.1 (hD.1.F x2) (by omega) hw2
        obtain ⟨μM1, m1, m2, m3, m4⟩ := pp_M_gw (N := N) (a := o) (by omega) hI.1 hI.2.2.1 hI.2.1 (by omega) (show pp_t s + k < 1000 by omega) hw hM
        have fX : ∀ a, ¬ a = 15 → μX1 a = μX a := fun a ha => x2.row (fun b => decide_eq_false ha)
        have fM : ∀ a, ¬ (a = 0 ∨ a = 1 ∨ a = 5) → μM1 a = μM a := fun a ha => m4.row (fun b => decide_eq_false (by omega))
        obtain ⟨v, μX2, μM2, t2, w2, sc2, r1, r2, r3, r4⟩ := ih n1 n2 (k + 1) (x + pp_wo s (pp_t s + k) (pp_nw s (pp_t s + k) w (pp_cc o))) (pp_nw s (pp_t s + k) w (pp_cc o)) _ μX1 μM1 (by omega) (by omega) (by omega) (hD.F x2) (hS.R (fun a h1 h2 => fX a (by omega)) (fM 12 (by omega)) (fM 13 (by omega)) (fM 14 (by omega))) (by omega) hw2 m2
        rw [if_pos c, if_pos c, if_pos (show (0 : Int32) = 0 from rfl), pp_X_chain (by omega), x1, m1]
        simp only [Option.bind_some]
        rw [hwo]
        simp only [Option.bind_some]
        exact ⟨v, μX2, μM2, t2, w2, sc2, x2.trans r1, m4.trans r2, r3, r4⟩
      · rw [if_neg c, if_neg c, if_neg (show ¬ ((1 : Int32) = 0) by decide)]
        exact ⟨_, _, _, _, w, sc, pp_F.refl, pp_F.refl, hM, Or.inl ⟨rfl, rfl⟩⟩
theorem pp_c_wouldBe {N t L u Lu : Nat} {μX μM : g_M} {a1 a2 a3 : Int32} (hN : 1000 ≤ N) (h : pp_Rel t L u Lu μX μM) : ∃ (v : Int32) (μX1 μM1 : g_M), f_X11_wouldBe N a1 a2 a3 μX = some (v, μX1) ∧ f_X12_wouldBe N a1 a2 a3 μM = some (v, μM1) ∧ pp_Rel t L u Lu μX1 μM1 := by
  have hS := h.2.2.2.2.2.2.1
  obtain ⟨hI, hD, hR, hp⟩ := h.2.2.1
  obtain ⟨d11, d12, d13, d14⟩ := pp_D12 hI hD
  unfold f_X11_wouldBe f_X12_wouldBe f_X11_isSheet f_X12_isSheet
  rcases pp_btw (a := a1) (lo := 0) (hi := 3) (by decide) (by decide) with ⟨e1, e2⟩ | ⟨i, k1, k2, rfl, e1, e2⟩
  · have e1 : f_X11_isBetween a1 0 3 = 0 := e1
    have e2 : f_X12_isIn a1.toInt64 0 3 = 0 := e2
    rw [if_pos e1, if_pos e2]
    exact ⟨_, _, _, rfl, rfl, h⟩
  have e1 : f_X11_isBetween (pp_i i) 0 3 = 1 := e1
  have e2 : f_X12_isIn (pp_i i).toInt64 0 3 = 1 := e2
  rw [if_neg (pp_n10 e1), if_neg (pp_n10 e2)]
  rcases pp_btw (a := a3) (lo := 0) (hi := 20) (by decide) (by decide) with ⟨e3, e4⟩ | ⟨n, i1, i2, rfl, e3, e4⟩
  · have e3 : f_X11_isBetween a3 0 20 = 0 := e3
    have e4 : f_X12_isIn a3.toInt64 0 20 = 0 := e4
    rw [if_pos e3, if_pos e4]
    exact ⟨_, _, _, rfl, rfl, h⟩
  have e3 : f_X11_isBetween (pp_i n) 0 20 = 1 := e3
  have e4 : f_X12_isIn (pp_i n).toInt64 0 20 = 1 := e4
  obtain ⟨so, z, hz, hso, x54, m12, x55, m13, hc⟩ := hS i (by omega)
  obtain ⟨v, v1, v2, v3⟩ := pp_lk (a2 := 0) (by omega) hso x54 m12
  rw [if_neg (pp_n10 e3), if_neg (pp_n10 e4), v1, v2]
  simp only [Option.bind_some]
  rcases v3 with ⟨rfl, -⟩ | rfl | rfl
  · obtain ⟨fa, f1, f2, f3⟩ := pp_A_aside (N := N) (lev := 0) (μ := μM) (by omega) (by decide)
    have f1 : f_X12_laysAside N 0 μM = some (pp_rw μM 3 fa) := f1
    obtain ⟨w, μX1, μM1, t1, w1, sc1, g1, g2, g3, g4⟩ := pp_wbL (N := N) (i := i) (n := n) (a2 := a2) hN hI (by omega) i2 n N N 0 0 (pp_w (μM 1)) (μM 1 3) μX (pp_rw μM 3 fa) (by omega) (by omega) (by omega) hD (hS.R (fun _ _ _ => rfl) (pp_rw_n (by decide)) (pp_rw_n (by decide)) (pp_rw_n (by decide))) (pp_tle hI) (pp_w16 hI) ((pp_rw_n (by decide)).trans (pp_self hI.2.2.2))
    obtain ⟨b1, b2, b3⟩ := pp_M_lay (N := N) (by omega) hI (pp_self hI.2.2.2) f2 g3 g2
    rw [if_pos (show (0 : Int32) ≥ 0 by decide), if_pos (show (0 : Int32) = 0 from rfl), f1, d12]
    simp only [Option.bind_some]
    unfold f_X12_sumBy
    have hl := pp_look h g1 (b2.mono (fun a b => pp_SL_t)) b3
    rcases g4 with ⟨g5, g6⟩ | ⟨g5, g6⟩
    · have g5 : f_X11_wouldBe_L50 N N (pp_i i) a2 (pp_i n) (pp_i (pp_pk (pp_w (μM 1)) (pp_n (μM 1)))) 0 0 μX = _ := g5
      have g6 : f_X12_sumBy_L6 N N (pp_i i) a2 (pp_i n) 0 0 (pp_rw μM 3 fa) = _ := g6
      rw [g5, g6]
      simp only [Option.bind_some]
      rw [b1]
      exact ⟨_, _, _, rfl, rfl, hl⟩
    · have g5 : f_X11_wouldBe_L50 N N (pp_i i) a2 (pp_i n) (pp_i (pp_pk (pp_w (μM 1)) (pp_n (μM 1)))) 0 0 μX = _ := g5
      have g6 : f_X12_sumBy_L6 N N (pp_i i) a2 (pp_i n) 0 0 (pp_rw μM 3 fa) = _ := g6
      rw [g5, g6]
      simp only [Option.bind_some]
      rw [b1]
      exact ⟨_, _, _, rfl, rfl, hl⟩
  · rw [if_neg (show ¬ ((-11 : Int32) ≥ 0) by decide), if_neg (show ¬ ((-11 : Int32) = 0) by decide)]
    exact ⟨_, _, _, rfl, rfl, h⟩
  · rw [if_neg (show ¬ ((-13 : Int32) ≥ 0) by decide), if_neg (show ¬ ((-13 : Int32) = 0) by decide)]
    exact ⟨_, _, _, rfl, rfl, h⟩
