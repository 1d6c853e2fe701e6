/-! ===== calls that look ahead: best, ways, ith, kept, bars, play ===== -/
theorem pp_finds {N wd n : Nat} {s : Nat → Int32} {μ : g_M} (hN : 200 ≤ N) (hI : pp_I s) (hwd : wd < 64) (hn : n ≤ 4) (h1 : μ 1 = s) :
    ∃ μ1 : g_M, f_X12_findsPlans N (pp_i n) (pp_i wd) μ = some μ1 ∧ μ1 1 = s ∧ pp_F pp_SMt μ μ1 ∧ μ1 0 22 = pp_i ((pp_S s wd n (pp_t s) (pp_w s)).1 - 1) ∧ μ1 0 23 = pp_i (pp_S s wd n (pp_t s) (pp_w s)).2.1 ∧
      μ1 0 24 = pp_i (pp_S s wd n (pp_t s) (pp_w s)).2.2.1.length ∧ (∀ i, i < (pp_S s wd n (pp_t s) (pp_w s)).2.2.1.length → μ1 10 i = pp_i ((pp_S s wd n (pp_t s) (pp_w s)).2.2.1.getD i 0)) ∧
      μ1 0 26 = pp_i (if (pp_S s wd n (pp_t s) (pp_w s)).2.2.2.1 < 9 then (pp_S s wd n (pp_t s) (pp_w s)).2.2.2.1 else 9) ∧ μ1 0 27 = pp_i (pp_S s wd n (pp_t s) (pp_w s)).2.2.2.2 := by
  obtain ⟨μ1, i1, i2, i3, i4⟩ := pp_M_finds (N := N) hN hI hwd hn h1
  obtain ⟨k1, k2, k3, k4, k5⟩ := pp_S_ok (wd := wd) hI.1.2 hI.2.1 n (pp_t s) (pp_w s)
  have c : (0 : Nat) < (pp_S s wd n (pp_t s) (pp_w s)).1 := k1
  have e1 : (pp_mg (0, 0, [], 9, 0) (pp_S s wd n (pp_t s) (pp_w s))).1 = (pp_S s wd n (pp_t s) (pp_w s)).1 := if_pos c
  have e2 : (pp_mg (0, 0, [], 9, 0) (pp_S s wd n (pp_t s) (pp_w s))).2.1 = (pp_S s wd n (pp_t s) (pp_w s)).2.1 := if_pos c
  have e3 : (pp_mg (0, 0, [], 9, 0) (pp_S s wd n (pp_t s) (pp_w s))).2.2.1 = (pp_S s wd n (pp_t s) (pp_w s)).2.2.1 := if_pos c
  have e4 : (pp_mg (0, 0, [], 9, 0) (pp_S s wd n (pp_t s) (pp_w s))).2.2.2.1 = if (pp_S s wd n (pp_t s) (pp_w s)).2.2.2.1 < 9 then (pp_S s wd n (pp_t s) (pp_w s)).2.2.2.1 else 9 := rfl
  have e5 : (pp_mg (0, 0, [], 9, 0) (pp_S s wd n (pp_t s) (pp_w s))).2.2.2.2 = (pp_S s wd n (pp_t s) (pp_w s)).2.2.2.2 := Nat.zero_or _
  obtain ⟨p1, p2, p3, p4, p5, p6, p7, -, -, -⟩ := i3
  rw [e1] at p2
  rw [e2] at p3
  rw [e3] at p4 p5
  rw [e4] at p6
  rw [e5] at p7
  refine ⟨μ1, i1, i2.trans h1, i4.mono (fun a b => pp_SPW_t), ?_, p3, p4, p5, p6, p7⟩
  rw [p2]
  exact pp_sub (b := 1) k1
theorem pp_c_best {N t L u Lu : Nat} {μX μM : g_M} {a : Int32} (hN : 1000 ≤ N) (h : pp_Rel t L u Lu μX μM) : ∃ (v : Int32) (μX1 μM1 : g_M), f_X11_best N a μX = some (v, μX1) ∧ f_X12_best N a μM = some (v, μM1) ∧ pp_Rel t L u Lu μX1 μM1 := by
  obtain ⟨hI, hD, hR, hp⟩ := h.2.2.1
  obtain ⟨d11, d12, d13, d14⟩ := pp_D12 hI hD
  unfold f_X11_best f_X2_bestWorth f_X12_best f_X11_isPlan f_X12_isLong
  rcases pp_btw (a := a) (lo := 0) (hi := 4) (by decide) (by decide) with ⟨e1, e2⟩ | ⟨k, k1, k2, rfl, e1, e2⟩
  · have e1 : f_X11_isBetween a 0 4 = 0 := e1
    have e2 : f_X12_isIn a.toInt64 0 4 = 0 := e2
    rw [if_pos e1, if_pos e2]
    exact ⟨_, _, _, rfl, rfl, h⟩
  · have e1 : f_X11_isBetween (pp_i k) 0 4 = 1 := e1
    have e2 : f_X12_isIn (pp_i k).toInt64 0 4 = 1 := e2
    obtain ⟨μX1, x1, x2⟩ := pp_X_most (N := N) (wd := 0) (by omega) hI k 6 (pp_t (μM 1)) (pp_w (μM 1)) μX k2 (by omega) (pp_tle hI) (pp_w16 hI) hD
    obtain ⟨μM1, m1, m2, m3, m4, -⟩ := pp_finds (N := N) (wd := 0) (μ := μM) (by omega) hI (by decide) k2 rfl
    have m1 : f_X12_findsPlans N (pp_i k) 0 μM = _ := m1
    rw [if_neg (pp_n10 e1), if_neg (pp_n10 e2), d12, d13, x1, m1]
    simp only [Option.bind_some]
    rw [m4]
    exact ⟨_, _, _, rfl, rfl, pp_look h x2 m3 m2⟩
theorem pp_c_ways {N t L u Lu : Nat} {μX μM : g_M} {a : Int32} (hN : 1000 ≤ N) (h : pp_Rel t L u Lu μX μM) : ∃ (v : Int32) (μX1 μM1 : g_M), f_X11_ways N a μX = some (v, μX1) ∧ f_X12_ways N a μM = some (v, μM1) ∧ pp_Rel t L u Lu μX1 μM1 := by
  obtain ⟨hI, hD, hR, hp⟩ := h.2.2.1
  obtain ⟨d11, d12, d13, d14⟩ := pp_D12 hI hD
  unfold f_X11_ways f_X2_bestWays f_X12_ways f_X11_isPlan f_X12_isLong
  rcases pp_btw (a := a) (lo := 0) (hi := 4) (by decide) (by decide) with ⟨e1, e2⟩ | ⟨k, k1, k2, rfl, e1, e2⟩
  · have e1 : f_X11_isBetween a 0 4 = 0 := e1
    have e2 : f_X12_isIn a.toInt64 0 4 = 0 := e2
    rw [if_pos e1, if_pos e2]
    exact ⟨_, _, _, rfl, rfl, h⟩
  · have e1 : f_X11_isBetween (pp_i k) 0 4 = 1 := e1
    have e2 : f_X12_isIn (pp_i k).toInt64 0 4 = 1 := e2
    obtain ⟨s1, s2, s3, s4, s5⟩ := pp_S_ok (wd := 0) hI.1.2 hI.2.1 k (pp_t (μM 1)) (pp_w (μM 1))
    obtain ⟨μX1, x1, x2⟩ := pp_X_most (N := N) (wd := 0) (by omega) hI k 6 (pp_t (μM 1)) (pp_w (μM 1)) μX k2 (by omega) (pp_tle hI) (pp_w16 hI) hD
    have hD1 := hD.F x2
    obtain ⟨f11, f12, f13, f14⟩ := pp_D12 hI hD1
    obtain ⟨μX2, y1, y2⟩ := pp_X_ways (N := N) (by omega) hI k 6 (pp_t (μM 1)) (pp_w (μM 1)) (((pp_S (μM 1) 0 k (pp_t (μM 1)) (pp_w (μM 1))).1 - 1 : Nat) : Int) μX1 k2 (by omega) (pp_tle hI) (pp_w16 hI) (by omega) (by omega) hD1
    rw [pp_ways_eq (wd := 0) hI.1.2 hI.2.1 k _ _ _ (by omega), if_pos (by omega), ← pp_oi] at y1
    obtain ⟨μM1, m1, m2, m3, m4, m5, -⟩ := pp_finds (N := N) (wd := 0) (μ := μM) (by omega) hI (by decide) k2 rfl
    have m1 : f_X12_findsPlans N (pp_i k) 0 μM = _ := m1
    rw [if_neg (pp_n10 e1), if_neg (pp_n10 e2), d12, d13, x1, m1]
    simp only [Option.bind_some]
    rw [m5, f12, f13, y1]
    exact ⟨_, _, _, rfl, rfl, pp_look h (x2.trans y2) m3 m2⟩
/-- the class goes on along the first best plan -/
theorem pp_X_ithL {N n : Nat} {s : Nat → Int32} {a1 : Int32} (hN : 200 ≤ N) (hI : pp_I s) (hn : n ≤ 4) : ∀ (m fuel k i : Nat) (w : Nat → Nat) (μ : g_M), k + m = i → i < n → pp_t s + i < pp_e s → a1 = pp_i n → m < fuel → (∀ o, o < pp_n s → w o < 16) → pp_D s μ →
    ∃ (w1 : Nat → Nat) (μ1 : g_M), f_X11_ith_L44 N fuel a1 (pp_i i) (pp_i (pp_pk w (pp_n s))) (pp_i k) μ = some (pp_i (pp_pk w1 (pp_n s)), μ1) ∧ pp_F pp_Sc μ μ1 ∧ (∀ o, o < pp_n s → w1 o < 16) ∧ (pp_S s 0 (n - k) (pp_t s + k) w).2.2.1.getD m 0 = (pp_S s 0 (n - i) (pp_t s + i) w1).2.2.1.headD 0 := by
  have h16 := hI.2.2.2.2.2.2.1
  intro m
  induction m with
  | zero =>
    intro fuel k i w μ hk hi ht ha hf hw hD
    obtain ⟨f, rfl⟩ := pp_fu hf
    have hk : k = i := by omega
    subst hk
    rw [f_X11_ith_L44, pp_ite (pp_ge (by omega) (by omega)), if_pos (Nat.le_refl _)]
    refine ⟨w, μ, rfl, pp_F.refl, hw, ?_⟩
    cases (pp_S s 0 (n - k) (pp_t s + k) w).2.2.1 <;> rfl
  | succ m ih =>
    intro fuel k i w μ hk hi ht ha hf hw hD
    obtain ⟨f, rfl⟩ := pp_fu hf
    obtain ⟨d11, d12, d13, d14⟩ := pp_D12 hI hD
    obtain ⟨q, hq⟩ : ∃ q, n - k = q + 1 := ⟨n - k - 1, by omega⟩
    obtain ⟨a, ha6, hA⟩ := pp_S_A (wd := 0) (m := q) (t := pp_t s + k) (w := w) hI.1.2 hI.2.1 (by omega)
    obtain ⟨μ1, x1, x2⟩ := pp_X_first (N := N) (wd := 0) (m := q) (t := pp_t s + k) (w := w) hN hI (by omega) (by omega) hw hD
    have hD1 := hD.F x2
    obtain ⟨f11, f12, f13, f14⟩ := pp_D12 hI hD1
    rw [hA] at x1
    have x1 : f_X2_firstBestAct N (pp_i (pp_pk w (pp_n s))) (pp_i (pp_t s + k)) (pp_i (q + 1)) μ = some (pp_i a, μ1) := x1
    have hn6 := hI.1.2
    obtain ⟨μ2, y1, y2⟩ := pp_X_after (N := N) (t := pp_t s + k) (c := pp_cc a) (w := w) hN hI.1 hI.2.1 hD1.1 (by omega) (pp_cc_64 (by omega)) hw
    obtain ⟨w1, μ3, z1, z2, z3, z4⟩ := ih f (k + 1) i (pp_nw s (pp_t s + k) w (pp_cc a)) μ2 (by omega) hi ht ha (by omega) (pp_nw_16 hI.2.1 hw) (hD1.F y2)
    refine ⟨w1, μ3, ?_, (x2.trans y2).trans z2, z3, ?_⟩
    · rw [f_X11_ith_L44, pp_ite (pp_ge (by omega) (by omega)), if_neg (by omega), d13, ha, pp_add, pp_sub (show k ≤ n by omega), hq, x1]
      simp only [Option.bind_some]
      rw [f13, pp_add, pp_X_chain (by omega), y1, show pp_i k + 1 = pp_i (k + 1) from pp_add k 1, ← ha]
      exact z1
    · rw [← z4, hq, hA, show n - (k + 1) = q by omega]
      rfl
theorem pp_X_nof {s : Nat → Int32} {μ : g_M} {n : Nat} (hI : pp_I s) (hD : pp_D s μ) (hn : n ≤ 4) : f_X9_nightsOf (pp_i n) μ = pp_i (if pp_e s - pp_t s < n then pp_e s - pp_t s else n) := by
  obtain ⟨d11, d12, d13, d14⟩ := pp_D12 hI hD
  have h16 := hI.2.2.2.2.2.2.1
  unfold f_X9_nightsOf
  rw [d13, d14, pp_sub (pp_tle hI)]
  exact pp_X_max0 (by omega) (by omega)
theorem pp_c_ith {N t L u Lu : Nat} {μX μM : g_M} {a a2 : Int32} (hN : 1000 ≤ N) (h : pp_Rel t L u Lu μX μM) : ∃ (v : Int32) (μX1 μM1 : g_M), f_X11_ith N a a2 μX = some (v, μX1) ∧ f_X12_ith N a a2 μM = some (v, μM1) ∧ pp_Rel t L u Lu μX1 μM1 := by
  obtain ⟨hI, hD, hR, hp⟩ := h.2.2.1
  obtain ⟨d11, d12, d13, d14⟩ := pp_D12 hI hD
  unfold f_X11_ith f_X12_ith f_X11_isPlan f_X12_isLong
  rcases pp_btw (a := a) (lo := 0) (hi := 4) (by decide) (by decide) with ⟨e1, e2⟩ | ⟨k, k1, k2, rfl, e1, e2⟩
  · have e1 : f_X11_isBetween a 0 4 = 0 := e1
    have e2 : f_X12_isIn a.toInt64 0 4 = 0 := e2
    rw [if_pos e1, if_pos e2]
    exact ⟨_, _, _, rfl, rfl, h⟩
  have e1 : f_X11_isBetween (pp_i k) 0 4 = 1 := e1
  have e2 : f_X12_isIn (pp_i k).toInt64 0 4 = 1 := e2
  rw [if_neg (pp_n10 e1), if_neg (pp_n10 e2)]
  rcases pp_btw (a := a2) (lo := 0) (hi := 3) (by decide) (by decide) with ⟨e3, e4⟩ | ⟨i, i1, i2, rfl, e3, e4⟩
  · have e3 : f_X11_isBetween a2 0 3 = 0 := e3
    have e4 : f_X12_isIn a2.toInt64 0 3 = 0 := e4
    rw [if_pos e3, if_pos e4]
    exact ⟨_, _, _, rfl, rfl, h⟩
  have e3 : f_X11_isBetween (pp_i i) 0 3 = 1 := e3
  have e4 : f_X12_isIn (pp_i i).toInt64 0 3 = 1 := e4
  obtain ⟨s1, s2, s3, s4, s5⟩ := pp_S_ok (wd := 0) hI.1.2 hI.2.1 k (pp_t (μM 1)) (pp_w (μM 1))
  obtain ⟨μM1, m1, m2, m3, m4, m5, m6, m7, -⟩ := pp_finds (N := N) (wd := 0) (μ := μM) (by omega) hI (by decide) k2 rfl
  have m1 : f_X12_findsPlans N (pp_i k) 0 μM = _ := m1
  rw [if_neg (pp_n10 e3), if_neg (pp_n10 e4), m1, pp_X_nof hI hD k2]
  simp only [Option.bind_some]
  have hle : (pp_S (μM 1) 0 k (pp_t (μM 1)) (pp_w (μM 1))).2.2.1.length ≤ 4 := by rw [s5]; split <;> omega
  rw [m6, pp_ite (pp_ge (by omega) (by omega)), ← s5, pp_ite (pp_lt (by omega) (by omega))]
  by_cases c : i < (pp_S (μM 1) 0 k (pp_t (μM 1)) (pp_w (μM 1))).2.2.1.length
  · have cl : i < k ∧ pp_t (μM 1) + i < pp_e (μM 1) := by
      rw [s5] at c
      revert c
      split <;> intro c <;> omega
    obtain ⟨w1, μX1, x1, x2, x3, x4⟩ := pp_X_ithL (N := N) (n := k) (by omega) hI k2 i N 0 i (pp_w (μM 1)) μX (by omega) cl.1 cl.2 rfl (by omega) (pp_w16 hI) hD
    have hD1 := hD.F x2
    obtain ⟨f11, f12, f13, f14⟩ := pp_D12 hI hD1
    obtain ⟨q, hq⟩ : ∃ q, k - i = q + 1 := ⟨k - i - 1, by omega⟩
    obtain ⟨μX2, y1, y2⟩ := pp_X_first (N := N) (wd := 0) (m := q) (t := pp_t (μM 1) + i) (w := w1) (by omega) hI (by omega) cl.2 x3 hD1
    have x1 : f_X11_ith_L44 N N (pp_i k) (pp_i i) (pp_i (pp_pk (pp_w (μM 1)) (pp_n (μM 1)))) 0 μX = _ := x1
    rw [if_pos c, if_neg (by omega), d12, x1, pp_rd (by omega) (by decide), m7 i c]
    simp only [Option.bind_some]
    rw [f13, pp_add, pp_sub (show i ≤ k by omega), hq, y1]
    rw [hq] at x4
    have x4 : (pp_S (μM 1) 0 k (pp_t (μM 1)) (pp_w (μM 1))).2.2.1.getD i 0 = _ := x4
    rw [x4]
    exact ⟨_, _, _, rfl, rfl, pp_look h (x2.trans y2) m3 m2⟩
  · rw [if_neg c, if_pos (by omega)]
    exact ⟨_, _, _, rfl, rfl, pp_look h pp_F.refl m3 m2⟩
