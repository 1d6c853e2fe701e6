/-! ===== nights by lot; times ===== -/
theorem pp_Sy_t {a b : Nat} (h : pp_SXt a b = false) : pp_Sy a b = false := by
  have q := of_decide_eq_false h
  exact decide_eq_false (by omega)
/-- a night passes in both -/
theorem pp_passR {N t L u Lu c : Nat} {μX μM : g_M} (hN : 1000 ≤ N) (h : pp_Rel t L u Lu μX μM) (hc : c < 64) (hto : pp_t (μM 1) < pp_e (μM 1)) : ∃ (v : Int32) (μX1 μM1 : g_M), f_X9_passNight N (pp_i c) μX = some (v, μX1) ∧ f_X12_goesBy N (pp_i c) μM = some (v, μM1) ∧ pp_Rel t L u Lu μX1 μM1 ∧ pp_F pp_Sy μX μX1 ∧ pp_F pp_SG μM μM1 ∧ pp_n (μM1 1) = pp_n (μM 1) := by
  obtain ⟨hI, hD, hR, hp⟩ := h.2.2.1
  have hn6 := hI.1.2
  obtain ⟨v, μX1, μM1, w1, i1, i2, i3, i4, i5, i6, i7, i8⟩ := pp_pass (N := N) (c := c) (by omega) hI hD rfl hc hto
  refine ⟨v, μX1, μM1, i1, i2, pp_tow h h.1 (pp_TWf h.1 h.2.2.1 i5 i6 (fun j hj => ?_) (i8 1 17 (by decide)) (fun a ha => i8.row (fun b => decide_eq_false (by omega)))) (i8.mono (fun a b => pp_Sy_t)) (i7.mono (fun a b => pp_SG_t)), i8, i7, by rw [i3]; rfl⟩
  rw [i3]
  exact pp_put_n (by omega) (by omega) (by omega)
theorem pp_seedR {t L u Lu : Nat} {μX μM : g_M} {z : Int32} (h : pp_Rel t L u Lu μX μM) : pp_Rel t L u Lu (g_set μX 1 16 z) (g_set μM 1 4 z) := by
  obtain ⟨hI, hD, hR, hp⟩ := h.2.2.1
  obtain ⟨g1, g2⟩ := pp_D4 (z := z) hI hD (μM := μM) rfl
  exact pp_tow h h.1 (pp_TWf h.1 h.2.2.1 g1 g2 (fun j hj => pp_set_n (by omega)) (pp_set_n (by decide)) (fun b hb => pp_rowN (by omega))) (pp_F.set (by decide)) (pp_F.set (pp_SMt_1 _))
theorem pp_c_lot {N t L u Lu : Nat} {μX μM : g_M} (hN : 1000 ≤ N) (h : pp_Rel t L u Lu μX μM) : ∃ (v : Int32) (μX1 μM1 : g_M), f_X11_lot N μX = some (v, μX1) ∧ f_X12_lot N μM = some (v, μM1) ∧ pp_Rel t L u Lu μX1 μM1 := by
  obtain ⟨hI, hD, hR, hp⟩ := h.2.2.1
  obtain ⟨d11, d12, d13, d14⟩ := pp_D12 hI hD
  obtain ⟨o1, o2⟩ := pp_over hI hD (μM := μM) rfl
  have d16 := hD.2.2.2.2.2
  have hn := hI.1.2
  unfold f_X11_lot f_X12_lot
  rw [o1, o2]
  by_cases c : pp_t (μM 1) < pp_e (μM 1)
  · have hR2 := pp_seedR (z := μM 1 4 * 1103515245 + 12345) h
    obtain ⟨en, et, ee, ew⟩ := pp_n46 (s := μM 1) (s1 := g_set μM 1 4 (μM 1 4 * 1103515245 + 12345) 1) (fun j h4 h6 => pp_set_n (by omega))
    obtain ⟨k, hk, ek⟩ := pp_lotn (μM 1 4 * 1103515245 + 12345) hn
    obtain ⟨v, μX1, μM1, i1, i2, i3, -⟩ := pp_passR (N := N) (c := pp_cc k) hN hR2 (pp_cc_64 (by omega)) (by rw [et, ee]; exact c)
    have h11 : g_set μX 1 16 (μM 1 4 * 1103515245 + 12345) 1 11 = pp_i (pp_n (μM 1)) := by
      rw [pp_set_n (by decide), d11]
    have h10 : g_set μM 1 4 (μM 1 4 * 1103515245 + 12345) 1 0 = pp_i (pp_n (μM 1)) := by
      rw [pp_set_n (by decide)]
      exact hI.1.1
    refine ⟨v, μX1, μM1, ?_, ?_, i3⟩
    · rw [if_pos c, if_pos rfl, d16]
      unfold f_X11_nextLot f_X9_actByLot
      simp only [Option.bind_some]
      rw [pp_set_s, h11, ek]
      simp only [Option.bind_some]
      rw [pp_X_chain (by omega), i1]
      rfl
    · rw [if_pos c, if_pos rfl]
      unfold f_X12_goesByLot
      simp only [Option.bind_some]
      rw [pp_set_s, h10, ek]
      simp only [Option.bind_some]
      rw [pp_M_gwe (by omega) i2]
      rfl
  · rw [if_neg c, if_neg (by decide), if_neg (by decide)]
    exact ⟨-4, μX, μM, rfl, rfl, h⟩
theorem pp_up4 {s : Nat → Int32} {z z1 : Int32} {t : Nat} {w : Nat → Nat} {sc : Int32} : pp_up (pp_put (pp_up s 4 z) t w sc) 4 z1 = pp_put (pp_up s 4 z1) t w sc := by
  have en : ∀ z : Int32, pp_n (pp_up s 4 z) = pp_n s := fun z => by unfold pp_n; rw [pp_up_n (by decide)]
  funext j
  by_cases c : j = 4
  · rw [c, pp_up_s, pp_put_n (by decide) (by decide) (by omega), pp_up_s]
  · rw [pp_up_n c]
    unfold pp_put
    rw [en, en, pp_up_n c, pp_up_n c]
/-- one night by lot in both, within times() -/
theorem pp_tmI {N : Nat} {s : Nat → Int32} (hN : 1000 ≤ N) (hI : pp_I s) {b1 b2 b4 b5 c1 c2 c3 c4 : Int32} : ∀ (m n1 n2 t : Nat) (z x : Int32) (w : Nat → Nat) (sc : Int32) (μX μM : g_M), t + m = pp_e s → m < n1 → m < n2 → (∀ o, o < pp_n s → w o < 16) → pp_D s μX → μM 1 = pp_put (pp_up s 4 z) t w sc →
    ∃ (z1 x1 : Int32) (μX1 μM1 : g_M) (t1 : Nat) (w1 : Nat → Nat) (sc1 : Int32), f_X11_times_L64 N n1 b1 b2 z b4 b5 (pp_i (pp_pk w (pp_n s))) x (pp_i t) μX = some (z1, x1, μX1) ∧ f_X12_times_L80 N n2 c1 c2 c3 c4 x μM = some (x1, μM1) ∧ μM1 1 = pp_put (pp_up s 4 z1) t1 w1 sc1 ∧ pp_F pp_Sc μX μX1 ∧ pp_F pp_SG μM μM1 := by
  have hn6 := hI.1.2
  have h16 := hI.2.2.2.2.2.2.1
  intro m
  induction m with
  | zero =>
    intro n1 n2 t z x w sc μX μM ht h1 h2 hw hD hM
    obtain ⟨n1, rfl⟩ := pp_fu h1
    obtain ⟨n2, rfl⟩ := pp_fu h2
    obtain ⟨d11, d12, d13, d14⟩ := pp_D12 hI hD
    have e4 : ∀ j, ¬ j = 4 → ¬ j = 6 → pp_up s 4 z j = s j := fun j h4 _ => pp_up_n h4
    obtain ⟨en, et, ee, ew⟩ := pp_n46 e4
    have ho := pp_M_over (pp_I46 e4 hI).2.2.2 (show t < 1000 by omega) hM
    rw [ee, if_neg (show ¬ t < pp_e s by omega)] at ho
    rw [f_X11_times_L64, f_X12_times_L80, d14, pp_ite (pp_ge (by omega) (by omega)), if_pos (by omega), ho, if_neg (show ¬ ((1 : Int32) = 0) by decide)]
    exact ⟨z, x, μX, μM, t, w, sc, rfl, rfl, hM, pp_F.refl, pp_F.refl⟩
  | succ m ih =>
    intro n1 n2 t z x w sc μX μM ht h1 h2 hw hD hM
    obtain ⟨n1, rfl⟩ := pp_fu h1
    obtain ⟨n2, rfl⟩ := pp_fu h2
    obtain ⟨d11, d12, d13, d14⟩ := pp_D12 hI hD
    obtain ⟨z1, hz⟩ : ∃ z1 : Int32, z1 = z * 1103515245 + 12345 := ⟨_, rfl⟩
    have e4 : ∀ j, ¬ j = 4 → ¬ j = 6 → pp_up s 4 z j = s j := fun j h4 _ => pp_up_n h4
    have e41 : ∀ j, ¬ j = 4 → ¬ j = 6 → pp_up s 4 z1 j = s j := fun j h4 _ => pp_up_n h4
    obtain ⟨en, et, ee, ew⟩ := pp_n46 e4
    obtain ⟨en1, et1, ee1, ew1⟩ := pp_n46 e41
    have hI1 := pp_I46 e41 hI
    have hC1 := pp_C46 e41 hD.1
    have ho := pp_M_over (pp_I46 e4 hI).2.2.2 (show t < 1000 by omega) hM
    rw [ee, if_pos (show t < pp_e s by omega)] at ho
    obtain ⟨k, hk, ek⟩ := pp_lotn z1 hn6
    have hw1 : ∀ o, o < pp_n (pp_up s 4 z1) → w o < 16 := fun o h => hw o (by rw [en1] at h; exact h)
    have hM1 : g_set μM 1 4 z1 1 = pp_put (pp_up s 4 z1) t w sc := by rw [pp_row, hM, pp_up4]
    obtain ⟨μX1, x1, x2⟩ := pp_X_after (N := N) (t := t) (c := pp_cc k) (w := w) (by omega) hI1.1 hI1.2.1 hC1 (by omega) (pp_cc_64 (by omega)) hw1
    have hw2 := pp_nw_16 (t := t) (c := pp_cc k) hI1.2.1 hw1
    have hwo := pp_X_worth (N := N) (t := t) (by omega) hI1.1 hI1.2.1 (hC1.F x2) (by omega) hw2
    obtain ⟨μM1, m1, m2, m3, m4⟩ := pp_M_gw (N := N) (a := k) (by omega) hI1.1 hI1.2.2.1 hI1.2.1 (by omega) (show t < 1000 by omega) hw1 hM1
    obtain ⟨z2, y, μX2, μM2, t2, w2, sc2, r1, r2, r3, r4, r5⟩ := ih n1 n2 (t + 1) z1 (x + pp_wo (pp_up s 4 z1) t (pp_nw (pp_up s 4 z1) t w (pp_cc k))) (pp_nw (pp_up s 4 z1) t w (pp_cc k)) _ μX1 μM1 (by omega) (by omega) (by omega) (fun o h => hw2 o (by rw [en1]; exact h)) (hD.F x2) m2
    rw [en1] at x1 hwo
    have hM4 : μM 1 4 = z := by
      rw [hM, pp_put_n (by decide) (by decide) (by omega), pp_up_s]
    have hM0 : g_set μM 1 4 z1 1 0 = pp_i (pp_n s) := by
      rw [pp_set_n (by decide), hM, pp_put_0, pp_up_n (by decide)]
      exact hI.1.1
    refine ⟨z2, y, μX2, μM2, t2, w2, sc2, ?_, ?_, r3, x2.trans r4, ?_⟩
    · rw [f_X11_times_L64, d14, pp_ite (pp_ge (by omega) (by omega)), if_neg (by omega)]
      unfold f_X11_nextLot f_X9_actByLot
      simp only [Option.bind_some]
      rw [d11, ← hz, ek]
      simp only [Option.bind_some]
      rw [pp_X_chain (by omega), x1]
      simp only [Option.bind_some]
      rw [hwo, show pp_i t + 1 = pp_i (t + 1) from pp_add t 1]
      simp only [Option.bind_some]
      exact r1
    · rw [f_X12_times_L80, ho, if_pos (show (0 : Int32) = 0 from rfl)]
      unfold f_X12_goesByLot
      rw [hM4, ← hz]
      simp only [Option.bind_some]
      rw [pp_set_s, hM0, ek]
      simp only [Option.bind_some]
      rw [m1]
      simp only [Option.bind_some]
      exact r2
    · exact ((pp_F.set (decide_eq_true (Or.inl rfl))).trans m4).trans r5
theorem pp_M_backS {N : Nat} {s : Nat → Int32} {μ : g_M} {z : Int32} {t : Nat} {w : Nat → Nat} {sc : Int32} (hN : 200 ≤ N) (hn : pp_n s ≤ 6) (hA : ∀ j, j < 38 → μ 3 j = s j) (h1 : μ 1 = pp_put (pp_up s 4 z) t w sc) : f_X12_laysBack N 0 μ = some (pp_rw μ 1 s) := by
  have en : pp_n (pp_up s 4 z) = pp_n s := by unfold pp_n; rw [pp_up_n (by decide)]
  have e := pp_M_back (N := N) (lev := 0) (μ := μ) hN (by decide)
  have e : f_X12_laysBack N 0 μ = _ := e
  rw [e]
  congr 2
  funext j
  by_cases c : j < 38
  · rw [if_pos c, show 38 * 0 + j = j by omega, hA j c]
  · rw [if_neg c, h1, pp_put_n (by omega) (by omega) (by omega), pp_up_n (by omega)]
theorem pp_tmO {N n : Nat} {s : Nat → Int32} {v : Int32} (hN : 1000 ≤ N) (hI : pp_I s) (hn : n ≤ 40) : ∀ (m n1 n2 k : Nat) (z r0 : Int32) (μX μM : g_M), k + m = n → m < n1 → m < n2 → pp_D s μX → (∀ j, j < 38 → μM 3 j = s j) → (k = 0 → z = s 4) → (∃ (t : Nat) (w : Nat → Nat) (sc : Int32), μM 1 = pp_put (pp_up s 4 z) t w sc) →
    ∃ (r z1 : Int32) (μX1 μM1 : g_M), f_X11_times_L37 N n1 (pp_i n) v z r0 (pp_i k) μX = some (r, μX1) ∧ f_X12_times_L36 N n2 (pp_i n) v r0 (pp_i k) μM = some (r, μM1) ∧ (∀ j, j < 38 → μM1 3 j = s j) ∧ (∃ (t : Nat) (w : Nat → Nat) (sc : Int32), μM1 1 = pp_put (pp_up s 4 z1) t w sc) ∧ pp_F pp_Sc μX μX1 ∧ pp_F pp_SG μM μM1 := by
  have hn6 := hI.1.2
  have h16 := hI.2.2.2.2.2.2.1
  intro m
  induction m with
  | zero =>
    intro n1 n2 k z r0 μX μM hk h1 h2 hD hA hz hM
    obtain ⟨n1, rfl⟩ := pp_fu h1
    obtain ⟨n2, rfl⟩ := pp_fu h2
    rw [f_X11_times_L37, f_X12_times_L36, pp_ite (pp_ge (a := k) (b := n) (by omega) (by omega)), if_pos (by omega), pp_ite (pp_ge (a := k) (b := n) (by omega) (by omega)), if_pos (by omega)]
    exact ⟨r0, z, μX, μM, rfl, rfl, hA, hM, pp_F.refl, pp_F.refl⟩
  | succ m ih =>
    intro n1 n2 k z r0 μX μM hk h1 h2 hD hA hz hM
    obtain ⟨n1, rfl⟩ := pp_fu h1
    obtain ⟨n2, rfl⟩ := pp_fu h2
    obtain ⟨d11, d12, d13, d14⟩ := pp_D12 hI hD
    obtain ⟨t, w, sc, hM⟩ := hM
    have e4 : ∀ j, ¬ j = 4 → ¬ j = 6 → pp_up s 4 z j = s j := fun j h4 _ => pp_up_n h4
    obtain ⟨en, et, ee, ew⟩ := pp_n46 e4
    have hb := pp_M_backS (N := N) (by omega) hn6 hA hM
    have hM4 : μM 1 4 = z := by
      rw [hM, pp_put_n (by decide) (by decide) (by omega), pp_up_s]
    have hrow : g_set (pp_rw μM 1 s) 1 4 z 1 = pp_put (pp_up s 4 z) (pp_t s) (pp_w s) (s 3) := by
      rw [pp_row, pp_rw_s]
      have q := pp_self (pp_I46 e4 hI).2.2.2
      rw [et, show pp_up s 4 z 3 = s 3 from pp_up_n (by decide)] at q
      rw [q, pp_put_put]
      exact pp_put_congr (fun o _ => ew o)
    obtain ⟨z1, x1, μX1, μM1, t1, w1, sc1, r1, r2, r3, r4, r5⟩ := pp_tmI (N := N) (b1 := pp_i n) (b2 := v) (b4 := r0) (b5 := pp_i k) (c1 := pp_i n) (c2 := v) (c3 := r0) (c4 := pp_i k) hN hI (pp_e s - pp_t s) N N (pp_t s) z 0 (pp_w s) (s 3) μX (g_set (pp_rw μM 1 s) 1 4 z) (by have := pp_tle hI; omega) (by omega) (by omega) (pp_w16 hI) hD hrow
    have hf : pp_F pp_SG μM (g_set (pp_rw μM 1 s) 1 4 z) := by
      intro a b q
      have q := of_decide_eq_false q
      rw [pp_set_n (by omega), pp_rw_n (by omega)]
    have hf1 := hf.trans r5
    have hA1 : ∀ j, j < 38 → μM1 3 j = s j := fun j hj => by
      rw [hf1 3 j (decide_eq_false (by omega))]
      exact hA j hj
    have hD1 := hD.F r4
    have hmz : g_set (pp_rw μM 1 s) 1 4 (if k = 0 then (pp_rw μM 1 s) 1 4 else μM 1 4) = g_set (pp_rw μM 1 s) 1 4 z := by
      by_cases c : k = 0
      · rw [if_pos c, pp_rw_s, hz c]
      · rw [if_neg c, hM4]
    have hMeq : f_X12_times_L36 N (n2 + 1) (pp_i n) v r0 (pp_i k) μM = if x1 < v then f_X12_times_L36 N n2 (pp_i n) v r0 (pp_i (k + 1)) μM1 else f_X12_times_L36 N n2 (pp_i n) v (r0 + 1) (pp_i (k + 1)) μM1 := by
      rw [f_X12_times_L36, pp_ite (pp_ge (a := k) (b := n) (by omega) (by omega)), if_neg (by omega), hb, show pp_i k + 1 = pp_i (k + 1) from pp_add k 1]
      simp only [Option.bind_some]
      rw [pp_ite (pp_e0 (a := k) (by omega))]
      by_cases c : k = 0
      · rw [if_pos c] at hmz ⊢
        rw [hmz, r2]
        simp only [Option.bind_some]
        rw [Int32.add_zero]
      · rw [if_neg c] at hmz ⊢
        rw [hmz, r2]
        simp only [Option.bind_some]
        rw [Int32.add_zero]
    have hXeq : f_X11_times_L37 N (n1 + 1) (pp_i n) v z r0 (pp_i k) μX = if x1 < v then f_X11_times_L37 N n1 (pp_i n) v z1 r0 (pp_i (k + 1)) μX1 else f_X11_times_L37 N n1 (pp_i n) v z1 (r0 + 1) (pp_i (k + 1)) μX1 := by
      rw [f_X11_times_L37, pp_ite (pp_ge (a := k) (b := n) (by omega) (by omega)), if_neg (by omega), d12, d13, r1, show pp_i k + 1 = pp_i (k + 1) from pp_add k 1]
      rfl
    rw [hMeq, hXeq]
    by_cases c : x1 < v
    · rw [if_pos c, if_pos c]
      obtain ⟨r, z2, μX2, μM2, q1, q2, q3, q4, q5, q6⟩ := ih n1 n2 (k + 1) z1 r0 μX1 μM1 (by omega) (by omega) (by omega) hD1 hA1 (fun q => absurd q (by omega)) ⟨t1, w1, sc1, r3⟩
      exact ⟨r, z2, μX2, μM2, q1, q2, q3, q4, r4.trans q5, hf1.trans q6⟩
    · rw [if_neg c, if_neg c]
      obtain ⟨r, z2, μX2, μM2, q1, q2, q3, q4, q5, q6⟩ := ih n1 n2 (k + 1) z1 (r0 + 1) μX1 μM1 (by omega) (by omega) (by omega) hD1 hA1 (fun q => absurd q (by omega)) ⟨t1, w1, sc1, r3⟩
      exact ⟨r, z2, μX2, μM2, q1, q2, q3, q4, r4.trans q5, hf1.trans q6⟩
theorem pp_c_times {N t L u Lu : Nat} {μX μM : g_M} {a a2 : Int32} (hN : 1000 ≤ N) (h : pp_Rel t L u Lu μX μM) : ∃ (v : Int32) (μX1 μM1 : g_M), f_X11_times N a a2 μX = some (v, μX1) ∧ f_X12_times N a a2 μM = some (v, μM1) ∧ pp_Rel t L u Lu μX1 μM1 := by
  obtain ⟨hI, hD, hR, hp⟩ := h.2.2.1
  have hn6 := hI.1.2
  obtain ⟨d11, d12, d13, d14⟩ := pp_D12 hI hD
  have d16 := hD.2.2.2.2.2
  unfold f_X11_times f_X12_times
  rcases pp_btw (a := a) (lo := 1) (hi := 40) (by decide) (by decide) with ⟨e1, e2⟩ | ⟨n, k1, k2, rfl, e1, e2⟩
  · have e1 : f_X11_isBetween a 1 40 = 0 := e1
    have e2 : f_X12_isIn a.toInt64 1 40 = 0 := e2
    rw [if_pos e1, if_pos e2]
    exact ⟨_, _, _, rfl, rfl, h⟩
  have e1 : f_X11_isBetween (pp_i n) 1 40 = 1 := e1
  have e2 : f_X12_isIn (pp_i n).toInt64 1 40 = 1 := e2
  rw [if_neg (pp_n10 e1), if_neg (pp_n10 e2)]
  rcases pp_btw (a := a2) (lo := 0) (hi := 999) (by decide) (by decide) with ⟨e3, e4⟩ | ⟨v, i1, i2, rfl, e3, e4⟩
  · have e3 : f_X11_isBetween a2 0 999 = 0 := e3
    have e4 : f_X12_isIn a2.toInt64 0 999 = 0 := e4
    rw [if_pos e3, if_pos e4]
    exact ⟨_, _, _, rfl, rfl, h⟩
  have e3 : f_X11_isBetween (pp_i v) 0 999 = 1 := e3
  have e4 : f_X12_isIn (pp_i v).toInt64 0 999 = 1 := e4
  obtain ⟨fa, a1, a2, a3⟩ := pp_A_aside (N := N) (lev := 0) (μ := μM) (by omega) (by decide)
  have a1 : f_X12_laysAside N 0 μM = some (pp_rw μM 3 fa) := a1
  have hA : ∀ j, j < 38 → pp_rw μM 3 fa 3 j = μM 1 j := fun j hj => by
    have q := a2 j hj
    rw [show 38 * 0 + j = j by omega] at q
    rw [pp_rw_s]
    exact q
  have hself : pp_up (μM 1) 4 (μM 1 4) = μM 1 := pp_up_id rfl
  obtain ⟨r, z1, μX1, μM1, q1, q2, q3, ⟨t1, w1, sc1, q4⟩, q5, q6⟩ := pp_tmO (N := N) (n := n) (s := μM 1) (v := pp_i v) hN hI k2 n N N 0 (μM 1 4) 0 μX (pp_rw μM 3 fa) (by omega) (by omega) (by omega) hD hA (fun _ => rfl) ⟨pp_t (μM 1), pp_w (μM 1), μM 1 3, by rw [pp_rw_n (by decide), hself]; exact pp_self hI.2.2.2⟩
  have hb := pp_M_backS (N := N) (by omega) hn6 q3 q4
  have q1 : f_X11_times_L37 N N (pp_i n) (pp_i v) (μM 1 4) 0 0 μX = some (r, μX1) := q1
  have q2 : f_X12_times_L36 N N (pp_i n) (pp_i v) 0 0 (pp_rw μM 3 fa) = some (r, μM1) := q2
  rw [if_neg (pp_n10 e3), if_neg (pp_n10 e4), d16, q1, a1]
  simp only [Option.bind_some]
  rw [q2]
  simp only [Option.bind_some]
  rw [hb]
  refine ⟨r, μX1, pp_rw μM1 1 (μM 1), rfl, rfl, pp_look h q5 (fun a b q => ?_) pp_rw_s⟩
  have q := of_decide_eq_false q
  rw [pp_rw_n (by omega), q6 a b (decide_eq_false (by omega)), pp_rw_n (by omega)]
