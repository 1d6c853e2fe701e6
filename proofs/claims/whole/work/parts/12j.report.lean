/-! ===== report, oven ===== -/
theorem pp_wl_cg2 {s s2 : Nat → Int32} {t o R : Nat} (hR : s 5 = pp_i R) (hR8 : R ≤ 8) (h5 : s2 5 = s 5) (h38 : ∀ j, (38 ≤ j ∧ j < 70) ∨ 94 ≤ j → s2 j = s j) (ho : ∀ i, i < 4 → s2 (8 + 5 * o + i) = s (8 + 5 * o + i)) : pp_wl s2 t o = pp_wl s t o := by
  have hv : ∀ v, pp_vl s2 t o v = pp_vl s t o v := by
    intro v
    unfold pp_vl
    rw [ho 1 (by decide), ho 2 (by decide), ho 3 (by decide)]
  have hrun : ∀ (m k : Nat) (x : Int64), pp_run s2 t o m k x = pp_run s t o m k x := by
    intro m
    induction m with
    | zero => exact fun _ _ => rfl
    | succ m ih =>
      intro k x
      rw [pp_run, pp_run, ih, h38 _ (by omega), h38 _ (by omega), h38 _ (by omega), hv, hv]
  have hL : ∀ (m r : Nat), r + m ≤ 8 → pp_wlL s2 t o m r = pp_wlL s t o m r := by
    intro m
    induction m with
    | zero => exact fun _ _ => rfl
    | succ m ih =>
      intro r hr
      rw [pp_wlL, pp_wlL, ih _ (by omega), ho 0 (by decide), h38 _ (by omega), h38 _ (by omega)]
      unfold pp_hd
      rw [h38 _ (by omega), h38 _ (by omega), hrun]
  unfold pp_wl
  rw [h5, hR, pp_nat (by omega), hL _ _ (by omega)]
theorem pp_RR.s2 {μ : g_M} {r L : Nat} {s s1 : Nat → Int32} (h : pp_RR μ r L s) (e : ∀ j, j = 5 ∨ j = 7 ∨ (38 ≤ j ∧ j < 70) ∨ 94 ≤ j → s1 j = s j) : pp_RR μ r L s1 := by
  have q : pp_q s1 = pp_q s := funext fun k => e _ (by omega)
  obtain ⟨R, S, h1, h2, h3, h4, h5, h6, h7, hr, hk⟩ := h
  refine ⟨R, S, h1, h2, (e 5 (by omega)).trans h3, (e 7 (by omega)).trans h4, h5, h6, h7, fun i hi => ?_, fun k hk2 => ?_⟩
  · obtain ⟨b, e2, k, d, g1, g2, g3, g4, g5, g6, g7, g8, g9, g10, g11, g12, g13, g14⟩ := hr i hi
    refine ⟨b, e2, k, d, g1, g2, g3, g4, (e _ (by omega)).trans g5, (e _ (by omega)).trans g6, (e _ (by omega)).trans g7, (e _ (by omega)).trans g8, g9, g10, g11, ?_, g13, fun j hj => (e _ (by omega)).trans (g14 j hj)⟩
    rw [q]
    exact g12
  · obtain ⟨g1, g2, g3, a, b, g4, g5, g6, g7⟩ := hk k hk2
    exact ⟨g1.trans (e _ (by omega)).symm, g2.trans (e _ (by omega)).symm, g3.trans (e _ (by omega)).symm, a, b, g4, g5, (e _ (by omega)).trans g6, (e _ (by omega)).trans g7⟩
/-- cells of the reports don't matter to the town -/
theorem pp_ID6 {s s1 : Nat → Int32} {μ μ1 : g_M} (hI : pp_I s) (hD : pp_D s μ) (e : ∀ j, ¬ j = 6 → ¬ (70 ≤ j ∧ j < 94) → s1 j = s j) (f : ∀ b, 11 ≤ b → b ≤ 16 → μ1 1 b = μ 1 b) (r : ∀ a, 9 ≤ a → a ≤ 14 → μ1 a = μ a) : pp_I s1 ∧ pp_D s1 μ1 := by
  have en : pp_n s1 = pp_n s := by unfold pp_n; rw [e 0 (by decide) (by decide)]
  have et : pp_t s1 = pp_t s := by unfold pp_t; rw [e 1 (by decide) (by decide)]
  have ee : pp_e s1 = pp_e s := by unfold pp_e; rw [e 2 (by decide) (by decide)]
  obtain ⟨hB, hO, hRR, hT⟩ := hI
  have hB2 := hB.2
  have ew : ∀ o, o < pp_n s → pp_w s1 o = pp_w s o := fun o ho => by unfold pp_w; rw [en, e _ (by omega) (by omega)]
  obtain ⟨t1, t2, t3, t4, t5, t6⟩ := hT
  obtain ⟨hC, x12, x13, x14, x15, x16⟩ := hD
  obtain ⟨c1, c2, c3, c4⟩ := hC
  obtain ⟨R, S, h1, h2, h3, h4, hr⟩ := hRR
  refine ⟨⟨⟨?_, ?_⟩, fun o ho => ?_, ⟨R, S, h1, h2, by rw [e _ (by omega) (by omega), h3], by rw [e _ (by omega) (by omega), h4], fun r hr2 => ?_⟩, ?_⟩, ⟨⟨?_, fun o ho => ?_, fun o k2 ho hk hne => ?_, fun t2 o ht2 ho => ?_⟩, ?_, ?_, ?_, ?_, ?_⟩⟩
  · rw [en, e 0 (by decide) (by decide)]
    exact hB.1
  · rw [en]
    exact hB2
  · rw [en] at ho
    obtain ⟨kd, a, p, f, g1, g2, g3, g4, g5, g6, g7, g8, g9, g10⟩ := hO o ho
    exact ⟨kd, a, p, f, g1, g2, g3, g4, g5, g6, by rw [e _ (by omega) (by omega), g7], by rw [e _ (by omega) (by omega), g8], by rw [e _ (by omega) (by omega), g9], by rw [e _ (by omega) (by omega), g10]⟩
  · obtain ⟨b, e5, k5, d, g1, g2, g3, g4, g5, g6, g7, g8⟩ := hr r hr2
    exact ⟨b, e5, k5, d, g1, g2, g3, g4, by rw [e _ (by omega) (by omega), g5], by rw [e _ (by omega) (by omega), g6], by rw [e _ (by omega) (by omega), g7], by rw [e _ (by omega) (by omega), g8]⟩
  · refine ⟨by rw [et, e 1 (by decide) (by decide), t1], by rw [ee, e 2 (by decide) (by decide), t2], by rw [ee]; exact t3, by rw [ee]; exact t4, by rw [et, ee]; exact t5, fun o ho => ?_⟩
    rw [en] at ho
    rw [ew o ho, e _ (by omega) (by omega)]
    exact t6 o ho
  · rw [f 11 (by decide) (by decide), e 0 (by decide) (by decide)]
    exact c1
  · rw [en] at ho
    rw [r 9 (by decide) (by decide), r 10 (by decide) (by decide), r 11 (by decide) (by decide), r 12 (by decide) (by decide), e _ (by omega) (by omega), e _ (by omega) (by omega), e _ (by omega) (by omega), e _ (by omega) (by omega)]
    exact c2 o ho
  · rw [en] at ho hk
    rw [r 13 (by decide) (by decide), c3 o k2 ho hk hne]
    unfold pp_ws
    rw [e _ (by omega) (by omega), e _ (by omega) (by omega), e _ (by omega) (by omega), e _ (by omega) (by omega), e _ (by omega) (by omega)]
  · rw [en] at ho
    rw [r 14 (by decide) (by decide), c4 t2 o ht2 ho]
    exact (pp_wl_cg2 h3 h1 (e _ (by omega) (by omega)) (fun j hj => e _ (by omega) (by omega)) (fun j hj => e _ (by omega) (by omega))).symm
  · rw [f 12 (by decide) (by decide), x12, en]
    exact congrArg pp_i (pp_pk_congr (fun o ho => (ew o ho).symm))
  · rw [f 13 (by decide) (by decide), x13, e 1 (by decide) (by decide)]
  · rw [f 14 (by decide) (by decide), x14, e 2 (by decide) (by decide)]
  · rw [f 15 (by decide) (by decide), x15, e 3 (by decide) (by decide)]
  · rw [f 16 (by decide) (by decide), x16, e 4 (by decide) (by decide)]
theorem pp_c_report {t L u Lu : Nat} {μX μM : g_M} {a1 a2 a3 a4 : Int32} (h : pp_Rel t L u Lu μX μM) : ∃ (v : Int32) (μX1 μM1 : g_M), f_X11_report a1 a2 a3 a4 μX = some (v, μX1) ∧ f_X12_report a1 a2 a3 a4 μM = some (v, μM1) ∧ pp_Rel t L u Lu μX1 μM1 := by
  obtain ⟨hI, hD, hR, c, hp⟩ := h.2.2.1
  obtain ⟨p1, p2, p3, p4⟩ := hp
  unfold f_X11_report f_X12_report f_X11_isKind f_X11_isPlace f_X11_isFelt
  rcases pp_btw (a := a1) (lo := 1) (hi := 5) (by decide) (by decide) with ⟨e1, e2⟩ | ⟨k, k1, k2, rfl, e1, e2⟩
  · have e1 : f_X11_isBetween a1 1 5 = 0 := e1
    have e2 : f_X12_isIn a1.toInt64 1 5 = 0 := e2
    rw [if_pos e1, if_pos e2]
    exact ⟨_, _, _, rfl, rfl, h⟩
  have e1 : f_X11_isBetween (pp_i k) 1 5 = 1 := e1
  have e2 : f_X12_isIn (pp_i k).toInt64 1 5 = 1 := e2
  rw [if_neg (pp_n10 e1), if_neg (pp_n10 e2)]
  rcases pp_btw (a := a2) (lo := 0) (hi := 15) (by decide) (by decide) with ⟨e3, e4⟩ | ⟨p, i1, i2, rfl, e3, e4⟩
  · have e3 : f_X11_isBetween a2 0 15 = 0 := e3
    have e4 : f_X12_isIn a2.toInt64 0 15 = 0 := e4
    rw [if_pos e3, if_pos e4]
    exact ⟨_, _, _, rfl, rfl, h⟩
  have e3 : f_X11_isBetween (pp_i p) 0 15 = 1 := e3
  have e4 : f_X12_isIn (pp_i p).toInt64 0 15 = 1 := e4
  have f3 : f_X12_isIn a3.toInt64 (-20) 20 = f_X11_isBetween a3 (-20) 20 := pp_M_in (lo := -20) (hi := 20)
  have f4 : f_X12_isIn a4.toInt64 a3.toInt64 20 = f_X11_isBetween a4 a3 20 := pp_M_in (lo := a3) (hi := 20)
  rw [if_neg (pp_n10 e3), if_neg (pp_n10 e4), f3, f4, pp_X_btw, pp_X_btw, pp_X_btw]
  by_cases q3 : (-20 : Int32) ≤ a3 ∧ a3 ≤ 20
  · rw [if_pos q3, if_neg (show ¬ ((1 : Int32) = 0) by decide), if_neg (show ¬ ((1 : Int32) = 0) by decide)]
    by_cases q4 : a3 ≤ a4 ∧ a4 ≤ 20
    · rw [if_pos q4, if_pos (show (-20 : Int32) ≤ a4 ∧ a4 ≤ 20 from ⟨Int32.le_trans q3.1 q4.1, q4.2⟩), if_neg (show ¬ ((1 : Int32) = 0) by decide), if_neg (show ¬ ((1 : Int32) = 0) by decide), if_pos (show a4 ≥ a3 from q4.1), p2, p3, show (6 : Int32) = pp_i 6 from rfl, pp_ite (pp_lt (a := c) (b := 6) (by omega) (by omega)), pp_ite (pp_eq (a := c) (b := 6) (by omega) (by omega))]
      by_cases q6 : c = 6
      · rw [if_neg (show ¬ c < 6 by omega), if_pos q6]
        exact ⟨_, _, _, rfl, rfl, h⟩
      · rw [if_pos (show c < 6 by omega), if_neg q6]
        unfold f_X9_addReport
        rw [p3, show (4 * pp_i c : Int32) = pp_i (4 * c) from pp_mul 4 c, show (70 + pp_i (4 * c) : Int32) = pp_i (70 + 4 * c) from pp_add 70 (4 * c), show pp_i c * 4 = pp_i (4 * c) from (pp_mul c 4).trans (congrArg pp_i (Nat.mul_comm c 4))]
        simp only [Option.bind_some]
        rw [show pp_i (4 * c) + 1 = pp_i (4 * c + 1) from pp_add _ 1, show pp_i (4 * c) + 2 = pp_i (4 * c + 2) from pp_add _ 2, show pp_i (4 * c) + 3 = pp_i (4 * c + 3) from pp_add _ 3, show pp_i (70 + 4 * c) + 1 = pp_i (70 + 4 * c + 1) from pp_add _ 1, show pp_i (70 + 4 * c) + 2 = pp_i (70 + 4 * c + 2) from pp_add _ 2, show pp_i (70 + 4 * c) + 3 = pp_i (70 + 4 * c + 3) from pp_add _ 3, pp_wr (by omega) (by decide), pp_wr (by omega) (by decide)]
        simp only [Option.bind_some]
        rw [pp_wr (by omega) (by decide), pp_wr (by omega) (by decide)]
        simp only [Option.bind_some]
        rw [pp_wr (by omega) (by decide), pp_wr (by omega) (by decide)]
        simp only [Option.bind_some]
        rw [pp_wr (by omega) (by decide), pp_wr (by omega) (by decide)]
        simp only [Option.bind_some]
        generalize hX4 : g_set (g_set (g_set (g_set μX 17 (4 * c) (pp_i k)) 17 (4 * c + 1) (pp_i p)) 17 (4 * c + 2) a3) 17 (4 * c + 3) a4 = μX4
        generalize hM4 : g_set (g_set (g_set (g_set μM 1 (70 + 4 * c) (pp_i k)) 1 (70 + 4 * c + 1) (pp_i p)) 1 (70 + 4 * c + 2) a3) 1 (70 + 4 * c + 3) a4 = μM4
        have xr : ∀ a, ¬ a = 17 → μX4 a = μX a := fun a ha => by rw [← hX4, pp_rowN ha, pp_rowN ha, pp_rowN ha, pp_rowN ha]
        have mr : ∀ a, ¬ a = 1 → μM4 a = μM a := fun a ha => by rw [← hM4, pp_rowN ha, pp_rowN ha, pp_rowN ha, pp_rowN ha]
        have mc : ∀ j, ¬ (70 + 4 * c ≤ j ∧ j < 70 + 4 * c + 4) → μM4 1 j = μM 1 j := fun j hj => by rw [← hM4, pp_set_n (by omega), pp_set_n (by omega), pp_set_n (by omega), pp_set_n (by omega)]
        have xc : ∀ j, j < 4 * c → μX4 17 j = μX 17 j := fun j hj => by rw [← hX4, pp_set_n (by omega), pp_set_n (by omega), pp_set_n (by omega), pp_set_n (by omega)]
        have e61 : μM4 1 6 = pp_i c := (mc 6 (by omega)).trans p2
        have e171 : μX4 1 17 = pp_i c := by rw [xr 1 (by decide)]; exact p3
        rw [pp_set_s, pp_set_s, e61, e171, show pp_i c + 1 = pp_i (c + 1) from pp_add c 1]
        have e : ∀ j, ¬ j = 6 → ¬ (70 ≤ j ∧ j < 94) → g_set μM4 1 6 (pp_i (c + 1)) 1 j = μM 1 j := fun j h6 h7 => by rw [pp_set_n (by omega), mc j (by omega)]
        obtain ⟨g1, g2⟩ := pp_ID6 (μ1 := g_set μX4 1 17 (pp_i (c + 1))) hI hD e (fun b h1 h2 => by rw [pp_set_n (by omega), xr 1 (by decide)]) (fun a h1 h2 => by rw [pp_rowN (by omega), xr a (by omega)])
        refine ⟨_, _, _, rfl, rfl, pp_tow h h.1 ⟨g1, g2, (hR.s2 (fun j hj => e j (by omega) (by omega))).F (fun a ha hb => by
          have := pp_rk_no h.1 ha hb
          rw [pp_rowN (by omega), xr a (by omega)]), c + 1, by omega, pp_set_s, pp_set_s, fun i hi => ?_⟩ (fun a b q => ?_) (fun a b q => ?_)⟩
        · rw [pp_rowN (show (17 : Nat) ≠ 1 by decide), pp_set_n (by omega), pp_set_n (by omega), pp_set_n (by omega), pp_set_n (by omega)]
          by_cases ic : i = c
          · subst ic
            refine ⟨k, p, a3, a4, k1, k2, i2, ?_, ?_, ?_, ?_, ?_, ?_, ?_, ?_⟩
            · rw [← hM4, pp_set_n (by omega), pp_set_n (by omega), pp_set_n (by omega), pp_set_s]
            · rw [← hM4, pp_set_n (by omega), pp_set_n (by omega), pp_set_s]
            · rw [← hM4, pp_set_n (by omega), pp_set_s]
            · rw [← hM4, pp_set_s]
            · rw [← hX4, pp_set_n (by omega), pp_set_n (by omega), pp_set_n (by omega), pp_set_s]
            · rw [← hX4, pp_set_n (by omega), pp_set_n (by omega), pp_set_s]
            · rw [← hX4, pp_set_n (by omega), pp_set_s]
            · rw [← hX4, pp_set_s]
          · rw [mc _ (by omega), mc _ (by omega), mc _ (by omega), mc _ (by omega), xc _ (by omega), xc _ (by omega), xc _ (by omega), xc _ (by omega)]
            exact p4 i (by omega)
        · have q := of_decide_eq_false q
          rw [pp_set_n (by omega), xr a (by omega)]
        · have q := of_decide_eq_false q
          rw [pp_set_n (by omega), mr a (by omega)]
    · rw [if_neg q4, if_pos (show (0 : Int32) = 0 from rfl)]
      by_cases q5 : (-20 : Int32) ≤ a4 ∧ a4 ≤ 20
      · rw [if_pos q5, if_neg (show ¬ ((1 : Int32) = 0) by decide), if_neg (show ¬ (a4 ≥ a3) from fun q => q4 ⟨q, q5.2⟩)]
        exact ⟨_, _, _, rfl, rfl, h⟩
      · rw [if_neg q5, if_pos (show (0 : Int32) = 0 from rfl)]
        exact ⟨_, _, _, rfl, rfl, h⟩
  · rw [if_neg q3, if_pos (show (0 : Int32) = 0 from rfl), if_pos (show (0 : Int32) = 0 from rfl)]
    exact ⟨_, _, _, rfl, rfl, h⟩
