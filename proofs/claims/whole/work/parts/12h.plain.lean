/-! ===== ovenOf, longing, ends, anew, state, seed, forget, report, many, night, lot ===== -/
theorem pp_S57_t {a b : Nat} (h : pp_SMt a b = false) : pp_S57 a b = false := by
  have q := of_decide_eq_false h
  exact decide_eq_false (by omega)
theorem pp_c_ovenOf {N t L u Lu : Nat} {μX μM : g_M} {a a2 : Int32} (hN : 1000 ≤ N) (h : pp_Rel t L u Lu μX μM) : ∃ (v : Int32) (μM1 : g_M), f_X11_ovenOf N a a2 μX = some v ∧ f_X12_ovenOf N a a2 μM = some (v, μM1) ∧ pp_Rel t L u Lu μX μM1 := by
  obtain ⟨hI, hD, hR, hp⟩ := h.2.2.1
  have hn6 := hI.1.2
  have h16 := hI.2.2.2.2.2.2.1
  have htl := pp_tle hI
  obtain ⟨d11, d12, d13, d14⟩ := pp_D12 hI hD
  unfold f_X11_ovenOf f_X12_ovenOf
  rcases pp_ovn (a := a) hI.1 hD.1.1 rfl with ⟨e1, e2⟩ | ⟨o, ho, rfl, e1, e2⟩
  · rw [if_pos e1, if_pos e2]
    exact ⟨_, _, rfl, rfl, h⟩
  rw [if_neg (pp_n10 e1), if_neg (pp_n10 e2)]
  have hs := pp_self hI.2.2.2
  obtain ⟨μM1, m1, m2, m3, m4⟩ := pp_M_looks (N := N) (c := 0) (by omega) hI.1 hI.2.2.1 (by decide) (pp_w16 hI) hs
  have m1 : f_X12_looks N 0 μM = some μM1 := m1
  have mr : μM1 1 = μM 1 := m4.row (fun b => decide_eq_false (by omega))
  have hl := pp_look h pp_F.refl (m4.mono (fun a b => pp_S57_t)) mr
  obtain ⟨c0, c1, c2, c3⟩ := hD.1.2.1 o ho
  rcases pp_btw (a := a2) (lo := 0) (hi := 7) (by decide) (by decide) with ⟨e3, e4⟩ | ⟨k, i1, i2, rfl, e3, e4⟩
  · have e4 : f_X12_isIn a2.toInt64 0 7 = 0 := e4
    have n : ∀ j : Nat, j ≤ 7 → ¬ a2 = pp_i j := fun j hj q => by
      rw [q, pp_X_btw, if_pos ⟨(pp_le (by omega) (by omega)).mpr (Nat.zero_le _), (pp_le (by omega) (by omega)).mpr hj⟩] at e3
      exact absurd e3 (by decide)
    rw [if_pos e4, if_neg (show ¬ a2 = 0 from n 0 (by decide)), if_neg (show ¬ a2 = 1 from n 1 (by decide)), if_neg (show ¬ a2 = 2 from n 2 (by decide)), if_neg (show ¬ a2 = 3 from n 3 (by decide)), if_neg (show ¬ a2 = 4 from n 4 (by decide)), if_neg (show ¬ a2 = 5 from n 5 (by decide)), if_neg (show ¬ a2 = 6 from n 6 (by decide)), if_neg (show ¬ a2 = 7 from n 7 (by decide))]
    exact ⟨_, _, rfl, rfl, h⟩
  have e4 : f_X12_isIn (pp_i k).toInt64 0 7 = 1 := e4
  rw [if_neg (pp_n10 e4), m1]
  simp only [Option.bind_some]
  have g4 : pp_w (μM 1) o = pp_w (μM 1) o := rfl
  have ew : pp_i (pp_w (μM 1) o) = μM 1 (8 + 5 * o + 4) := (hI.2.2.2.2.2.2.2.2 o ho).1.symm
  have r : ∀ row : Nat, g_rd μX row 6 (pp_i o) = some (μX row o) := fun row => pp_rd (by omega) (by decide)
  have its : ∀ i : Nat, i ≤ 4 → f_X12_its (pp_i o) (pp_i i) μM1 = some (μM 1 (8 + 5 * o + i)) := fun i hi => by rw [pp_M_its (by omega), mr]
  have hk : k = 0 ∨ k = 1 ∨ k = 2 ∨ k = 3 ∨ k = 4 ∨ k = 5 ∨ k = 6 ∨ k = 7 := by omega
  rcases hk with rfl | rfl | rfl | rfl | rfl | rfl | rfl | rfl
  · rw [if_pos (show pp_i 0 = 0 from rfl), if_neg (show ¬ pp_i 0 ≥ 5 by decide), r, its 0 (by decide), c0]
    exact ⟨_, _, rfl, rfl, hl⟩
  · rw [if_neg (show ¬ pp_i 1 = 0 by decide), if_pos (show pp_i 1 = 1 from rfl), if_neg (show ¬ pp_i 1 ≥ 5 by decide), r, its 1 (by decide), c1]
    exact ⟨_, _, rfl, rfl, hl⟩
  · rw [if_neg (show ¬ pp_i 2 = 0 by decide), if_neg (show ¬ pp_i 2 = 1 by decide), if_pos (show pp_i 2 = 2 from rfl), if_neg (show ¬ pp_i 2 ≥ 5 by decide), r, its 2 (by decide), c2]
    exact ⟨_, _, rfl, rfl, hl⟩
  · rw [if_neg (show ¬ pp_i 3 = 0 by decide), if_neg (show ¬ pp_i 3 = 1 by decide), if_neg (show ¬ pp_i 3 = 2 by decide), if_pos (show pp_i 3 = 3 from rfl), if_neg (show ¬ pp_i 3 ≥ 5 by decide), r, its 3 (by decide), c3]
    exact ⟨_, _, rfl, rfl, hl⟩
  · rw [if_neg (show ¬ pp_i 4 = 0 by decide), if_neg (show ¬ pp_i 4 = 1 by decide), if_neg (show ¬ pp_i 4 = 2 by decide), if_neg (show ¬ pp_i 4 = 3 by decide), if_pos (show pp_i 4 = 4 from rfl), if_neg (show ¬ pp_i 4 ≥ 5 by decide), its 4 (by decide), d12, pp_awp hn6 (pp_w16 hI) ho, ew]
    exact ⟨_, _, rfl, rfl, hl⟩
  · rw [if_neg (show ¬ pp_i 5 = 0 by decide), if_neg (show ¬ pp_i 5 = 1 by decide), if_neg (show ¬ pp_i 5 = 2 by decide), if_neg (show ¬ pp_i 5 = 3 by decide), if_neg (show ¬ pp_i 5 = 4 by decide), if_pos (show pp_i 5 = 5 from rfl), if_pos (show pp_i 5 ≥ 5 by decide), if_pos (show pp_i 5 = 5 from rfl), d13, pp_X_bakes hn6 hI.2.1 hD.1 (by omega) ho, pp_M_bakes (mr.trans hs) (by omega) (by omega)]
    exact ⟨_, _, rfl, rfl, hl⟩
  · rw [if_neg (show ¬ pp_i 6 = 0 by decide), if_neg (show ¬ pp_i 6 = 1 by decide), if_neg (show ¬ pp_i 6 = 2 by decide), if_neg (show ¬ pp_i 6 = 3 by decide), if_neg (show ¬ pp_i 6 = 4 by decide), if_neg (show ¬ pp_i 6 = 5 by decide), if_pos (show pp_i 6 = 6 from rfl), if_pos (show pp_i 6 ≥ 5 by decide), if_neg (show ¬ pp_i 6 = 5 by decide), if_pos (show pp_i 6 = 6 from rfl), d13, pp_X_will hn6 hD.1 (by omega) ho, pp_rd (by omega) (by decide), m2 o ho]
    exact ⟨_, _, rfl, rfl, hl⟩
  · have f1 := pp_X_free (N := N) (c := 0) (by omega) hI.1 hD.1 (show pp_t (μM 1) ≤ 16 by omega) (by decide) (pp_w16 hI)
    have f1 : f_X9_freeSet N (pp_i (pp_pk (pp_w (μM 1)) (pp_n (μM 1)))) (pp_i (pp_t (μM 1))) 0 μX = _ := f1
    rw [if_neg (show ¬ pp_i 7 = 0 by decide), if_neg (show ¬ pp_i 7 = 1 by decide), if_neg (show ¬ pp_i 7 = 2 by decide), if_neg (show ¬ pp_i 7 = 3 by decide), if_neg (show ¬ pp_i 7 = 4 by decide), if_neg (show ¬ pp_i 7 = 5 by decide), if_neg (show ¬ pp_i 7 = 6 by decide), if_pos (show pp_i 7 = 7 from rfl), if_pos (show pp_i 7 ≥ 5 by decide), if_neg (show ¬ pp_i 7 = 5 by decide), if_neg (show ¬ pp_i 7 = 6 by decide), d12, d13, f1, pp_M_choice (by omega) hI.1 (mr.trans hs) (pp_fr_bit hn6 m3) (m2 o ho) ho]
    simp only [Option.bind_some]
    rw [pp_X_choice (by omega) hI.1 hD.1 (by omega) ho]
    exact ⟨_, _, rfl, rfl, hl⟩
theorem pp_c_longing {t L u Lu : Nat} {μX μM : g_M} {a a2 : Int32} (h : pp_Rel t L u Lu μX μM) : ∃ (v : Int32), f_X11_longing a a2 μX = some v ∧ f_X12_longing a a2 μM = some v ∧ pp_Rel t L u Lu μX μM := by
  obtain ⟨hI, hD, hR, hp⟩ := h.2.2.1
  have hn6 := hI.1.2
  unfold f_X11_longing f_X12_longing
  rcases pp_ovn (a := a) hI.1 hD.1.1 rfl with ⟨e1, e2⟩ | ⟨o, ho, rfl, e1, e2⟩
  · rw [if_pos e1, if_pos e2]
    exact ⟨_, rfl, rfl, h⟩
  rw [if_neg (pp_n10 e1), if_neg (pp_n10 e2)]
  rcases pp_ovn (a := a2) hI.1 hD.1.1 rfl with ⟨e1, e2⟩ | ⟨k, hk, rfl, e1, e2⟩
  · rw [if_pos e1, if_pos e2]
    exact ⟨_, rfl, rfl, h⟩
  rw [if_neg (pp_n10 e1), if_neg (pp_n10 e2), pp_ite (pp_eq (a := o) (b := k) (by omega) (by omega)), pp_ite (pp_eq (a := o) (b := k) (by omega) (by omega))]
  by_cases c : o = k
  · rw [if_pos c, if_pos c]
    exact ⟨_, rfl, rfl, h⟩
  · rw [if_neg c, if_neg c, pp_X_wish hn6 hD.1 ho hk c, pp_M_longs (N := 0) (pp_self hI.2.2.2) (by omega) (by omega)]
    exact ⟨_, rfl, rfl, h⟩
theorem pp_c_state {N t L u Lu : Nat} {μX μM : g_M} {a : Int32} (hN : 1000 ≤ N) (h : pp_Rel t L u Lu μX μM) : ∃ (v : Int32), f_X11_state N a μX = some v ∧ f_X12_state N a μM = some v ∧ pp_Rel t L u Lu μX μM := by
  obtain ⟨hI, hD, hR, hp⟩ := h.2.2.1
  obtain ⟨d11, d12, d13, d14⟩ := pp_D12 hI hD
  obtain ⟨o1, o2⟩ := pp_over hI hD (μM := μM) rfl
  unfold f_X11_state f_X12_state
  by_cases c0 : a = 0
  · subst c0
    rw [if_pos rfl, if_pos rfl, show (1 + 0 : Int32) = pp_i 1 from rfl, pp_rd (by decide) (by decide), hD.2.2.1]
    exact ⟨_, rfl, rfl, h⟩
  rw [if_neg c0, if_neg c0]
  by_cases c1 : a = 1
  · subst c1
    rw [if_pos rfl, if_pos rfl, show (1 + 1 : Int32) = pp_i 2 from rfl, pp_rd (by decide) (by decide), hD.2.2.2.1]
    exact ⟨_, rfl, rfl, h⟩
  rw [if_neg c1, if_neg c1]
  by_cases c2 : a = 2
  · subst c2
    rw [if_pos rfl, if_pos rfl, show (1 + 2 : Int32) = pp_i 3 from rfl, pp_rd (by decide) (by decide), hD.2.2.2.2.1]
    exact ⟨_, rfl, rfl, h⟩
  rw [if_neg c2, if_neg c2]
  by_cases c3 : a = 3
  · rw [if_pos c3, if_pos c3, o1, o2]
    split <;> exact ⟨_, rfl, rfl, h⟩
  rw [if_neg c3, if_neg c3]
  by_cases c4 : a = 4
  · rw [if_pos c4, if_pos c4, d12, pp_X_homeSet (by omega) hI.1 hD.1 (pp_w16 hI), pp_M_home (by omega) hI.1 (pp_w16 hI) (pp_self hI.2.2.2)]
    exact ⟨_, rfl, rfl, h⟩
  rw [if_neg c4, if_neg c4]
  exact ⟨_, rfl, rfl, h⟩
theorem pp_c_many {N t L u Lu : Nat} {μX μM : g_M} {a : Int32} (hN : 1000 ≤ N) (h : pp_Rel t L u Lu μX μM) : ∃ (v : Int32), f_X11_many N t L a μX = some v ∧ f_X12_many N a μM = some v ∧ pp_Rel t L u Lu μX μM := by
  obtain ⟨hI, hD, hR, c, hp⟩ := h.2.2.1
  obtain ⟨hk, ⟨tl, tb, ht1, ht2, ht3, ht4, ht5⟩, ⟨rc, hr1, hr2, hr3, hr4⟩, hs, hh, ⟨tc, htr1, htr2, htr3, htr4⟩⟩ := h.2.2.2
  obtain ⟨d11, d12, d13, d14⟩ := pp_D12 hI hD
  have h64 : pp_hm (pp_n (μM 1)) (pp_w (μM 1)) < 64 := pp_mk_64 hI.1.2
  obtain ⟨R, S, q1, q2, q3, q4, q5, q6, q7, -⟩ := hR
  unfold f_X11_many f_X12_many
  by_cases c0 : a = 0
  · rw [if_pos c0, if_pos c0, hD.1.1]
    exact ⟨_, rfl, rfl, h⟩
  rw [if_neg c0, if_neg c0]
  by_cases c1 : a = 1
  · rw [if_pos c1, if_pos c1, q3, q7]
    exact ⟨_, rfl, rfl, h⟩
  rw [if_neg c1, if_neg c1]
  by_cases c2 : a = 2
  · rw [if_pos c2, if_pos c2, d12, pp_X_homeSet (by omega) hI.1 hD.1 (pp_w16 hI), pp_M_home (by omega) hI.1 (pp_w16 hI) (pp_self hI.2.2.2)]
    simp only [Option.bind_some]
    rw [pp_bc h64, pp_size (by omega) h64]
    exact ⟨_, rfl, rfl, h⟩
  rw [if_neg c2, if_neg c2]
  by_cases c3 : a = 3
  · rw [if_pos c3, if_pos c3, hp.2.1, hp.2.2.1]
    exact ⟨_, rfl, rfl, h⟩
  rw [if_neg c3, if_neg c3]
  by_cases c4 : a = 4
  · rw [if_pos c4, if_pos c4, hr2, hr3]
    exact ⟨_, rfl, rfl, h⟩
  rw [if_neg c4, if_neg c4]
  by_cases c5 : a = 5
  · rw [if_pos c5, if_pos c5, ht4, ht5]
    exact ⟨_, rfl, rfl, h⟩
  rw [if_neg c5, if_neg c5]
  by_cases c6 : a = 6
  · rw [if_pos c6, if_pos c6, htr2, htr3]
    exact ⟨_, rfl, rfl, h⟩
  rw [if_neg c6, if_neg c6]
  exact ⟨_, rfl, rfl, h⟩
/-- only cells of the town's row of numbers, or of its clock, change -/
theorem pp_TWf {s s1 : Nat → Int32} {μ μ1 : g_M} {t L : Nat} (ht : pp_rk t) (h : pp_TW s μ μ t L) (hI : pp_I s1) (hD : pp_D s1 μ1) (e : ∀ j, j = 5 ∨ j = 6 ∨ j = 7 ∨ 38 ≤ j → s1 j = s j) (f17 : μ1 1 17 = μ 1 17) (f : ∀ a, 17 ≤ a → μ1 a = μ a) : pp_TW s1 μ1 μ1 t L := by
  obtain ⟨h1, h2, h3, c, h4⟩ := h
  refine ⟨hI, hD, (h3.s (fun j hj => e j (by omega))).F (fun a ha hb => f a ?_), c, (h4.s (fun j hj => e j (by omega))).F f17 (f 17 (by omega))⟩
  rcases ht with q | q | q <;> omega
theorem pp_c_night {N t L u Lu : Nat} {μX μM : g_M} (hN : 1000 ≤ N) (h : pp_Rel t L u Lu μX μM) : ∃ (v : Int32) (μX1 μM1 : g_M), f_X11_night N μX = some (v, μX1) ∧ f_X12_night N μM = some (v, μM1) ∧ pp_Rel t L u Lu μX1 μM1 := by
  obtain ⟨hI, hD, hR, hp⟩ := h.2.2.1
  have hn6 := hI.1.2
  obtain ⟨v, μX1, μM1, i1, i2, ⟨t1, w1, sc, i3⟩, i5, i6, i7, i8⟩ := pp_night (N := N) (μM := μM) (by omega) hI hD rfl
  refine ⟨v, μX1, μM1, i1, i2, pp_tow h h.1 (pp_TWf h.1 h.2.2.1 i5 i6 (fun j hj => ?_) (i8 1 17 (by decide)) (fun a ha => i8.row (fun b => decide_eq_false (by omega)))) (i8.mono (fun a b q => ?_)) (i7.mono (fun a b => pp_SG_t))⟩
  · rw [i3]
    exact pp_put_n (by omega) (by omega) (by omega)
  · have q := of_decide_eq_false q
    exact decide_eq_false (by omega)
