theorem pp_M_gwe {N a : Nat} {μ : g_M} {v : Int32} {μ1 : g_M} (ha : a ≤ 6) (i1 : f_X12_goesBy N (pp_i (pp_cc a)) μ = some (v, μ1)) : f_X12_goesWith N (pp_i a) μ = some (v, μ1) := by
  unfold f_X12_goesWith
  rw [pp_ite (pp_e0 (by omega))]
  by_cases e : a = 0
  · rw [if_pos e]
    unfold pp_cc at i1
    rw [if_pos e] at i1
    rw [show (0 : Int32) = pp_i 0 from rfl, i1]
    rfl
  · rw [if_neg e]
    have e1 : ((1 : Int32) <<< ((pp_i a - 1) &&& 31)) = pp_i (pp_cc a) := by
      rw [show pp_i a - 1 = pp_i (a - 1) from pp_sub (b := 1) (by omega)]
      unfold pp_cc
      rw [if_neg e]
      exact pp_bit_shl ⟨a - 1, by omega⟩
    rw [e1, i1]
    rfl
theorem pp_D4 {s : Nat → Int32} {μX μM : g_M} {z : Int32} (hI : pp_I s) (hD : pp_D s μX) (hs : μM 1 = s) : pp_I (g_set μM 1 4 z 1) ∧ pp_D (g_set μM 1 4 z 1) (g_set μX 1 16 z) := by
  have h : ∀ j, ¬ j = 4 → ¬ j = 6 → g_set μM 1 4 z 1 j = s j := fun j h4 h6 => by rw [pp_set_n (by omega), hs]
  obtain ⟨en, et, ee, ew⟩ := pp_n46 h
  obtain ⟨hC, d12, d13, d14, d15, d16⟩ := hD
  refine ⟨pp_I46 h hI, (pp_C46 h hC).rows (pp_set_n (by decide)) (fun i h1 h2 => pp_rowN (by omega)), ?_, ?_, ?_, ?_, ?_⟩
  · rw [pp_set_n (by decide), d12, en]
    exact congrArg pp_i (pp_pk_congr (fun o ho => (ew o).symm))
  · rw [pp_set_n (by decide), d13, h 1 (by decide) (by decide)]
  · rw [pp_set_n (by decide), d14, h 2 (by decide) (by decide)]
  · rw [pp_set_n (by decide), d15, h 3 (by decide) (by decide)]
  · rw [pp_set_s, pp_set_s]
theorem pp_lot {N : Nat} {s : Nat → Int32} {μX μM : g_M} (hN : 200 ≤ N) (hI : pp_I s) (hD : pp_D s μX) (hs : μM 1 = s) :
    ∃ (v : Int32) (μX1 μM1 : g_M), f_X11_lot N μX = some (v, μX1) ∧ f_X12_lot N μM = some (v, μM1) ∧ pp_I (μM1 1) ∧ pp_D (μM1 1) μX1 := by
  obtain ⟨o1, o2⟩ := pp_over hI hD hs
  have d16 := hD.2.2.2.2.2
  unfold f_X11_lot f_X12_lot
  rw [o1, o2]
  by_cases c : pp_t s < pp_e s
  · obtain ⟨g1, g2⟩ := pp_D4 (z := s 4 * 1103515245 + 12345) hI hD hs
    obtain ⟨en, et, ee, ew⟩ := pp_n46 (s := s) (s1 := g_set μM 1 4 (s 4 * 1103515245 + 12345) 1) (fun j h4 h6 => by rw [pp_set_n (by omega), hs])
    have hn := hI.1.2
    obtain ⟨k, hk, ek⟩ := pp_lotn (s 4 * 1103515245 + 12345) hn
    obtain ⟨v, μX1, μM1, w1, i1, i2, i3, i4, i5, i6, i7, i8⟩ := pp_pass (c := pp_cc k) hN g1 g2 rfl (pp_cc_64 (by omega)) (by rw [et, ee]; exact c)
    have h11 : g_set μX 1 16 (s 4 * 1103515245 + 12345) 1 11 = pp_i (pp_n s) := by
      rw [pp_set_n (by decide), hD.1.1]
      exact hI.1.1
    have h10 : g_set μM 1 4 (s 4 * 1103515245 + 12345) 1 0 = pp_i (pp_n s) := by
      rw [pp_set_n (by decide), hs]
      exact hI.1.1
    refine ⟨v, μX1, μM1, ?_, ?_, i5, i6⟩
    · rw [if_pos c, if_pos rfl, d16]
      unfold f_X11_nextLot f_X9_actByLot
      simp only [Option.bind_some]
      rw [pp_set_s, h11, ek]
      simp only [Option.bind_some]
      rw [pp_X_chain (by omega), i1]
      rfl
    · rw [if_pos c, if_pos rfl]
      unfold f_X12_goesByLot
      rw [hs]
      simp only [Option.bind_some]
      rw [pp_set_s, h10, ek]
      simp only [Option.bind_some]
      rw [pp_M_gwe (by omega) i2]
      rfl
  · rw [if_neg c, if_neg (by decide), if_neg (by decide)]
    exact ⟨-4, μX, μM, rfl, rfl, by rw [hs]; exact hI, by rw [hs]; exact hD⟩
