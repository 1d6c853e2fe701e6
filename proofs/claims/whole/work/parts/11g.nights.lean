/-! ===== night(), lot() ===== -/
theorem pp_over {s : Nat → Int32} {μX μM : g_M} (hI : pp_I s) (hD : pp_D s μX) (hs : μM 1 = s) : f_X9_isOver μX = (if pp_t s < pp_e s then 0 else 1) ∧ f_X12_isOver μM = (if pp_t s < pp_e s then 0 else 1) := by
  obtain ⟨t1, t2, t3, t4, t5, t6⟩ := hI.2.2.2
  obtain ⟨hC, d12, d13, d14, d15, d16⟩ := hD
  unfold f_X9_isOver f_X12_isOver
  rw [d13, d14, hs, t1, t2, pp_ite (pp_lt (by omega) (by omega))]
  exact ⟨rfl, rfl⟩
theorem pp_night {N : Nat} {s : Nat → Int32} {μX μM : g_M} (hN : 200 ≤ N) (hI : pp_I s) (hD : pp_D s μX) (hs : μM 1 = s) :
    ∃ (v : Int32) (μX1 μM1 : g_M), f_X11_night N μX = some (v, μX1) ∧ f_X12_night N μM = some (v, μM1) ∧ (∃ (t : Nat) (w1 : Nat → Nat) (sc : Int32), μM1 1 = pp_put s t w1 sc) ∧ pp_I (μM1 1) ∧ pp_D (μM1 1) μX1 ∧ pp_F pp_SG μM μM1 ∧ pp_F pp_Sy μX μX1 := by
  obtain ⟨o1, o2⟩ := pp_over hI hD hs
  unfold f_X11_night f_X12_night
  rw [o1, o2]
  by_cases c : pp_t s < pp_e s
  · obtain ⟨v, μX1, μM1, w1, i1, i2, i3, i4, i5, i6, i7, i8⟩ := pp_pass (c := 0) hN hI hD hs (by decide) c
    have i1 : f_X9_passNight N 0 μX = some (v, μX1) := i1
    have i2 : f_X12_goesBy N 0 μM = some (v, μM1) := i2
    rw [if_pos c, if_pos rfl, if_pos rfl, i1, i2]
    exact ⟨v, μX1, μM1, rfl, rfl, ⟨_, _, _, i3⟩, i5, i6, i7, i8⟩
  · rw [if_neg c, if_neg (by decide), if_neg (by decide)]
    exact ⟨-4, μX, μM, rfl, rfl, ⟨_, _, _, hs.trans (pp_self hI.2.2.2)⟩, by rw [hs]; exact hI, by rw [hs]; exact hD, pp_F.refl, pp_F.refl⟩
