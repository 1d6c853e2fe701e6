/-! ===== cells 4 and 6 don't matter to the town ===== -/
theorem pp_n46 {s s1 : Nat → Int32} (h : ∀ j, ¬ j = 4 → ¬ j = 6 → s1 j = s j) : pp_n s1 = pp_n s ∧ pp_t s1 = pp_t s ∧ pp_e s1 = pp_e s ∧ ∀ o, pp_w s1 o = pp_w s o := by
  have e : pp_n s1 = pp_n s := by unfold pp_n; rw [h 0 (by decide) (by decide)]
  refine ⟨e, by unfold pp_t; rw [h 1 (by decide) (by decide)], by unfold pp_e; rw [h 2 (by decide) (by decide)], fun o => ?_⟩
  unfold pp_w
  rw [e, h (8 + 5 * o + 4) (by omega) (by omega)]
theorem pp_I46 {s s1 : Nat → Int32} (h : ∀ j, ¬ j = 4 → ¬ j = 6 → s1 j = s j) (hI : pp_I s) : pp_I s1 := by
  obtain ⟨en, et, ee, ew⟩ := pp_n46 h
  obtain ⟨hB, hO, hR, hT⟩ := hI
  refine ⟨⟨by rw [h 0 (by decide) (by decide), en]; exact hB.1, by rw [en]; exact hB.2⟩, fun o ho => ?_, ?_, ?_⟩
  · rw [en] at ho
    obtain ⟨k, a, p, f, h1, h2, h3, h4, h5, h6, e1, e2, e3, e4⟩ := hO o ho
    exact ⟨k, a, p, f, h1, h2, h3, h4, h5, h6, by rw [h _ (by omega) (by omega), e1], by rw [h _ (by omega) (by omega), e2], by rw [h _ (by omega) (by omega), e3], by rw [h _ (by omega) (by omega), e4]⟩
  · obtain ⟨R, S, hR8, hS, h5, h7, hr⟩ := hR
    refine ⟨R, S, hR8, hS, by rw [h _ (by omega) (by omega), h5], by rw [h _ (by omega) (by omega), h7], fun r hr2 => ?_⟩
    obtain ⟨b, e, k, d, g1, g2, g3, g4, e1, e2, e3, e4⟩ := hr r hr2
    exact ⟨b, e, k, d, g1, g2, g3, g4, by rw [h _ (by omega) (by omega), e1], by rw [h _ (by omega) (by omega), e2], by rw [h _ (by omega) (by omega), e3], by rw [h _ (by omega) (by omega), e4]⟩
  · obtain ⟨t1, t2, t3, t4, t5, t6⟩ := hT
    refine ⟨by rw [h 1 (by decide) (by decide), et]; exact t1, by rw [h 2 (by decide) (by decide), ee]; exact t2, by rw [ee]; exact t3, by rw [ee]; exact t4, by rw [et, ee]; exact t5, fun o ho => ?_⟩
    rw [en] at ho
    rw [ew o, h (8 + 5 * o + 4) (by omega) (by omega)]
    exact t6 o ho
theorem pp_C46 {s s1 : Nat → Int32} {μ : g_M} (h : ∀ j, ¬ j = 4 → ¬ j = 6 → s1 j = s j) (hC : pp_C s μ) : pp_C s1 μ := by
  obtain ⟨en, et, ee, ew⟩ := pp_n46 h
  obtain ⟨c1, c2, c3, c4⟩ := hC
  refine ⟨by rw [h 0 (by decide) (by decide)]; exact c1, fun o ho => ?_, fun o k ho hk hne => ?_, fun t o ht ho => ?_⟩
  · rw [en] at ho
    rw [h (8 + 5 * o + 0) (by omega) (by omega), h (8 + 5 * o + 1) (by omega) (by omega), h (8 + 5 * o + 2) (by omega) (by omega), h (8 + 5 * o + 3) (by omega) (by omega)]
    exact c2 o ho
  · rw [en] at ho hk
    rw [c3 o k ho hk hne]
    unfold pp_ws
    rw [h (8 + 5 * o + 0) (by omega) (by omega), h (8 + 5 * o + 1) (by omega) (by omega), h (8 + 5 * o + 2) (by omega) (by omega), h (8 + 5 * k + 1) (by omega) (by omega), h (8 + 5 * k + 2) (by omega) (by omega)]
  · rw [en] at ho
    rw [c4 t o ht ho]
    exact (pp_wl_congr (h 5 (by decide) (by decide)) (fun j hj => h j (by omega) (by omega)) (fun i hi => h _ (by omega) (by omega))).symm
