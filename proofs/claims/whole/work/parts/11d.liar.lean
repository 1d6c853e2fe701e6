theorem pp_X_ff {N : Nat} {s : Nat → Int32} {μ : g_M} {c ex : Nat} (hN : 200 ≤ N) (h : pp_Rp s μ c) (he : ex ≤ 6) : f_X9_firstFitting N (pp_i ex) μ = some (if pp_fst (pp_fq s ex c) 160 0 < 160 then pp_i (pp_fst (pp_fq s ex c) 160 0) else -1) ∧ f_X9_fitting N (pp_i ex) μ = some (pp_i (pp_fct (pp_fq s ex c) 160 0)) := by
  have h1 : f_X9_firstFitting_L2 N N (pp_i ex) 0 μ = _ := pp_X_ffL hN h he 160 N 0 (by omega) (by omega)
  have h2 : f_X9_fitting_L4 N N (pp_i ex) 0 0 μ = _ := pp_X_ftL hN h he 160 N 0 0 (by omega) (by omega)
  refine ⟨?_, ?_⟩
  · unfold f_X9_firstFitting
    rw [h1]
    by_cases q : pp_fst (pp_fq s ex c) 160 0 < 160
    · rw [if_pos q, if_pos q]; rfl
    · rw [if_neg q, if_neg q]; rfl
  · unfold f_X9_fitting
    rw [h2, Nat.zero_add]
    rfl
theorem pp_M_ff {N : Nat} {s : Nat → Int32} {μX μ : g_M} {c ex : Nat} {e : Int32} (hN : 200 ≤ N) (h : pp_Rp s μX c) (he : ∀ i, i < 6 → (pp_i i = e) = (i = ex)) (hs : μ 1 = s) : ∃ μ1 : g_M, f_X12_findsFits N e μ = some μ1 ∧ μ1 0 29 = pp_i (pp_fct (pp_fq s ex c) 160 0) ∧ μ1 0 30 = (if pp_fst (pp_fq s ex c) 160 0 < 160 then pp_i (pp_fst (pp_fq s ex c) 160 0) else -3) ∧ pp_F pp_Sf μ μ1 := by
  obtain ⟨μ1, i1, i2, i3, i4⟩ := pp_M_ffL (N := N) hN h he 160 N 0 0 (g_set (g_set μ 0 29 0) 0 30 (-3)) (by omega) (by omega) (by rw [pp_rowN (by decide), pp_rowN (by decide)]; exact hs) (by rw [pp_set_n (by decide), pp_set_s]; rfl) (Nat.le_refl 0)
  have i1 : f_X12_findsFits_L13 N N e 0 (g_set (g_set μ 0 29 0) 0 30 (-3)) = some μ1 := i1
  refine ⟨μ1, ?_, by rw [i2, Nat.zero_add], ?_, ((pp_F.set (by decide)).trans (pp_F.set (by decide))).trans i4⟩
  · unfold f_X12_findsFits
    simp only [Option.bind_some]
    rw [i1]
    rfl
  · rw [i3, pp_set_s]
    by_cases q : pp_fst (pp_fq s ex c) 160 0 < 160
    · rw [if_pos ⟨rfl, q⟩, if_pos q]
    · rw [if_neg (fun z => q z.2), if_neg q]
theorem pp_no6 : ∀ i, i < 6 → (pp_i i = (-1 : Int32)) = (i = 6) := fun i hi => propext ⟨fun q => by
  have h : ∀ k : Fin 6, ¬ pp_i k.val = (-1 : Int32) := by decide
  exact absurd q (h ⟨i, hi⟩), fun q => by omega⟩
theorem pp_span {N : Nat} {s : Nat → Int32} {μX μ : g_M} {c : Nat} {a : Int32} (hN : 200 ≤ N) (h : pp_Rp s μX c) (hs : μ 1 = s) : ∃ (v : Int32) (μ1 : g_M), f_X11_span N a μX = some v ∧ f_X12_span N a μ = some (v, μ1) ∧ pp_F pp_Sf μ μ1 := by
  have hb : f_X12_isIn a.toInt64 0 2 = f_X11_isBetween a 0 2 := pp_M_in (lo := 0) (hi := 2)
  unfold f_X11_span f_X12_span
  rw [hb]
  by_cases c0 : f_X11_isBetween a 0 2 = 0
  · rw [if_pos c0, if_pos c0]
    exact ⟨-1, μ, rfl, rfl, pp_F.refl⟩
  · obtain ⟨μ1, i1, i2, i3, i4⟩ := pp_M_ff hN h pp_no6 hs
    obtain ⟨x1, x2⟩ := pp_X_ff (ex := 6) hN h (Nat.le_refl 6)
    have x1 : f_X9_firstFitting N 6 μX = _ := x1
    have x2 : f_X9_fitting N 6 μX = _ := x2
    obtain ⟨l1, l2, l3, l4⟩ := pp_fct_le (f := pp_fq s 6 c) 160 0
    rw [if_neg c0, if_neg c0, i1, x1, x2]
    simp only [Option.bind_some]
    rw [i2, i3, pp_ite (pp_e0 (by omega)), pp_ite l4]
    by_cases a0 : a = 0
    · rw [if_pos a0, if_pos a0]
      exact ⟨_, _, rfl, rfl, i4⟩
    · rw [if_neg a0, if_neg a0]
      by_cases q : pp_fst (pp_fq s 6 c) 160 0 < 160
      · rw [if_pos q, if_pos q, if_neg (show ¬ pp_fst (pp_fq s 6 c) 160 0 = 0 + 160 by omega), if_pos (show pp_i (pp_fst (pp_fq s 6 c) 160 0) ≥ (0 : Int32) from (pp_le (a := 0) (by omega) (by omega)).mpr (Nat.zero_le _))]
        by_cases a1 : a = 1
        · rw [if_pos a1, if_pos a1]
          exact ⟨_, _, rfl, rfl, i4⟩
        · rw [if_neg a1, if_neg a1]
          exact ⟨_, _, rfl, rfl, i4⟩
      · rw [if_neg q, if_pos (show pp_fst (pp_fq s 6 c) 160 0 = 0 + 160 by omega), if_neg (show ¬ ((-1 : Int32) ≥ 0) by decide)]
        exact ⟨_, _, rfl, rfl, i4⟩
theorem pp_liarL {N : Nat} {s : Nat → Int32} {μX : g_M} {c : Nat} (hN : 200 ≤ N) (h : pp_Rp s μX c) : ∀ (m n1 n2 i : Nat) (μ : g_M), i + m = c → m < n1 → m < n2 → μ 1 = s →
    ∃ (z : Int32 ⊕ Unit) (v : Int32) (μ1 : g_M), f_X11_liar_L17 N n1 (pp_i i) μX = some z ∧ (match z with | .inl q => q | .inr _ => -3) = v ∧ f_X12_liar_L23 N n2 (-3) 1 (pp_i i) μ = some (v, μ1) ∧ pp_F pp_Sf μ μ1
  | 0, n1, n2, i, μ, hi, hn, hn2, hs => by
    obtain ⟨n1, rfl⟩ : ∃ k, n1 = k + 1 := ⟨n1 - 1, by omega⟩
    obtain ⟨n2, rfl⟩ : ∃ k, n2 = k + 1 := ⟨n2 - 1, by omega⟩
    have hc := h.1
    refine ⟨.inr (), -3, μ, ?_, rfl, ?_, pp_F.refl⟩
    · rw [f_X11_liar_L17, h.2.2.1, pp_ite (pp_ge (by omega) (by omega)), if_pos (by omega)]
    · rw [f_X12_liar_L23, hs, h.2.1, pp_ite (pp_ge (by omega) (by omega)), if_pos (by omega)]
  | m + 1, n1, n2, i, μ, hi, hn, hn2, hs => by
    obtain ⟨n1, rfl⟩ : ∃ k, n1 = k + 1 := ⟨n1 - 1, by omega⟩
    obtain ⟨n2, rfl⟩ : ∃ k, n2 = k + 1 := ⟨n2 - 1, by omega⟩
    have hc := h.1
    obtain ⟨μ1, i1, i2, i3, i4⟩ := pp_M_ff (e := pp_i i) (ex := i) hN h (fun k hk => propext ⟨fun q => pp_inj (by omega) (by omega) q, fun q => by rw [q]⟩) hs
    obtain ⟨x1, x2⟩ := pp_X_ff (ex := i) hN h (by omega)
    obtain ⟨l1, l2, l3, l4⟩ := pp_fct_le (f := pp_fq s i c) 160 0
    have hs1 : μ1 1 = s := (i4.row (a := 1) (fun b => by simp [pp_Sf])).trans hs
    rw [f_X11_liar_L17, f_X12_liar_L23, hs, h.2.1, h.2.2.1, pp_ite (pp_ge (by omega) (by omega)), if_neg (by omega), pp_ite (pp_ge (by omega) (by omega)), if_neg (by omega), if_neg (show ¬ ((1 : Int32) = 0) by decide), if_neg (show ¬ ((-3 : Int32) ≥ 0) by decide), i1, x1]
    simp only [Option.bind_some]
    rw [i2, show pp_i i + 1 = pp_i (i + 1) from pp_add i 1, pp_ite (show (pp_i (pp_fct (pp_fq s i c) 160 0) ≤ (0 : Int32)) = (pp_fct (pp_fq s i c) 160 0 ≤ 0) from pp_le (b := 0) (by omega) (by omega))]
    by_cases q : pp_fst (pp_fq s i c) 160 0 < 160
    · have hz : ¬ pp_fct (pp_fq s i c) 160 0 = 0 := by rw [l4]; omega
      obtain ⟨n2, rfl⟩ : ∃ k, n2 = k + 1 := ⟨n2 - 1, by omega⟩
      have hge : pp_i i ≥ (0 : Int32) := (pp_le (a := 0) (by omega) (by omega)).mpr (Nat.zero_le _)
      rw [if_pos q, if_neg (show ¬ (pp_i (pp_fst (pp_fq s i c) 160 0) < (0 : Int32)) from fun z => by
        have := (pp_lt (a := pp_fst (pp_fq s i c) 160 0) (b := 0) (by omega) (by omega)).mp z
        omega), if_neg (by omega)]
      refine ⟨.inl (pp_i i), pp_i i, μ1, rfl, rfl, ?_, i4⟩
      rw [f_X12_liar_L23]
      split
      · rfl
      · rw [if_neg (show ¬ ((1 : Int32) = 0) by decide)]
    · have hz : pp_fct (pp_fq s i c) 160 0 = 0 := by rw [l4]; omega
      rw [if_neg q, if_pos (show (-1 : Int32) < 0 by decide), if_pos (by omega)]
      obtain ⟨z, v, μ2, j1, j2, j3, j4⟩ := pp_liarL hN h m n1 n2 (i + 1) μ1 (by omega) (by omega) (by omega) hs1
      exact ⟨z, v, μ2, j1, j2, j3, i4.trans j4⟩
theorem pp_liar {N : Nat} {s : Nat → Int32} {μX μ : g_M} {c : Nat} (hN : 200 ≤ N) (h : pp_Rp s μX c) (hs : μ 1 = s) : ∃ (v : Int32) (μ1 : g_M), f_X11_liar N μX = some v ∧ f_X12_liar N μ = some (v, μ1) ∧ pp_F pp_Sf μ μ1 := by
  have hc := h.1
  obtain ⟨μ1, i1, i2, i3, i4⟩ := pp_M_ff hN h pp_no6 hs
  obtain ⟨x1, x2⟩ := pp_X_ff (ex := 6) hN h (Nat.le_refl 6)
  have x1 : f_X9_firstFitting N 6 μX = _ := x1
  obtain ⟨l1, l2, l3, l4⟩ := pp_fct_le (f := pp_fq s 6 c) 160 0
  have hs1 : μ1 1 = s := (i4.row (a := 1) (fun b => by simp [pp_Sf])).trans hs
  unfold f_X11_liar f_X12_liar
  rw [i1, x1]
  simp only [Option.bind_some]
  rw [i2, pp_ite (pp_e0 (by omega)), pp_ite l4]
  by_cases q : pp_fst (pp_fq s 6 c) 160 0 < 160
  · rw [if_pos q, if_neg (show ¬ pp_fst (pp_fq s 6 c) 160 0 = 0 + 160 by omega), if_neg (show ¬ (pp_i (pp_fst (pp_fq s 6 c) 160 0) < (0 : Int32)) from fun z => by
      have := (pp_lt (a := pp_fst (pp_fq s 6 c) 160 0) (b := 0) (by omega) (by omega)).mp z
      omega)]
    have e : ∀ k, 0 < k → f_X12_liar_L23 N k (-3) 0 0 μ1 = some (-3, μ1) := fun k hk => by
      obtain ⟨k, rfl⟩ : ∃ j, k = j + 1 := ⟨k - 1, by omega⟩
      rw [f_X12_liar_L23]
      split
      · rfl
      · rw [if_pos rfl]
    rw [e N (by omega)]
    exact ⟨-3, μ1, rfl, rfl, i4⟩
  · rw [if_neg q, if_pos (show pp_fst (pp_fq s 6 c) 160 0 = 0 + 160 by omega), if_pos (show (-1 : Int32) < 0 by decide)]
    obtain ⟨z, v, μ2, j1, j2, j3, j4⟩ := pp_liarL hN h c N N 0 μ1 (by omega) (by omega) (by omega) hs1
    have j1 : f_X11_liar_L17 N N 0 μX = some z := j1
    have j3 : f_X12_liar_L23 N N (-3) 1 0 μ1 = some (v, μ2) := j3
    rw [j1, j3]
    refine ⟨v, μ2, ?_, rfl, i4.trans j4⟩
    rw [← j2]
    cases z <;> rfl
