/-! ===== who goes off, when, how often; who stills all ===== -/
theorem pp_bat {m o : Nat} (hm : m < 64) (ho : o < 7) : (((pp_i m) >>> (pp_i o &&& 31)) &&& 1) = pp_i (m / 2 ^ o % 2) := pp_bit_at ⟨o, ho⟩ ⟨m, hm⟩
theorem pp_go_up {s : Nat → Int32} {t c o : Nat} {w : Nat → Nat} (hB2 : pp_n s ≤ 6) : (pp_go s t w c o = true) = (w o < pp_nw s t w c o) := by
  unfold pp_nw
  by_cases h : pp_go s t w c o = true
  · have h1 := h
    unfold pp_go at h1
    rw [if_pos h1]
    have hg := of_decide_eq_true h1
    rcases @pp_co_le s t o (pp_fr s t (fun k => w k - 1) c) with h2 | h2
    · have hg2 := hg.2.1
      omega
    · have hf := (of_decide_eq_true h2.2.2.2).1
      dsimp only at hf
      exact propext ⟨fun _ => by omega, fun _ => h⟩
  · have h1 := h
    unfold pp_go at h1
    rw [if_neg h1]
    exact propext ⟨fun q => absurd q h, fun q => by omega⟩
theorem pp_M_ov {s : Nat → Int32} {t : Nat} {w : Nat → Nat} {sc : Int32} {μ : g_M} (hT : pp_T s) (ht : t < 1000) (h1 : μ 1 = pp_put s t w sc) : (f_X12_isOver μ = 0) = (t < pp_e s) := by
  rw [pp_M_over hT ht h1]
  by_cases h : t < pp_e s
  · rw [if_pos h]; exact propext ⟨fun _ => h, fun _ => rfl⟩
  · rw [if_neg h]; exact propext ⟨fun q => absurd q (by decide), fun q => absurd q h⟩
/-- the first night in which o goes off, of m -/
def pp_gs (s : Nat → Int32) (o : Nat) : Nat → Nat → (Nat → Nat) → Int32
  | 0, _, _ => -3
  | m + 1, t, w => if pp_go s t w 0 o = true then pp_i t else pp_gs s o m (t + 1) (pp_nw s t w 0)
def pp_ofn (s : Nat → Int32) (o : Nat) : Nat → Nat → (Nat → Nat) → Int32 → Int32
  | 0, _, _, x => x
  | m + 1, t, w, x => pp_ofn s o m (t + 1) (pp_nw s t w 0) (if pp_go s t w 0 o = true then x + 1 else x)
theorem pp_M_goesL {N : Nat} {s : Nat → Int32} {o : Nat} (hN : 200 ≤ N) (hI : pp_I s) (ho : o < pp_n s) : ∀ (m fuel t : Nat) (w : Nat → Nat) (sc : Int32) (μ : g_M), t + m = pp_e s → m + 1 < fuel → (∀ o, o < pp_n s → w o < 16) → μ 1 = pp_put s t w sc →
    ∃ (μ1 : g_M) (t1 : Nat) (w1 : Nat → Nat) (sc1 : Int32), f_X12_goes_L18 N fuel (pp_i o) (-3) μ = some (pp_gs s o m t w, μ1) ∧ μ1 1 = pp_put s t1 w1 sc1 ∧ pp_F pp_SG μ μ1 := by
  obtain ⟨hB, hO, hR, hT⟩ := hI
  have hB2 := hB.2
  have h16 := hT.2.2.2.1
  intro m
  induction m with
  | zero =>
    intro fuel t w sc μ hk hf hw h1
    obtain ⟨f, rfl⟩ := pp_fu hf
    rw [f_X12_goes_L18, pp_ite (pp_M_ov hT (by omega) h1), if_neg (by omega)]
    exact ⟨μ, t, w, sc, rfl, h1, pp_F.refl⟩
  | succ m ih =>
    intro fuel t w sc μ hk hf hw h1
    obtain ⟨f, rfl⟩ := pp_fu hf
    obtain ⟨μ1, i1, i2, i3, i4⟩ := pp_M_go (c := 0) hN hB hR hO (by decide) (by omega) hw h1
    rw [show pp_i 0 = (0 : Int32) from rfl] at i1
    rw [f_X12_goes_L18, pp_ite (pp_M_ov hT (by omega) h1), if_pos (by omega), if_neg (by decide), i1]
    simp only [Option.bind_some]
    rw [i3, pp_ite (pp_mk_b1 (by omega) (by omega)), pp_gs]
    by_cases h : pp_go s t w 0 o = true
    · rw [if_pos h, if_pos h, h1, pp_put_1]
      obtain ⟨f2, rfl⟩ := pp_fu (show 0 < f by omega)
      rw [f_X12_goes_L18, pp_ite (pp_M_ov hT (by omega) i2)]
      refine ⟨μ1, t + 1, _, _, ?_, i2, i4⟩
      by_cases h3 : t + 1 < pp_e s
      · rw [if_pos h3, show (0 : Int32) = pp_i 0 from rfl, pp_ite (pp_ge (by omega) (by omega)), if_pos (by omega)]
      · rw [if_neg h3]
    · rw [if_neg h, if_neg h]
      obtain ⟨μ2, t1, w1, sc1, j1, j2, j3⟩ := ih f (t + 1) (pp_nw s t w 0) _ μ1 (by omega) (by omega) (pp_nw_16 hO hw) i2
      exact ⟨μ2, t1, w1, sc1, j1, j2, i4.trans j3⟩
theorem pp_M_oftenL {N : Nat} {s : Nat → Int32} {o : Nat} (hN : 200 ≤ N) (hI : pp_I s) (ho : o < pp_n s) : ∀ (m fuel t : Nat) (w : Nat → Nat) (sc x : Int32) (μ : g_M), t + m = pp_e s → m < fuel → (∀ o, o < pp_n s → w o < 16) → μ 1 = pp_put s t w sc →
    ∃ (μ1 : g_M) (t1 : Nat) (w1 : Nat → Nat) (sc1 : Int32), f_X12_often_L17 N fuel (pp_i o) x μ = some (pp_ofn s o m t w x, μ1) ∧ μ1 1 = pp_put s t1 w1 sc1 ∧ pp_F pp_SG μ μ1 := by
  obtain ⟨hB, hO, hR, hT⟩ := hI
  have hB2 := hB.2
  have h16 := hT.2.2.2.1
  intro m
  induction m with
  | zero =>
    intro fuel t w sc x μ hk hf hw h1
    obtain ⟨f, rfl⟩ := pp_fu hf
    rw [f_X12_often_L17, pp_ite (pp_M_ov hT (by omega) h1), if_neg (by omega)]
    exact ⟨μ, t, w, sc, rfl, h1, pp_F.refl⟩
  | succ m ih =>
    intro fuel t w sc x μ hk hf hw h1
    obtain ⟨f, rfl⟩ := pp_fu hf
    obtain ⟨μ1, i1, i2, i3, i4⟩ := pp_M_go (c := 0) hN hB hR hO (by decide) (by omega) hw h1
    rw [show pp_i 0 = (0 : Int32) from rfl] at i1
    rw [f_X12_often_L17, pp_ite (pp_M_ov hT (by omega) h1), if_pos (by omega), i1]
    simp only [Option.bind_some]
    rw [i3, pp_bat (pp_mk_64 (by omega)) (by omega), pp_mk_at, pp_ofn]
    obtain ⟨μ2, t1, w1, sc1, j1, j2, j3⟩ := ih f (t + 1) (pp_nw s t w 0) _ (if pp_go s t w 0 o = true then x + 1 else x) μ1 (by omega) (by omega) (pp_nw_16 hO hw) i2
    refine ⟨μ2, t1, w1, sc1, ?_, j2, i4.trans j3⟩
    rw [← j1]
    congr 1
    by_cases h : pp_go s t w 0 o = true
    · rw [if_pos ⟨by omega, h⟩, if_pos h]; rfl
    · rw [if_neg (fun q => h q.2), if_neg h]; exact Int32.add_zero x
/-- a loop of the reference's between laying aside and laying back -/
theorem pp_M_lay {s : Nat → Int32} {N t t1 : Nat} {w w1 : Nat → Nat} {sc sc1 : Int32} {μ μ2 : g_M} {fa : Nat → Int32} (hN : 200 ≤ N) (hI : pp_I s) (h1 : μ 1 = pp_put s t w sc) (a2 : ∀ j, j < 38 → fa (38 * 0 + j) = μ 1 j) (j2 : μ2 1 = pp_put s t1 w1 sc1) (j3 : pp_F pp_SG (pp_rw μ 3 fa) μ2) :
    f_X12_laysBack N 0 μ2 = some (pp_rw μ2 1 (pp_put s t w sc)) ∧ pp_F pp_SL μ (pp_rw μ2 1 (pp_put s t w sc)) ∧ pp_rw μ2 1 (pp_put s t w sc) 1 = μ 1 := by
  have hA : pp_A μ2 0 (pp_put s t w sc) := by
    intro j hj
    rw [j3 3 _ (by simp [pp_SG]), pp_rw_s, a2 j hj, h1]
  have b1 := pp_A_back hN (by decide) hI.1.2 hA j2
  rw [show pp_i 0 = (0 : Int32) from rfl] at b1
  refine ⟨b1, ?_, by rw [pp_rw_s, h1]⟩
  intro a b hab
  have hg := pp_SGL hab
  unfold pp_SL at hab
  simp only [decide_eq_false_iff_not, not_or] at hab
  rw [pp_rw_n hab.1, j3 a b hg, pp_rw_n hab.2.1]
theorem pp_M_goes {N : Nat} {s : Nat → Int32} {o : Nat} {μ : g_M} (hN : 200 ≤ N) (hI : pp_I s) (ho : o < pp_n s) (h1 : μ 1 = s) :
    ∃ μ1 : g_M, f_X12_goes N (pp_i o) μ = some (pp_gs s o (pp_e s - pp_t s) (pp_t s) (pp_w s), μ1) ∧ μ1 1 = μ 1 ∧ pp_F pp_SL μ μ1 := by
  have hB2 := hI.1.2
  have hs := pp_self hI.2.2.2
  have h16 := hI.2.2.2.2.2.2.1
  have hte := hI.2.2.2.2.2.2.2.1
  have h1' : μ 1 = pp_put s (pp_t s) (pp_w s) (s 3) := h1.trans hs
  obtain ⟨fa, a1, a2, a3⟩ := pp_A_aside (N := N) (lev := 0) (μ := μ) hN (by decide)
  obtain ⟨μ2, t1, w1, sc1, j1, j2, j3⟩ := pp_M_goesL hN hI ho (pp_e s - pp_t s) N (pp_t s) (pp_w s) (s 3) (pp_rw μ 3 fa) (by omega) (by omega) (fun o ho => (hI.2.2.2.2.2.2.2.2 o ho).2) (by rw [pp_rw_n (by decide), h1'])
  obtain ⟨b1, b2, b3⟩ := pp_M_lay hN hI h1' a2 j2 j3
  rw [show pp_i 0 = (0 : Int32) from rfl] at a1
  refine ⟨_, ?_, b3, b2⟩
  have hov : f_X12_isOven (pp_i o) μ = 1 := by
    unfold f_X12_isOven
    rw [h1, hI.1.1, show (0 : Int32) = pp_i 0 from rfl, pp_ite (pp_lt (by omega) (by omega)), if_neg (by omega), pp_ite (pp_ge (by omega) (by omega)), if_neg (by omega)]
  unfold f_X12_goes
  rw [hov, if_neg (by decide), a1]
  simp only [Option.bind_some]
  rw [j1]
  simp only [Option.bind_some]
  rw [b1]
  rfl
theorem pp_M_often {N : Nat} {s : Nat → Int32} {o : Nat} {μ : g_M} (hN : 200 ≤ N) (hI : pp_I s) (ho : o < pp_n s) (h1 : μ 1 = s) :
    ∃ μ1 : g_M, f_X12_often N (pp_i o) μ = some (pp_ofn s o (pp_e s - pp_t s) (pp_t s) (pp_w s) 0, μ1) ∧ μ1 1 = μ 1 ∧ pp_F pp_SL μ μ1 := by
  have hB2 := hI.1.2
  have hs := pp_self hI.2.2.2
  have h16 := hI.2.2.2.2.2.2.1
  have hte := hI.2.2.2.2.2.2.2.1
  have h1' : μ 1 = pp_put s (pp_t s) (pp_w s) (s 3) := h1.trans hs
  obtain ⟨fa, a1, a2, a3⟩ := pp_A_aside (N := N) (lev := 0) (μ := μ) hN (by decide)
  obtain ⟨μ2, t1, w1, sc1, j1, j2, j3⟩ := pp_M_oftenL hN hI ho (pp_e s - pp_t s) N (pp_t s) (pp_w s) (s 3) 0 (pp_rw μ 3 fa) (by omega) (by omega) (fun o ho => (hI.2.2.2.2.2.2.2.2 o ho).2) (by rw [pp_rw_n (by decide), h1'])
  obtain ⟨b1, b2, b3⟩ := pp_M_lay hN hI h1' a2 j2 j3
  rw [show pp_i 0 = (0 : Int32) from rfl] at a1
  refine ⟨_, ?_, b3, b2⟩
  have hov : f_X12_isOven (pp_i o) μ = 1 := by
    unfold f_X12_isOven
    rw [h1, hI.1.1, show (0 : Int32) = pp_i 0 from rfl, pp_ite (pp_lt (by omega) (by omega)), if_neg (by omega), pp_ite (pp_ge (by omega) (by omega)), if_neg (by omega)]
  unfold f_X12_often
  rw [hov, if_neg (by decide), a1]
  simp only [Option.bind_some]
  rw [j1]
  simp only [Option.bind_some]
  rw [b1]
  rfl
theorem pp_X_went {s : Nat → Int32} {t c o : Nat} {w : Nat → Nat} (hB2 : pp_n s ≤ 6) (hO : pp_O s) (ho : o < pp_n s) (hw : ∀ o, o < pp_n s → w o < 16) :
    f_X2_went (pp_i (pp_pk w (pp_n s))) (pp_i (pp_pk (pp_nw s t w c) (pp_n s))) (pp_i o) = if pp_go s t w c o = true then 1 else 0 := by
  have h1 := hw o ho
  have h2 := pp_nw_16 (t := t) (c := c) hO hw o ho
  unfold f_X2_went
  rw [pp_awp hB2 hw ho, pp_awp hB2 (pp_nw_16 hO hw) ho, pp_ite (pp_le (by omega) (by omega)), pp_ite (pp_go_up hB2)]
  by_cases h : w o < pp_nw s t w c o
  · rw [if_pos h, if_neg (by omega)]
  · rw [if_neg h, if_pos (by omega)]
theorem pp_X_goesL {N : Nat} {s : Nat → Int32} {o : Nat} (hN : 200 ≤ N) (hI : pp_I s) (ho : o < pp_n s) : ∀ (m fuel t : Nat) (w : Nat → Nat) (μ : g_M), t + m = pp_e s → m < fuel → (∀ o, o < pp_n s → w o < 16) → pp_D s μ →
    ∃ (μ1 : g_M), (match f_X2_firstGoing_L10 N fuel (pp_i o) (pp_i (pp_pk w (pp_n s))) (pp_i t) μ with | none => none | some (.inl q) => some q | some (.inr q) => some ((-3), q)) = some (pp_gs s o m t w, μ1) ∧ pp_F pp_Sc μ μ1 := by
  obtain ⟨hB, hO, hR, hT⟩ := hI
  have hB2 := hB.2
  have h16 := hT.2.2.2.1
  intro m
  induction m with
  | zero =>
    intro fuel t w μ hk hf hw hD
    obtain ⟨f, rfl⟩ := pp_fu hf
    rw [f_X2_firstGoing_L10, hD.2.2.2.1, hT.2.1, pp_ite (pp_ge (by omega) (by omega)), if_pos (by omega)]
    exact ⟨μ, rfl, pp_F.refl⟩
  | succ m ih =>
    intro fuel t w μ hk hf hw hD
    obtain ⟨f, rfl⟩ := pp_fu hf
    obtain ⟨μ1, i1, i2⟩ := pp_X_after (t := t) (c := 0) (w := w) hN hB hO hD.1 (by omega) (by decide) hw
    rw [show pp_i 0 = (0 : Int32) from rfl] at i1
    rw [f_X2_firstGoing_L10, hD.2.2.2.1, hT.2.1, pp_ite (pp_ge (by omega) (by omega)), if_neg (by omega), i1, show pp_i t + 1 = pp_i (t + 1) from pp_add t 1]
    simp only [Option.bind_some]
    rw [pp_X_went hB2 hO ho hw, pp_gs]
    by_cases h : pp_go s t w 0 o = true
    · rw [if_pos h, if_pos h, if_neg (by decide)]
      exact ⟨μ1, rfl, i2⟩
    · rw [if_neg h, if_neg h, if_pos rfl]
      obtain ⟨μ2, j1, j2⟩ := ih f (t + 1) (pp_nw s t w 0) μ1 (by omega) (by omega) (pp_nw_16 hO hw) (hD.F i2)
      exact ⟨μ2, j1, i2.trans j2⟩
theorem pp_X_oftenL {N : Nat} {s : Nat → Int32} {o : Nat} (hN : 200 ≤ N) (hI : pp_I s) (ho : o < pp_n s) : ∀ (m fuel t : Nat) (w : Nat → Nat) (x : Int32) (μ : g_M), t + m = pp_e s → m < fuel → (∀ o, o < pp_n s → w o < 16) → pp_D s μ →
    ∃ (μ1 : g_M), f_X2_goings_L13 N fuel (pp_i o) (pp_i (pp_pk w (pp_n s))) x (pp_i t) μ = some (pp_ofn s o m t w x, μ1) ∧ pp_F pp_Sc μ μ1 := by
  obtain ⟨hB, hO, hR, hT⟩ := hI
  have hB2 := hB.2
  have h16 := hT.2.2.2.1
  intro m
  induction m with
  | zero =>
    intro fuel t w x μ hk hf hw hD
    obtain ⟨f, rfl⟩ := pp_fu hf
    rw [f_X2_goings_L13, hD.2.2.2.1, hT.2.1, pp_ite (pp_ge (by omega) (by omega)), if_pos (by omega)]
    exact ⟨μ, rfl, pp_F.refl⟩
  | succ m ih =>
    intro fuel t w x μ hk hf hw hD
    obtain ⟨f, rfl⟩ := pp_fu hf
    obtain ⟨μ1, i1, i2⟩ := pp_X_after (t := t) (c := 0) (w := w) hN hB hO hD.1 (by omega) (by decide) hw
    rw [show pp_i 0 = (0 : Int32) from rfl] at i1
    rw [f_X2_goings_L13, hD.2.2.2.1, hT.2.1, pp_ite (pp_ge (by omega) (by omega)), if_neg (by omega), i1, show pp_i t + 1 = pp_i (t + 1) from pp_add t 1]
    simp only [Option.bind_some]
    rw [pp_X_went hB2 hO ho hw, pp_ofn]
    by_cases h : pp_go s t w 0 o = true
    · rw [if_pos h, if_pos h, if_neg (by decide)]
      obtain ⟨μ2, j1, j2⟩ := ih f (t + 1) (pp_nw s t w 0) (x + 1) μ1 (by omega) (by omega) (pp_nw_16 hO hw) (hD.F i2)
      exact ⟨μ2, j1, i2.trans j2⟩
    · rw [if_neg h, if_neg h, if_pos rfl]
      obtain ⟨μ2, j1, j2⟩ := ih f (t + 1) (pp_nw s t w 0) x μ1 (by omega) (by omega) (pp_nw_16 hO hw) (hD.F i2)
      exact ⟨μ2, j1, i2.trans j2⟩
theorem pp_X_oven {s : Nat → Int32} {μ : g_M} {o : Nat} (hB : pp_B s) (h0 : μ 1 11 = s 0) (ho : o < pp_n s) : f_X11_isOven (pp_i o) μ = 1 := by
  have hB2 := hB.2
  unfold f_X11_isOven f_X11_isBetween
  rw [h0, hB.1, show (1 : Int32) = pp_i 1 from rfl, pp_sub (by omega), show (0 : Int32) = pp_i 0 from rfl, pp_ite (pp_lt (by omega) (by omega)), if_neg (by omega), pp_ite (pp_gt (by omega) (by omega)), if_neg (by omega)]
theorem pp_X_goes {N : Nat} {s : Nat → Int32} {o : Nat} {μ : g_M} (hN : 200 ≤ N) (hI : pp_I s) (ho : o < pp_n s) (hD : pp_D s μ) :
    ∃ μ1 : g_M, f_X11_goes N (pp_i o) μ = some (pp_gs s o (pp_e s - pp_t s) (pp_t s) (pp_w s), μ1) ∧ pp_F pp_Sc μ μ1 := by
  have h16 := hI.2.2.2.2.2.2.1
  have hte := hI.2.2.2.2.2.2.2.1
  obtain ⟨μ1, j1, j2⟩ := pp_X_goesL hN hI ho (pp_e s - pp_t s) N (pp_t s) (pp_w s) μ (by omega) (by omega) (fun o ho => (hI.2.2.2.2.2.2.2.2 o ho).2) hD
  refine ⟨μ1, ?_, j2⟩
  unfold f_X11_goes f_X2_firstGoing
  rw [pp_X_oven hI.1 hD.1.1 ho, if_neg (by decide), hD.2.1, hD.2.2.1, hI.2.2.2.1]
  cases hc : f_X2_firstGoing_L10 N N (pp_i o) (pp_i (pp_pk (pp_w s) (pp_n s))) (pp_i (pp_t s)) μ with
  | none => rw [hc] at j1; cases j1
  | some q =>
    rw [hc] at j1
    cases q with
    | inl q =>
      have := Option.some.inj j1
      subst this
      rfl
    | inr q =>
      have := Option.some.inj j1
      simp only [Option.bind_some]
      rw [← this]
theorem pp_X_often {N : Nat} {s : Nat → Int32} {o : Nat} {μ : g_M} (hN : 200 ≤ N) (hI : pp_I s) (ho : o < pp_n s) (hD : pp_D s μ) :
    ∃ μ1 : g_M, f_X11_often N (pp_i o) μ = some (pp_ofn s o (pp_e s - pp_t s) (pp_t s) (pp_w s) 0, μ1) ∧ pp_F pp_Sc μ μ1 := by
  have h16 := hI.2.2.2.2.2.2.1
  have hte := hI.2.2.2.2.2.2.2.1
  obtain ⟨μ1, j1, j2⟩ := pp_X_oftenL hN hI ho (pp_e s - pp_t s) N (pp_t s) (pp_w s) 0 μ (by omega) (by omega) (fun o ho => (hI.2.2.2.2.2.2.2.2 o ho).2) hD
  refine ⟨μ1, ?_, j2⟩
  unfold f_X11_often f_X2_goings
  rw [pp_X_oven hI.1 hD.1.1 ho, if_neg (by decide), hD.2.1, hD.2.2.1, hI.2.2.2.1, j1]
  rfl
