/-! ===== the class settles what OVENS long for and will ===== -/
/-- count and OVENS of the class are those of s -/
def pp_V (s : Nat → Int32) (μ : g_M) : Prop := μ 1 11 = s 0 ∧ ∀ o, o < pp_n s → μ 9 o = s (8 + 5 * o + 0) ∧ μ 10 o = s (8 + 5 * o + 1) ∧ μ 11 o = s (8 + 5 * o + 2) ∧ μ 12 o = s (8 + 5 * o + 3)
def pp_Ss (a _b : Nat) : Bool := decide (a = 13 ∨ a = 14 ∨ a = 16)
theorem pp_V.F {s : Nat → Int32} {μ μ1 : g_M} (h : pp_V s μ) (hF : pp_F pp_Ss μ μ1) : pp_V s μ1 := by
  have e : ∀ a, a ≠ 13 → a ≠ 14 → a ≠ 16 → μ1 a = μ a := fun a h1 h2 h3 => hF.row (fun b => by simp [pp_Ss, h1, h2, h3])
  unfold pp_V
  rw [e 1 (by decide) (by decide) (by decide), e 9 (by decide) (by decide) (by decide), e 10 (by decide) (by decide) (by decide), e 11 (by decide) (by decide) (by decide), e 12 (by decide) (by decide) (by decide)]
  exact h
theorem pp_RR.F {s : Nat → Int32} {μ μ1 : g_M} {r L : Nat} (h : pp_RR μ r L s) (e : ∀ a, r ≤ a → a ≤ r + 4 → μ1 a = μ a) : pp_RR μ1 r L s := by
  unfold pp_RR
  rw [e r (by omega) (by omega), e (r + 1) (by omega) (by omega), e (r + 2) (by omega) (by omega), e (r + 3) (by omega) (by omega), e (r + 4) (by omega) (by omega)]
  exact h
theorem pp_RR.Fs {s : Nat → Int32} {μ μ1 : g_M} {r L : Nat} (hr : 18 ≤ r) (h : pp_RR μ r L s) (hF : pp_F pp_Ss μ μ1) : pp_RR μ1 r L s :=
  h.F (fun a h1 h2 => hF.row (fun b => by
    unfold pp_Ss
    simp only [decide_eq_false_iff_not]
    omega))
theorem pp_X_sw {s : Nat → Int32} {μ : g_M} {o k : Nat} (hB2 : pp_n s ≤ 6) (hO : pp_O s) (hV : pp_V s μ) (ho : o < pp_n s) (hk : k < pp_n s) : f_X9_settleWish (pp_i o) (pp_i k) μ = some (g_set μ 13 (o * 6 + k) (pp_ws s o k)) := by
  obtain ⟨k1, a1, p1, f1, h1, h2, h3, h4, h5, h6, e1, e2, e3, e4⟩ := hO o ho
  obtain ⟨k2, a2, p2, f2, j1, j2, j3, j4, j5, j6, g1, g2, g3, g4⟩ := hO k hk
  obtain ⟨v1, v2, v3, v4⟩ := hV.2 o ho
  obtain ⟨u1, u2, u3, u4⟩ := hV.2 k hk
  have hw : ∀ x : Int32, g_wr μ 13 36 (pp_i o * 6 + pp_i k) x = some (g_set μ 13 (o * 6 + k) x) := by
    intro x
    rw [show (6 : Int32) = pp_i 6 from rfl, pp_mul, pp_add, pp_wr (by omega) (by decide)]
  unfold f_X9_settleWish
  rw [pp_rd (by omega) (by decide), v3, e3]
  simp only [Option.bind_some]
  rw [pp_rd (by omega) (by decide), u3, g3]
  simp only [Option.bind_some]
  rw [pp_X_abs (by omega) (by omega), pp_rd (by omega) (by decide), v1, e1]
  simp only [Option.bind_some]
  rw [pp_rd (by omega) (by decide), u2, g2, pp_rd (by omega) (by decide), v2, e2]
  simp only [Option.bind_some, hw]
  unfold f_X10_yearns_4 f_X6_yearns_5 f_X1_yearns_6 f_X4_yearns_7 f_X5_yearns_8 f_X3_yearns_4 f_X3_yearns_5 f_X4_yearns_8 pp_ws f_X12_longsBy
  rw [e1, e2, e3, g2, g3, pp_M_ap (by omega) (by omega)]
  have hle : (pp_i k ≤ pp_i o) = (k ≤ o) := pp_le (by omega) (by omega)
  have hk5 : k1 = 1 ∨ k1 = 2 ∨ k1 = 3 ∨ k1 = 4 ∨ k1 = 5 := by omega
  by_cases c : k ≤ o
  · have c' : pp_i k ≤ pp_i o := by rw [hle]; exact c
    simp only [if_pos c', if_neg (show ¬ o < k by omega)]
    rcases hk5 with rfl | rfl | rfl | rfl | rfl
    · rfl
    · rfl
    · rfl
    · rfl
    · exact congrArg (fun z => some (g_set μ 13 (o * 6 + k) z)) (Int32.add_zero (pp_i a2))
  · have c' : ¬ pp_i k ≤ pp_i o := by rw [hle]; exact c
    simp only [if_neg c', if_pos (show o < k by omega)]
    rcases hk5 with rfl | rfl | rfl | rfl | rfl
    · rfl
    · rfl
    · rfl
    · rfl
    · rfl
/-- the class's town but for what OVEN o longs for, is longed for and wills -/
def pp_Cx (s : Nat → Int32) (μ : g_M) (o : Nat) : Prop := pp_V s μ ∧ (∀ a k, a < pp_n s → k < pp_n s → ¬ a = k → ¬ a = o → ¬ k = o → μ 13 (a * 6 + k) = pp_ws s a k) ∧ (∀ t a, t ≤ 16 → a < pp_n s → ¬ a = o → μ 14 (t * 6 + a) = pp_wl s t a)
theorem pp_X_settle {N : Nat} {s : Nat → Int32} {μ : g_M} {r L o : Nat} (hN : 200 ≤ N) (hB : pp_B s) (hO : pp_O s) (hr : 18 ≤ r) (hRR : pp_RR μ r L s) (ho : o < pp_n s) (hC : pp_Cx s μ o) :
    ∃ μ1 : g_M, f_X9_settle N r L (pp_i o) μ = some μ1 ∧ pp_C s μ1 ∧ pp_F pp_Ss μ μ1 := by
  have hB2 := hB.2
  -- wishes
  have loop : ∀ (m fuel k : Nat) (μ : g_M), k + m = pp_n s → m < fuel → pp_V s μ → (∀ a k, a < pp_n s → k < pp_n s → ¬ a = k → ¬ a = o → ¬ k = o → μ 13 (a * 6 + k) = pp_ws s a k) → (∀ j, j < k → ¬ j = o → μ 13 (o * 6 + j) = pp_ws s o j ∧ μ 13 (j * 6 + o) = pp_ws s j o) →
      ∃ μ1 : g_M, f_X9_settle_L2 N r L fuel (pp_i o) (pp_i k) μ = some μ1 ∧ (∀ a k, a < pp_n s → k < pp_n s → ¬ a = k → μ1 13 (a * 6 + k) = pp_ws s a k) ∧ pp_F (fun a _ => decide (a = 13)) μ μ1 := by
    intro m
    induction m with
    | zero =>
      intro fuel k μ hk hf hV h1 h2
      obtain ⟨f, rfl⟩ := pp_fu hf
      rw [f_X9_settle_L2, hV.1, hB.1, pp_ite (pp_ge (by omega) (by omega)), if_pos (by omega)]
      refine ⟨μ, rfl, fun a b ha hb hne => ?_, pp_F.refl⟩
      by_cases e1 : a = o
      · subst e1
        exact (h2 b (by omega) (fun q => hne q.symm)).1
      · by_cases e2 : b = o
        · subst e2
          exact (h2 a (by omega) hne).2
        · exact h1 a b ha hb hne e1 e2
    | succ m ih =>
      intro fuel k μ hk hf hV h1 h2
      obtain ⟨f, rfl⟩ := pp_fu hf
      rw [f_X9_settle_L2, hV.1, hB.1, pp_ite (pp_ge (by omega) (by omega)), if_neg (by omega), pp_ite (pp_eq (by omega) (by omega)), show pp_i k + 1 = pp_i (k + 1) from pp_add k 1]
      by_cases c : k = o
      · rw [if_pos c]
        exact ih f (k + 1) μ (by omega) (by omega) hV h1 (fun j hj hne => h2 j (by omega) hne)
      · rw [if_neg c, pp_X_sw hB2 hO hV ho (by omega)]
        simp only [Option.bind_some]
        have hF1 : pp_F pp_Ss μ (g_set μ 13 (o * 6 + k) (pp_ws s o k)) := pp_F.set (by simp [pp_Ss])
        rw [pp_X_sw hB2 hO (hV.F hF1) (by omega) ho]
        simp only [Option.bind_some]
        have hF2 : pp_F pp_Ss (g_set μ 13 (o * 6 + k) (pp_ws s o k)) (g_set (g_set μ 13 (o * 6 + k) (pp_ws s o k)) 13 (k * 6 + o) (pp_ws s k o)) := pp_F.set (by simp [pp_Ss])
        obtain ⟨μ1, i1, i2, i3⟩ := ih f (k + 1) _ (by omega) (by omega) ((hV.F hF1).F hF2) (fun a b ha hb hne e1 e2 => by
          rw [pp_set_n (by omega), pp_set_n (by omega)]
          exact h1 a b ha hb hne e1 e2) (fun j hj hne => by
          by_cases e : j = k
          · subst e
            exact ⟨by rw [pp_set_n (by omega), pp_set_s], by rw [pp_set_s]⟩
          · have := h2 j (by omega) hne
            exact ⟨by rw [pp_set_n (by omega), pp_set_n (by omega)]; exact this.1, by rw [pp_set_n (by omega), pp_set_n (by omega)]; exact this.2⟩)
        exact ⟨μ1, i1, i2, ((pp_F.set (by simp)).trans (pp_F.set (by simp))).trans i3⟩
  obtain ⟨μ1, i1, i2, i3⟩ := loop (pp_n s) N 0 μ (by omega) (by omega) hC.1 hC.2.1 (fun j hj => absurd hj (Nat.not_lt_zero j))
  have i3' : pp_F pp_Ss μ μ1 := i3.mono (fun a b h => by
    unfold pp_Ss at h
    simp only [decide_eq_false_iff_not] at h ⊢
    omega)
  have hV1 := hC.1.F i3'
  have hRR1 := hRR.Fs hr i3'
  have h14 : μ1 14 = μ 14 := i3.row (fun b => by simp)
  -- wills
  obtain ⟨v1, v2, v3, v4⟩ := hV1.2 o ho
  obtain ⟨k1, a1, p1, f1, h1, h2, h3, h4, h5, h6, e1, e2, e3, e4⟩ := hO o ho
  have wloop : ∀ (m fuel t : Nat) (μ : g_M), t + m = 17 → m < fuel → pp_V s μ → pp_RR μ r L s → (∀ j, 1 ≤ j → j < 5 → μ 16 j = if j = 4 then pp_i o else s (8 + 5 * o + j)) → (∀ u, u < t → μ 14 (u * 6 + o) = pp_wl s u o) →
      ∃ μ2 : g_M, f_X9_settleWills_L45 N r L fuel (pp_i o) (pp_i t) μ = some μ2 ∧ (∀ u, u ≤ 16 → μ2 14 (u * 6 + o) = pp_wl s u o) ∧ (∀ u a, a < 6 → ¬ a = o → μ2 14 (u * 6 + a) = μ 14 (u * 6 + a)) ∧ pp_F (fun a _ => decide (a = 14 ∨ a = 16)) μ μ2 := by
    intro m
    induction m with
    | zero =>
      intro fuel t μ ht hf hV hRR h16 hw
      obtain ⟨f, rfl⟩ := pp_fu hf
      rw [f_X9_settleWills_L45, show (16 : Int32) = pp_i 16 from rfl, pp_ite (pp_gt (by omega) (by omega)), if_pos (by omega)]
      exact ⟨μ, rfl, fun u hu => hw u (by omega), fun _ _ _ _ => rfl, pp_F.refl⟩
    | succ m ih =>
      intro fuel t μ ht hf hV hRR h16 hw
      obtain ⟨f, rfl⟩ := pp_fu hf
      rw [f_X9_settleWills_L45, show (16 : Int32) = pp_i 16 from rfl, pp_ite (pp_gt (by omega) (by omega)), if_neg (by omega)]
      simp only [Option.bind_some]
      have hF1 : pp_F pp_Ss μ (g_set μ 16 0 (pp_i t)) := pp_F.set (by simp [pp_Ss])
      have hV1 := hV.F hF1
      have hRR1 := hRR.Fs hr hF1
      have hFX : pp_FX (g_set μ 16 0 (pp_i t)) s t o := ⟨by rw [pp_set_s], by rw [pp_set_n (by decide), h16 1 (by decide) (by decide)]; rfl, by rw [pp_set_n (by decide), h16 2 (by decide) (by decide)]; rfl, by rw [pp_set_n (by decide), h16 3 (by decide) (by decide)]; rfl, by rw [pp_set_n (by decide), h16 4 (by decide) (by decide)]; rfl⟩
      rw [pp_rd (by omega) (by decide), (hV1.2 o ho).1, e1]
      simp only [Option.bind_some]
      rw [pp_X_tells hN hRR1 hFX (by omega) e1]
      simp only [Option.bind_some]
      rw [show (6 : Int32) = pp_i 6 from rfl, pp_mul, pp_add, pp_wr (by omega) (by decide), show pp_i t + 1 = pp_i (t + 1) from pp_add t 1]
      simp only [Option.bind_some]
      have hF2 : pp_F pp_Ss (g_set μ 16 0 (pp_i t)) (g_set (g_set μ 16 0 (pp_i t)) 14 (t * 6 + o) (pp_wl s t o)) := pp_F.set (by simp [pp_Ss])
      obtain ⟨μ2, j1, j2, j3, j4⟩ := ih f (t + 1) _ (by omega) (by omega) (hV1.F hF2) (hRR1.Fs hr hF2) (fun j hj1 hj2 => by
        rw [pp_rowN (by decide), pp_set_n (by omega)]
        exact h16 j hj1 hj2) (fun u hu => by
        by_cases e : u = t
        · subst e; rw [pp_set_s]
        · rw [pp_set_n (by omega), pp_rowN (by decide)]
          exact hw u (by omega))
      exact ⟨μ2, j1, j2, fun u a ha hne => by rw [j3 u a ha hne, pp_set_n (by omega), pp_rowN (by decide)], ((pp_F.set (by simp)).trans (pp_F.set (by simp))).trans j4⟩
  generalize hμ7 : g_set (g_set (g_set (g_set μ1 16 1 (s (8 + 5 * o + 1))) 16 2 (s (8 + 5 * o + 2))) 16 3 (s (8 + 5 * o + 3))) 16 4 (pp_i o) = μ7
  have hF7 : pp_F pp_Ss μ1 μ7 := by
    rw [← hμ7]
    exact (((pp_F.set (by simp [pp_Ss])).trans (pp_F.set (by simp [pp_Ss]))).trans (pp_F.set (by simp [pp_Ss]))).trans (pp_F.set (by simp [pp_Ss]))
  have r7 : ∀ a, a ≠ 16 → μ7 a = μ1 a := fun a ha => by rw [← hμ7, pp_rowN ha, pp_rowN ha, pp_rowN ha, pp_rowN ha]
  obtain ⟨μ2, j1, j2, j3, j4⟩ := wloop 17 N 0 μ7 (by omega) (by omega) (hV1.F hF7) (hRR1.Fs hr hF7) (fun j h1 h2 => by
    rw [← hμ7]
    have hj : j = 1 ∨ j = 2 ∨ j = 3 ∨ j = 4 := by omega
    rcases hj with rfl | rfl | rfl | rfl <;> rfl) (fun u hu => absurd hu (Nat.not_lt_zero u))
  have j4' : pp_F pp_Ss μ7 μ2 := j4.mono (fun a b h => by
    unfold pp_Ss at h
    simp only [decide_eq_false_iff_not] at h ⊢
    omega)
  have hV2 := (hV1.F hF7).F j4'
  refine ⟨μ2, ?_, ⟨hV2.1, hV2.2, fun a b ha hb hne => ?_, fun t a ht ha => ?_⟩, (i3'.trans hF7).trans j4'⟩
  · unfold f_X9_settle f_X9_settleWills
    rw [show pp_i 0 = (0 : Int32) from rfl] at i1 j1
    rw [i1]
    simp only [Option.bind_some]
    rw [pp_rd (by omega) (by decide), v2]
    simp only [Option.bind_some]
    rw [pp_rd (by omega) (by decide), pp_rowN (by decide), v3]
    simp only [Option.bind_some]
    rw [pp_rd (by omega) (by decide), pp_rowN (by decide), pp_rowN (by decide), v4]
    simp only [Option.bind_some]
    rw [hμ7, j1]
    rfl
  · rw [j4.row (a := 13) (fun b => by simp), r7 13 (by decide)]
    exact i2 a b ha hb hne
  · by_cases e : a = o
    · subst e
      exact j2 t ht
    · rw [j3 t a (by omega) e, r7 14 (by decide), h14]
      exact hC.2.2 t a ht ha e
/-- WILL looks at the RULES and at the OVEN alone -/
theorem pp_wl_congr {s s2 : Nat → Int32} {t o : Nat} (h5 : s2 5 = s 5) (h38 : ∀ j, 38 ≤ j → s2 j = s j) (ho : ∀ i, i < 4 → s2 (8 + 5 * o + i) = s (8 + 5 * o + i)) : pp_wl s2 t o = pp_wl s t o := by
  have hv : ∀ v, pp_vl s2 t o v = pp_vl s t o v := by
    intro v
    unfold pp_vl
    rw [ho 1 (by decide), ho 2 (by decide), ho 3 (by decide)]
  have hrun : ∀ (m k : Nat) (x : Int64), pp_run s2 t o m k x = pp_run s t o m k x := by
    intro m
    induction m with
    | zero => exact fun _ _ => rfl
    | succ m ih =>
      intro k x
      rw [pp_run, pp_run, ih, h38 _ (by omega), h38 _ (by omega), h38 _ (by omega), hv, hv]
  have hL : ∀ (m r : Nat), pp_wlL s2 t o m r = pp_wlL s t o m r := by
    intro m
    induction m with
    | zero => exact fun _ => rfl
    | succ m ih =>
      intro r
      rw [pp_wlL, pp_wlL, ih, ho 0 (by decide), h38 _ (by omega), h38 _ (by omega)]
      unfold pp_hd
      rw [h38 _ (by omega), h38 _ (by omega), hrun]
  unfold pp_wl
  rw [h5, hL]
