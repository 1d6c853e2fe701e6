/-! ===== rules() of the class: the towns' wills anew ===== -/
theorem pp_X_wills {N : Nat} {s : Nat → Int32} {μ : g_M} {r L o : Nat} (hN : 200 ≤ N) (hB : pp_B s) (hO : pp_O s) (hr : 18 ≤ r) (hRR : pp_RR μ r L s) (hV : pp_V s μ) (ho : o < pp_n s) :
    ∃ μ2 : g_M, f_X9_settleWills N r L (pp_i o) μ = some μ2 ∧ (∀ u, u ≤ 16 → μ2 14 (u * 6 + o) = pp_wl s u o) ∧ (∀ u a, a < 6 → ¬ a = o → μ2 14 (u * 6 + a) = μ 14 (u * 6 + a)) ∧ pp_F (fun a _ => decide (a = 14 ∨ a = 16)) μ μ2 := by
  have hB2 := hB.2
  obtain ⟨v1, v2, v3, v4⟩ := hV.2 o ho
  obtain ⟨k1, a1, p1, f1, h1, h2, h3, h4, h5, h6, e1, e2, e3, e4⟩ := hO o ho
  have wloop : ∀ (m fuel t : Nat) (μ : g_M), t + m = 17 → m < fuel → pp_V s μ → pp_RR μ r L s → (∀ j, 1 ≤ j → j < 5 → μ 16 j = if j = 4 then pp_i o else s (8 + 5 * o + j)) → (∀ u, u < t → μ 14 (u * 6 + o) = pp_wl s u o) →
      ∃ μ2 : g_M, f_X9_settleWills_L45 N r L fuel (pp_i o) (pp_i t) μ = some μ2 ∧ (∀ u, u ≤ 16 → μ2 14 (u * 6 + o) = pp_wl s u o) ∧ (∀ u a, a < 6 → ¬ a = o → μ2 14 (u * 6 + a) = μ 14 (u * 6 + a)) ∧ pp_F (fun a _ => decide (a = 14 ∨ a = 16)) μ μ2 := by
    intro m
    induction m with
    | zero =>
      intro fuel t μ ht hf hV hRR h16 hw
      obtain ⟨f, rfl⟩ := pp_fu hf
      rw [f_X9_settleWills_L45, show (16 : Int32) = pp_i 16 from rfl, pp_ite (pp_gt (by omega) (by omega)), if_pos (by omega)]
      exact ⟨μ, rfl, fun u hu => hw u (by omega), fun _ _ _ _ => rfl, pp_F.refl⟩
    | succ m ih =>
      intro fuel t μ ht hf hV hRR h16 hw
      obtain ⟨f, rfl⟩ := pp_fu hf
      rw [f_X9_settleWills_L45, show (16 : Int32) = pp_i 16 from rfl, pp_ite (pp_gt (by omega) (by omega)), if_neg (by omega)]
      simp only [Option.bind_some]
      have hF1 : pp_F pp_Ss μ (g_set μ 16 0 (pp_i t)) := pp_F.set (by simp [pp_Ss])
      have hV1 := hV.F hF1
      have hRR1 := hRR.Fs hr hF1
      have hFX : pp_FX (g_set μ 16 0 (pp_i t)) s t o := ⟨by rw [pp_set_s], by rw [pp_set_n (by decide), h16 1 (by decide) (by decide)]; rfl, by rw [pp_set_n (by decide), h16 2 (by decide) (by decide)]; rfl, by rw [pp_set_n (by decide), h16 3 (by decide) (by decide)]; rfl, by rw [pp_set_n (by decide), h16 4 (by decide) (by decide)]; rfl⟩
      rw [pp_rd (by omega) (by decide), (hV1.2 o ho).1, e1]
      simp only [Option.bind_some]
      rw [pp_X_tells hN hRR1 hFX (by omega) e1]
      simp only [Option.bind_some]
      rw [show (6 : Int32) = pp_i 6 from rfl, pp_mul, pp_add, pp_wr (by omega) (by decide), show pp_i t + 1 = pp_i (t + 1) from pp_add t 1]
      simp only [Option.bind_some]
      have hF2 : pp_F pp_Ss (g_set μ 16 0 (pp_i t)) (g_set (g_set μ 16 0 (pp_i t)) 14 (t * 6 + o) (pp_wl s t o)) := pp_F.set (by simp [pp_Ss])
      obtain ⟨μ2, j1, j2, j3, j4⟩ := ih f (t + 1) _ (by omega) (by omega) (hV1.F hF2) (hRR1.Fs hr hF2) (fun j hj1 hj2 => by
        rw [pp_rowN (by decide), pp_set_n (by omega)]
        exact h16 j hj1 hj2) (fun u hu => by
        by_cases e : u = t
        · subst e; rw [pp_set_s]
        · rw [pp_set_n (by omega), pp_rowN (by decide)]
          exact hw u (by omega))
      exact ⟨μ2, j1, j2, fun u a ha hne => by rw [j3 u a ha hne, pp_set_n (by omega), pp_rowN (by decide)], ((pp_F.set (by simp)).trans (pp_F.set (by simp))).trans j4⟩
  generalize hμ7 : g_set (g_set (g_set (g_set μ 16 1 (s (8 + 5 * o + 1))) 16 2 (s (8 + 5 * o + 2))) 16 3 (s (8 + 5 * o + 3))) 16 4 (pp_i o) = μ7
  have hF7 : pp_F pp_Ss μ μ7 := by
    rw [← hμ7]
    exact (((pp_F.set (by simp [pp_Ss])).trans (pp_F.set (by simp [pp_Ss]))).trans (pp_F.set (by simp [pp_Ss]))).trans (pp_F.set (by simp [pp_Ss]))
  have r7 : ∀ a, a ≠ 16 → μ7 a = μ a := fun a ha => by rw [← hμ7, pp_rowN ha, pp_rowN ha, pp_rowN ha, pp_rowN ha]
  obtain ⟨μ2, j1, j2, j3, j4⟩ := wloop 17 N 0 μ7 (by omega) (by omega) (hV.F hF7) (hRR.Fs hr hF7) (fun j h1 h2 => by
    rw [← hμ7]
    have hj : j = 1 ∨ j = 2 ∨ j = 3 ∨ j = 4 := by omega
    rcases hj with rfl | rfl | rfl | rfl <;> rfl) (fun u hu => absurd hu (Nat.not_lt_zero u))
  refine ⟨μ2, ?_, j2, fun u a ha hne => by rw [j3 u a ha hne, r7 14 (by decide)], ?_⟩
  · unfold f_X9_settleWills
    rw [show pp_i 0 = (0 : Int32) from rfl] at j1
    rw [pp_rd (by omega) (by decide), v2]
    simp only [Option.bind_some]
    rw [pp_rd (by omega) (by decide), pp_rowN (by decide), v3]
    simp only [Option.bind_some]
    rw [pp_rd (by omega) (by decide), pp_rowN (by decide), pp_rowN (by decide), v4]
    simp only [Option.bind_some]
    rw [hμ7, j1]
    rfl
  · intro a b hab
    have q := of_decide_eq_false hab
    rw [j4 a b hab, r7 a (by omega)]
/-- obey's loop -/
def pp_obL (N t L : Nat) : Nat → Int32 → g_M → Option g_M
  | 0, _, _ => none
  | n + 1, x, μ => if x ≥ (μ 1 11) then some μ else (f_X9_settleWills N t L x μ).bind fun μ1 => pp_obL N t L n (x + 1) μ1
theorem pp_X_obey {N : Nat} {s : Nat → Int32} {r L : Nat} (hN : 200 ≤ N) (hB : pp_B s) (hO : pp_O s) (hr : 18 ≤ r) : ∀ (m fuel o : Nat) (μ : g_M), o + m = pp_n s → m < fuel → pp_RR μ r L s → pp_V s μ → (∀ u a, u ≤ 16 → a < o → μ 14 (u * 6 + a) = pp_wl s u a) →
    ∃ μ1 : g_M, pp_obL N r L fuel (pp_i o) μ = some μ1 ∧ (∀ u a, u ≤ 16 → a < pp_n s → μ1 14 (u * 6 + a) = pp_wl s u a) ∧ pp_F (fun a _ => decide (a = 14 ∨ a = 16)) μ μ1 := by
  have hB2 := hB.2
  intro m
  induction m with
  | zero =>
    intro fuel o μ ho hf hR hV hw
    obtain ⟨f, rfl⟩ := pp_fu hf
    rw [pp_obL, hV.1, hB.1, pp_ite (pp_ge (by omega) (by omega)), if_pos (by omega)]
    exact ⟨μ, rfl, fun u a hu ha => hw u a hu (by omega), pp_F.refl⟩
  | succ m ih =>
    intro fuel o μ ho hf hR hV hw
    obtain ⟨f, rfl⟩ := pp_fu hf
    obtain ⟨μ2, i1, i2, i3, i4⟩ := pp_X_wills (N := N) hN hB hO hr hR hV (show o < pp_n s by omega)
    have i4' : pp_F pp_Ss μ μ2 := i4.mono (fun a b q => by
      have q := of_decide_eq_false q
      exact decide_eq_false (by omega))
    obtain ⟨μ3, j1, j2, j3⟩ := ih f (o + 1) μ2 (by omega) (by omega) (hR.Fs hr i4') (hV.F i4') (fun u a hu ha => by
      by_cases c : a = o
      · rw [c]
        exact i2 u hu
      · rw [i3 u a (by omega) c]
        exact hw u a hu (by omega))
    refine ⟨μ3, ?_, j2, i4.trans j3⟩
    rw [pp_obL, hV.1, hB.1, pp_ite (pp_ge (by omega) (by omega)), if_neg (by omega), i1, show pp_i o + 1 = pp_i (o + 1) from pp_add o 1]
    exact j1
/-- cells made anew hold zeros -/
def pp_new (r : Nat) (μ : g_M) : g_M := fun a b => if r ≤ a then 0 else μ a b
theorem pp_new_lo {r a : Nat} {μ : g_M} (h : a < r) : pp_new r μ a = μ a := by
  funext b
  unfold pp_new
  rw [if_neg (by omega)]
theorem pp_new_hi {r a b : Nat} {μ : g_M} (h : r ≤ a) : pp_new r μ a b = 0 := if_pos h
theorem pp_WX.F {l W : Nat} {b : Nat → Nat} {μ μ1 : g_M} (h : pp_WX μ l b W) (e4 : μ1 45 4 = μ 45 4) (e48 : μ1 47 = μ 47) (e49 : μ1 48 = μ 48) (e50 : μ1 49 = μ 49) : pp_WX μ1 l b W := by
  unfold pp_WX
  rw [e4, e48, e49, e50]
  exact h
/-- the class reads the tape: as its code goes -/
theorem pp_c_rules {N t L u Lu r : Nat} {μX μM : g_M} (hN : 1000 ≤ N) (hr : 63 ≤ r) (htr : t + 5 ≤ r) (hur : u + 5 ≤ r) (h : pp_Rel t L u Lu μX μM) :
    ∃ (μ1 μ5 : g_M) (W : Nat) (w fa c ans : Int32) (μM1 : g_M), f_X8_splitTape N μX = some μ1 ∧ W ≤ 200 ∧ μ1 45 4 = pp_i W ∧ pp_rtL N r (3 * W) N 0 1 (pp_new r (g_set (g_set μ1 45 6 0) 45 5 0)) = some (w, μ5) ∧ g_rd μ5 48 201 (μ5 45 5) = some fa ∧ g_rd μ5 47 201 (μ5 45 5) = some c ∧
      f_X12_rules N μM = some (ans, μM1) ∧
      (((w = 0 ∨ ¬ c = 26) ∧ ans = -100 - fa ∧ pp_Rel t L u Lu (g_set μ5 45 7 fa) μM1) ∨
       (w = 1 ∧ c = 26 ∧ ∃ μ7 : g_M, pp_obL N r (3 * W) N 0 (g_set μ5 45 7 fa) = some μ7 ∧ μ7 r 4 = ans ∧ pp_Rel r (3 * W) u Lu μ7 μM1)) := by
  obtain ⟨ht, hu, ⟨hI, hD, hR, cc, hp⟩, hk, ⟨l, b, t1, t2, t3, t4, t5⟩, hrw, hsh, hh, htrc⟩ := h
  have hn6 := hI.1.2
  obtain ⟨μ1, W, s1, s2, s3⟩ := pp_X_split (N := N) (by omega) t1 t4
  have hWl : W ≤ l := s2.2.1
  have hl : l ≤ 200 := t1.1
  obtain ⟨μ4, h4⟩ : ∃ μ, μ = pp_new r (g_set (g_set μ1 45 6 0) 45 5 0) := ⟨_, rfl⟩
  have lo : ∀ a, a < r → ¬ a = 45 → μ4 a = μ1 a := fun a ha hb => by
    rw [h4, pp_new_lo ha, pp_rowN hb, pp_rowN hb]
  have l46 : ∀ b, ¬ b = 5 → ¬ b = 6 → μ4 45 b = μ1 45 b := fun b hb hb2 => by
    rw [h4, pp_new_lo (by omega), pp_set_n (by omega), pp_set_n (by omega)]
  have hW4 : pp_WX μ4 l b W := s2.F (l46 4 (by decide) (by decide)) (lo 47 (by omega) (by decide)) (lo 48 (by omega) (by decide)) (lo 49 (by omega) (by decide))
  obtain ⟨w, ans, μ5, μM1, j1, r1, r2, r3, r4, r5, r6, r7, r8, r9, r10⟩ := pp_rules_both (N := N) (l := l) (W := W) (r := r) (b := b) (μX := μ4) (μM := μM) hN (by omega) hW4 (by rw [h4, pp_new_lo (by omega), pp_set_s]; rfl) (by rw [h4, pp_new_hi (Nat.le_refl _)]; rfl) (by rw [h4, pp_new_hi (Nat.le_refl _)]; rfl) t2 t3 t5
  -- which cells are others
  have f5 : ∀ a, a < r → ¬ a = 45 → μ5 a = μ4 a := fun a ha hb => r3.row (fun c => decide_eq_false (by omega))
  have f46 : ∀ b, ¬ b = 5 → μ5 45 b = μ4 45 b := fun b hb => r3 45 b (decide_eq_false (by omega))
  obtain ⟨q1, q2, q3, q4, q5, q6⟩ := r7
  have hfa : ∃ fa, μ5 48 j1 = fa := ⟨_, rfl⟩
  obtain ⟨fa, hfa⟩ := hfa
  obtain ⟨c, hc⟩ : ∃ c, μ5 47 j1 = c := ⟨_, rfl⟩
  have hfa2 : fa = pp_i (pp_wp l b j1) := by
    rw [← hfa]
    by_cases e : j1 = W
    · rw [e, q5, q1]
    · exact (q6 j1 (by omega)).2.2.1
  have hc26 : (c = 26) = (j1 = W) := by
    rw [← hc]
    by_cases e : j1 = W
    · rw [e, q4]
      exact propext ⟨fun _ => rfl, fun _ => rfl⟩
    · rw [(q6 j1 (by omega)).2.1]
      have := pp_cd_le (l := l) (p := pp_wp l b j1) (b := b)
      refine propext ⟨fun q => absurd (pp_inj (b := 26) (by omega) (by decide) q) (by omega), fun q => absurd q e⟩
  -- the frame of all that isn't the town
  have eX : ∀ a, a < r → ¬ (45 ≤ a ∧ a ≤ 49) → g_set μ5 45 7 fa a = μX a := fun a ha hb => by
    rw [pp_rowN (by omega), f5 a ha (by omega), lo a ha (by omega)]
    exact s3.row (fun b => decide_eq_false (by omega))
  have e47 : g_set μ5 45 7 fa 46 = μX 46 := by
    rw [pp_rowN (by decide), f5 46 (by omega) (by decide), lo 46 (by omega) (by decide)]
    exact s3.row (fun b => decide_eq_false (by omega))
  have e466 : g_set μ5 45 7 fa 45 6 = pp_i 0 := by
    rw [pp_set_n (by decide), f46 6 (by decide), h4, pp_new_lo (by omega), pp_set_n (by decide), pp_set_s]
    rfl
  have hTA : pp_TA (g_set μ5 45 7 fa) μM1 := ⟨0, fun _ => 0, ⟨Nat.zero_le _, fun k hk => absurd hk (Nat.not_lt_zero k)⟩, ⟨Nat.zero_le _, fun k hk => absurd hk (Nat.not_lt_zero k)⟩, ⟨fun _ => Nat.zero_lt_succ _, fun _ _ => rfl⟩, e466, r6⟩
  have kpR : pp_KP (g_set μ5 45 7 fa) μM1 u Lu := hk.R hu (fun a ha => eX a (by omega) (by
    rcases ha with ha | ⟨ha, hb⟩
    · omega
    · have := pp_rk_no hu ha hb
      omega)) (by rw [eX 0 (by omega) (by decide)]) (r4 2 (by decide) (by decide) (by decide)) (r5 2 (by decide) (by decide))
  have rwR := hrw.R (μX1 := g_set μ5 45 7 fa) (μM1 := μM1) (eX 52 (by omega) (by decide)) (by rw [eX 0 (by omega) (by decide)]) (r4 11 (by decide) (by decide) (by decide)) (r5 32 (by decide) (by decide))
  have shR := hsh.R (μX1 := g_set μ5 45 7 fa) (μM1 := μM1) (fun a h1 h2 => eX a (by omega) (by omega)) (r4 12 (by decide) (by decide) (by decide)) (r4 13 (by decide) (by decide) (by decide)) (r4 14 (by decide) (by decide) (by decide))
  have hoR := hh.R (μX1 := g_set μ5 45 7 fa) (μM1 := μM1) (fun a h1 h2 => eX a (by omega) (by omega)) (r4 15 (by decide) (by decide) (by decide)) (r4 16 (by decide) (by decide) (by decide)) (r4 17 (by decide) (by decide) (by decide))
  have trR := htrc.R (μX1 := g_set μ5 45 7 fa) (μM1 := μM1) (eX 51 (by omega) (by decide)) (by rw [eX 50 (by omega) (by decide)]) (r4 18 (by decide) (by decide) (by decide)) (r5 40 (by decide) (by decide))
  refine ⟨μ1, μ5, W, w, fa, c, ans, μM1, s1, by omega, s2.2.2.1, by rw [← h4]; exact r1, by rw [r8, pp_rd (by omega) (by decide), hfa], by rw [r8, pp_rd (by omega) (by decide), hc], r2, ?_⟩
  · rcases r10 with ⟨w1, jW, R, hR8, ha, h5r, hRR, hcells⟩ | ⟨hw, ha, hM1⟩
    · have hRR1 : pp_RR (g_set μ5 45 7 fa) r (3 * W) (μM1 1) := hRR.F (fun a h1 h2 => pp_rowN (by omega))
      have es : ∀ j, ¬ j = 5 → ¬ j = 7 → (j < 38 ∨ (70 ≤ j ∧ j < 94)) → μM1 1 j = μM 1 j := hcells
      have en : pp_n (μM1 1) = pp_n (μM 1) := by unfold pp_n; rw [es 0 (by decide) (by decide) (by decide)]
      have et : pp_t (μM1 1) = pp_t (μM 1) := by unfold pp_t; rw [es 1 (by decide) (by decide) (by decide)]
      have ee : pp_e (μM1 1) = pp_e (μM 1) := by unfold pp_e; rw [es 2 (by decide) (by decide) (by decide)]
      have ew : ∀ o, o < pp_n (μM 1) → pp_w (μM1 1) o = pp_w (μM 1) o := fun o ho => by unfold pp_w; rw [en, es _ (by omega) (by omega) (by omega)]
      obtain ⟨hB, hO, -, ⟨y1, y2, y3, y4, y5, y6⟩⟩ := hI
      obtain ⟨⟨c1, c2, c3, c4⟩, x12, x13, x14, x15, x16⟩ := hD
      have hB1 : pp_B (μM1 1) := ⟨by rw [en, es 0 (by decide) (by decide) (by decide)]; exact hB.1, by rw [en]; exact hB.2⟩
      have hO1 : pp_O (μM1 1) := fun o ho => by
        rw [en] at ho
        obtain ⟨kd, a, p, f, g1, g2, g3, g4, g5, g6, g7, g8, g9, g10⟩ := hO o ho
        exact ⟨kd, a, p, f, g1, g2, g3, g4, g5, g6, by rw [es _ (by omega) (by omega) (by omega), g7], by rw [es _ (by omega) (by omega) (by omega), g8], by rw [es _ (by omega) (by omega) (by omega), g9], by rw [es _ (by omega) (by omega) (by omega), g10]⟩
      have hI1 : pp_I (μM1 1) := by
        refine ⟨hB1, hO1, hRR1.R, by rw [et, es 1 (by decide) (by decide) (by decide), y1], by rw [ee, es 2 (by decide) (by decide) (by decide), y2], by rw [ee]; exact y3, by rw [ee]; exact y4, by rw [et, ee]; exact y5, fun o ho => ?_⟩
        rw [en] at ho
        rw [ew o ho, es _ (by omega) (by omega) (by omega)]
        exact y6 o ho
      have x1 : g_set μ5 45 7 fa 1 = μX 1 := eX 1 (by omega) (by decide)
      have hV1 : pp_V (μM1 1) (g_set μ5 45 7 fa) := by
        refine ⟨by rw [x1, es 0 (by decide) (by decide) (by decide)]; exact c1, fun o ho => ?_⟩
        rw [en] at ho
        rw [eX 9 (by omega) (by decide), eX 10 (by omega) (by decide), eX 11 (by omega) (by decide), eX 12 (by omega) (by decide), es _ (by omega) (by omega) (by omega), es _ (by omega) (by omega) (by omega), es _ (by omega) (by omega) (by omega), es _ (by omega) (by omega) (by omega)]
        exact c2 o ho
      obtain ⟨μ7, o1, o2, o3⟩ := pp_X_obey (N := N) (r := r) (L := 3 * W) (by omega) hB1 hO1 (by omega) (pp_n (μM1 1)) N 0 (g_set μ5 45 7 fa) (by omega) (by have := hB1.2; omega) hRR1 hV1 (fun u a hu ha => absurd ha (Nat.not_lt_zero a))
      have o1 : pp_obL N r (3 * W) N 0 (g_set μ5 45 7 fa) = some μ7 := o1
      have z : ∀ a, ¬ (a = 14 ∨ a = 16) → μ7 a = g_set μ5 45 7 fa a := fun a ha => o3.row (fun b => decide_eq_false ha)
      refine Or.inr ⟨w1, hc26.mpr jW, μ7, o1, ?_, Or.inr (Or.inr hr), hu, ⟨hI1, ⟨⟨?_, fun o ho => ?_, fun o k ho hk hne => ?_, fun t o ht ho => o2 t o ht ho⟩, ?_, ?_, ?_, ?_, ?_⟩, hRR1.F (fun a h1 h2 => z a (by omega)), cc, ?_⟩, kpR.R hu (fun a ha => z a ?_) (by rw [z 0 (by decide)]) rfl rfl, hTA.R (z 46 (by decide)) (by rw [z 45 (by decide)]) rfl rfl, rwR.R (z 52 (by decide)) (by rw [z 0 (by decide)]) rfl rfl, shR.R (fun a h1 h2 => z a (by omega)) rfl rfl rfl, hoR.R (fun a h1 h2 => z a (by omega)) rfl rfl rfl, trR.R (z 51 (by decide)) (by rw [z 50 (by decide)]) rfl rfl⟩
      · rw [z r (by omega), pp_rowN (by omega), h5r, ha]
      · rw [z 1 (by decide)]
        exact hV1.1
      · rw [z 9 (by decide), z 10 (by decide), z 11 (by decide), z 12 (by decide)]
        exact hV1.2 o ho
      · rw [en] at ho hk
        rw [z 13 (by decide), eX 13 (by omega) (by decide), c3 o k ho hk hne]
        unfold pp_ws
        rw [es _ (by omega) (by omega) (by omega), es _ (by omega) (by omega) (by omega), es _ (by omega) (by omega) (by omega), es _ (by omega) (by omega) (by omega), es _ (by omega) (by omega) (by omega)]
      · rw [z 1 (by decide), x1, x12, en]
        exact congrArg pp_i (pp_pk_congr (fun o ho => (ew o ho).symm))
      · rw [z 1 (by decide), x1, x13, es 1 (by decide) (by decide) (by decide)]
      · rw [z 1 (by decide), x1, x14, es 2 (by decide) (by decide) (by decide)]
      · rw [z 1 (by decide), x1, x15, es 3 (by decide) (by decide) (by decide)]
      · rw [z 1 (by decide), x1, x16, es 4 (by decide) (by decide) (by decide)]
      · obtain ⟨p1, p2, p3, p4⟩ := hp
        refine ⟨p1, (es 6 (by decide) (by decide) (by decide)).trans p2, by rw [z 1 (by decide), x1]; exact p3, fun i hi => ?_⟩
        obtain ⟨k, p, lo, hi2, g1, g2, g3, g4, g5, g6, g7, g8⟩ := p4 i hi
        rw [z 17 (by decide), eX 17 (by omega) (by decide)]
        exact ⟨k, p, lo, hi2, g1, g2, g3, (es _ (by omega) (by omega) (by omega)).trans g4, (es _ (by omega) (by omega) (by omega)).trans g5, (es _ (by omega) (by omega) (by omega)).trans g6, (es _ (by omega) (by omega) (by omega)).trans g7, g8⟩
      · rcases ha with ha | ⟨ha, hb⟩
        · omega
        · have := pp_rk_no hu ha hb
          omega
    · refine Or.inl ⟨?_, ?_, ht, hu, ?_, kpR, hTA, rwR, shR, hoR, trR⟩
      · rcases hw with hw | hw
        · exact Or.inl hw
        · exact Or.inr (fun q => absurd (hc26.mp q) (by omega))
      · rw [ha, hfa2]
      · rw [hM1]
        refine ⟨hI, ⟨hD.1.rows (by rw [eX 1 (by omega) (by decide)]) (fun i h1 h2 => eX i (by omega) (by omega)), ?_⟩, hR.F (fun a ha hb => eX a (by omega) (by
          have := pp_rk_no ht ha hb
          omega)), cc, hp.F (by rw [eX 1 (by omega) (by decide)]) (eX 17 (by omega) (by decide))⟩
        rw [eX 1 (by omega) (by decide)]
        exact hD.2
