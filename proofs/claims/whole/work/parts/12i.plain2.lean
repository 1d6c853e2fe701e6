/-! ===== oven, ends, anew, seed, forget, report ===== -/
theorem pp_c_seed {t L u Lu : Nat} {μX μM : g_M} {a : Int32} (h : pp_Rel t L u Lu μX μM) : ∃ (v : Int32) (μX1 μM1 : g_M), f_X11_seed a μX = some (v, μX1) ∧ f_X12_seed a μM = some (v, μM1) ∧ pp_Rel t L u Lu μX1 μM1 := by
  obtain ⟨hI, hD, hR, hp⟩ := h.2.2.1
  obtain ⟨g1, g2⟩ := pp_D4 (z := a) hI hD (μM := μM) rfl
  have m1 : f_X12_becomes 4 a μM = some (μM 1 4, g_set μM 1 4 a) := pp_M_bec (p := 4) (by decide)
  refine ⟨μM 1 4, g_set μX 1 16 a, g_set μM 1 4 a, ?_, ?_, pp_tow h h.1 (pp_TWf h.1 h.2.2.1 g1 g2 (fun j hj => pp_set_n (by omega)) (pp_set_n (by decide)) (fun b hb => pp_rowN (by omega))) (pp_F.set (by decide)) (pp_F.set (pp_SMt_1 _))⟩
  · unfold f_X11_seed
    simp only [Option.bind_some]
    rw [hD.2.2.2.2.2]
  · unfold f_X12_seed
    rw [m1]
    rfl
theorem pp_c_forget {t L u Lu : Nat} {μX μM : g_M} (h : pp_Rel t L u Lu μX μM) : ∃ (v : Int32) (μX1 μM1 : g_M), f_X11_forget μX = some (v, μX1) ∧ f_X12_forget μM = some (v, μM1) ∧ pp_Rel t L u Lu μX1 μM1 := by
  obtain ⟨hI, hD, hR, c, hp⟩ := h.2.2.1
  have m1 : f_X12_becomes 6 0 μM = some (μM 1 6, g_set μM 1 6 0) := pp_M_bec (p := 6) (by decide)
  have e : ∀ j, ¬ j = 4 → ¬ j = 6 → g_set μM 1 6 0 1 j = μM 1 j := fun j h4 h6 => pp_set_n (by omega)
  obtain ⟨en, et, ee, ew⟩ := pp_n46 e
  obtain ⟨hC, d12, d13, d14, d15, d16⟩ := hD
  refine ⟨μM 1 6, g_set μX 1 17 0, g_set μM 1 6 0, ?_, ?_, pp_tow h h.1 ⟨pp_I46 e hI, ⟨(pp_C46 e hC).rows (pp_set_n (by decide)) (fun i h1 h2 => pp_rowN (by omega)), ?_, ?_, ?_, ?_, ?_⟩, (hR.s (fun j hj => pp_set_n (by omega))).F (fun a ha hb => pp_rowN (fun q => (pp_rk_no h.1 ha hb).1 (by omega))), 0, Nat.zero_le _, pp_set_s, pp_set_s, fun i hi => absurd hi (Nat.not_lt_zero i)⟩ (pp_F.set (by decide)) (pp_F.set (pp_SMt_1 _))⟩
  · unfold f_X11_forget
    simp only [Option.bind_some]
    rw [hp.2.1, hp.2.2.1]
  · unfold f_X12_forget
    rw [m1]
    rfl
  · rw [pp_set_n (by decide), d12, en]
    exact congrArg pp_i (pp_pk_congr (fun o ho => (ew o).symm))
  · rw [pp_set_n (by decide), d13, e 1 (by decide) (by decide)]
  · rw [pp_set_n (by decide), d14, e 2 (by decide) (by decide)]
  · rw [pp_set_n (by decide), d15, e 3 (by decide) (by decide)]
  · rw [pp_set_n (by decide), d16, pp_set_n (by decide)]
theorem pp_c_ends {t L u Lu : Nat} {μX μM : g_M} {a : Int32} (h : pp_Rel t L u Lu μX μM) : ∃ (v : Int32) (μX1 μM1 : g_M), f_X11_ends a μX = some (v, μX1) ∧ f_X12_ends a μM = some (v, μM1) ∧ pp_Rel t L u Lu μX1 μM1 := by
  obtain ⟨hI, hD, hR, c, hp⟩ := h.2.2.1
  obtain ⟨d11, d12, d13, d14⟩ := pp_D12 hI hD
  have h16 := hI.2.2.2.2.2.2.1
  have htl := pp_tle hI
  unfold f_X11_ends f_X12_ends
  rcases pp_btw (a := a) (lo := 1) (hi := 16) (by decide) (by decide) with ⟨e1, e2⟩ | ⟨k, k1, k2, rfl, e1, e2⟩
  · have e1 : f_X11_isBetween a 1 16 = 0 := e1
    have e2 : f_X12_isIn a.toInt64 1 16 = 0 := e2
    rw [if_pos e1, if_pos e2]
    exact ⟨_, _, _, rfl, rfl, h⟩
  have e1 : f_X11_isBetween (pp_i k) 1 16 = 1 := e1
  have e2 : f_X12_isIn (pp_i k).toInt64 1 16 = 1 := e2
  rw [if_neg (pp_n10 e1), if_neg (pp_n10 e2), d13, hI.2.2.2.1, pp_ite (pp_ge (a := k) (b := pp_t (μM 1)) (by omega) (by omega)), pp_ite (pp_ge (a := k) (b := pp_t (μM 1)) (by omega) (by omega))]
  by_cases q : pp_t (μM 1) ≤ k
  · have m1 : f_X12_becomes 2 (pp_i k) μM = some (μM 1 2, g_set μM 1 2 (pp_i k)) := pp_M_bec (p := 2) (by decide)
    rw [if_pos q, if_pos q, m1]
    have e : ∀ j, ¬ j = 2 → g_set μM 1 2 (pp_i k) 1 j = μM 1 j := fun j hj => pp_set_n (by omega)
    have en : pp_n (g_set μM 1 2 (pp_i k) 1) = pp_n (μM 1) := by unfold pp_n; rw [e 0 (by decide)]
    have et : pp_t (g_set μM 1 2 (pp_i k) 1) = pp_t (μM 1) := by unfold pp_t; rw [e 1 (by decide)]
    have ee : pp_e (g_set μM 1 2 (pp_i k) 1) = k := by unfold pp_e; rw [pp_set_s, pp_nat (by omega)]
    have ew : ∀ o, pp_w (g_set μM 1 2 (pp_i k) 1) o = pp_w (μM 1) o := fun o => by unfold pp_w; rw [en, e _ (by omega)]
    obtain ⟨hB, hO, hRR, hT⟩ := hI
    obtain ⟨t1, t2, t3, t4, t5, t6⟩ := hT
    obtain ⟨hC, x12, x13, x14, x15, x16⟩ := hD
    obtain ⟨c1, c2, c3, c4⟩ := hC
    refine ⟨μM 1 2, g_set μX 1 14 (pp_i k), g_set μM 1 2 (pp_i k), ?_, rfl, pp_tow h h.1 ⟨⟨⟨?_, ?_⟩, fun o ho => ?_, ?_, ?_⟩, ⟨⟨?_, fun o ho => ?_, fun o k2 ho hk hne => ?_, fun t2 o ht2 ho => ?_⟩, ?_, ?_, ?_, ?_, ?_⟩, (hR.s (fun j hj => e j (by omega))).F (fun a ha hb => pp_rowN (fun q => (pp_rk_no h.1 ha hb).1 (by omega))), c, (hp.s (fun j hj => e j (by omega))).F (pp_set_n (by decide)) (pp_rowN (by decide))⟩ (pp_F.set (by decide)) (pp_F.set (pp_SMt_1 _))⟩
    · simp only [Option.bind_some]
      rw [x14]
    · rw [en, e 0 (by decide)]
      exact hB.1
    · rw [en]
      exact hB.2
    · rw [en] at ho
      obtain ⟨kd, a, p, f, g1, g2, g3, g4, g5, g6, g7, g8, g9, g10⟩ := hO o ho
      exact ⟨kd, a, p, f, g1, g2, g3, g4, g5, g6, by rw [e _ (by omega), g7], by rw [e _ (by omega), g8], by rw [e _ (by omega), g9], by rw [e _ (by omega), g10]⟩
    · obtain ⟨R, S, h1, h2, h3, h4, hr⟩ := hRR
      refine ⟨R, S, h1, h2, by rw [e _ (by omega), h3], by rw [e _ (by omega), h4], fun r hr2 => ?_⟩
      obtain ⟨b, e5, k5, d, g1, g2, g3, g4, g5, g6, g7, g8⟩ := hr r hr2
      exact ⟨b, e5, k5, d, g1, g2, g3, g4, by rw [e _ (by omega), g5], by rw [e _ (by omega), g6], by rw [e _ (by omega), g7], by rw [e _ (by omega), g8]⟩
    · refine ⟨by rw [et, e 1 (by decide), t1], by rw [ee, pp_set_s], by rw [ee]; exact k1, by rw [ee]; exact k2, by rw [et, ee]; exact q, fun o ho => ?_⟩
      rw [en] at ho
      rw [ew, e _ (by omega)]
      exact t6 o ho
    · rw [pp_set_n (by decide), e 0 (by decide)]
      exact c1
    · rw [en] at ho
      have r : ∀ b, b ≠ 1 → g_set μX 1 14 (pp_i k) b = μX b := fun b hb => pp_rowN hb
      rw [r 9 (by decide), r 10 (by decide), r 11 (by decide), r 12 (by decide), e _ (by omega), e _ (by omega), e _ (by omega), e _ (by omega)]
      exact c2 o ho
    · rw [en] at ho hk
      rw [pp_rowN (by decide), c3 o k2 ho hk hne]
      unfold pp_ws
      rw [e _ (by omega), e _ (by omega), e _ (by omega), e _ (by omega), e _ (by omega)]
    · rw [en] at ho
      rw [pp_rowN (by decide), c4 t2 o ht2 ho]
      exact (pp_wl_congr (e _ (by omega)) (fun j hj => e _ (by omega)) (fun j hj => e _ (by omega))).symm
    · rw [pp_set_n (by decide), x12, en]
      exact congrArg pp_i (pp_pk_congr (fun o ho => (ew o).symm))
    · rw [pp_set_n (by decide), x13, e 1 (by decide)]
    · rw [pp_set_s, pp_set_s]
    · rw [pp_set_n (by decide), x15, e 3 (by decide)]
    · rw [pp_set_n (by decide), x16, e 4 (by decide)]
  · rw [if_neg q, if_neg q]
    exact ⟨_, _, _, rfl, rfl, h⟩
theorem pp_M_anL {N : Nat} {s : Nat → Int32} {t : Nat} {w : Nat → Nat} {sc : Int32} (hB : pp_B s) : ∀ (m fuel o : Nat) (μ : g_M), o + m = pp_n s → m < fuel → μ 1 = pp_put s t (fun k => if k < o then 0 else w k) sc → ∃ μ1 : g_M, f_X12_anew_L2 N fuel (pp_i o) μ = some μ1 ∧ μ1 1 = pp_put s t (fun _ => 0) sc ∧ ∀ a, a ≠ 1 → μ1 a = μ a := by
  have hB2 := hB.2
  intro m
  induction m with
  | zero =>
    intro fuel o μ ho hf h1
    obtain ⟨f, rfl⟩ := pp_fu hf
    rw [f_X12_anew_L2, h1, pp_put_0, hB.1, pp_ite (pp_ge (by omega) (by omega)), if_pos (by omega)]
    refine ⟨μ, rfl, ?_, fun _ _ => rfl⟩
    rw [h1]
    exact pp_put_congr (fun k hk => if_pos (by omega))
  | succ m ih =>
    intro fuel o μ ho hf h1
    obtain ⟨f, rfl⟩ := pp_fu hf
    have e8 : ((8 + (5 * pp_i o)) + 4 : Int32) = pp_i (8 + 5 * o + 4) := by
      rw [show (5 * pp_i o : Int32) = pp_i (5 * o) from pp_mul 5 o, show (8 + pp_i (5 * o) : Int32) = pp_i (8 + 5 * o) from pp_add 8 (5 * o)]
      exact pp_add _ 4
    rw [f_X12_anew_L2, h1, pp_put_0, hB.1, pp_ite (pp_ge (by omega) (by omega)), if_neg (by omega), e8, pp_wr (by omega) (by decide), show pp_i o + 1 = pp_i (o + 1) from pp_add o 1]
    simp only [Option.bind_some]
    obtain ⟨μ1, i1, i2, i3⟩ := ih f (o + 1) (g_set μ 1 (8 + 5 * o + 4) 0) (by omega) (by omega) (by
      rw [pp_row, h1, show (0 : Int32) = pp_i 0 from rfl, pp_put_set (by omega)]
      refine pp_put_congr (fun k hk => ?_)
      unfold pp_up
      by_cases c : k = o
      · rw [if_pos c, if_pos (by omega)]
      · rw [if_neg c]
        show (if k < o then 0 else w k) = _
        by_cases c2 : k < o
        · rw [if_pos c2, if_pos (by omega)]
        · rw [if_neg c2, if_neg (by omega)])
    exact ⟨μ1, i1, i2, fun a ha => (i3 a ha).trans (pp_rowN ha)⟩
theorem pp_pk_0 {w : Nat → Nat} : ∀ n : Nat, (∀ k, k < n → w k = 0) → pp_pk w n = 0
  | 0, _ => rfl
  | n + 1, h => by rw [pp_pk, pp_pk_0 n (fun k hk => h k (by omega)), h n (by omega), Nat.zero_mul]
theorem pp_c_anew {N t L u Lu : Nat} {μX μM : g_M} (hN : 1000 ≤ N) (h : pp_Rel t L u Lu μX μM) : ∃ (v : Int32) (μX1 μM1 : g_M), f_X11_anew μX = some (v, μX1) ∧ f_X12_anew N μM = some (v, μM1) ∧ pp_Rel t L u Lu μX1 μM1 := by
  obtain ⟨hI, hD, hR, hp⟩ := h.2.2.1
  have hn6 := hI.1.2
  have hs := pp_self hI.2.2.2
  obtain ⟨μM1, m1, m2, m3⟩ := pp_M_anL (N := N) hI.1 (t := pp_t (μM 1)) (w := pp_w (μM 1)) (sc := μM 1 3) (pp_n (μM 1)) N 0 μM (by omega) (by omega) (hs.trans (pp_put_congr (fun k hk => (if_neg (Nat.not_lt_zero k)).symm)))
  have m1 : f_X12_anew_L2 N N 0 μM = some μM1 := m1
  have e1 : g_set μM1 1 3 0 1 = pp_put (μM 1) (pp_t (μM 1)) (fun _ => 0) 0 := by rw [pp_row, m2, pp_put_c]
  have e2 : g_set (g_set μM1 1 3 0) 1 1 0 1 = pp_put (μM 1) 0 (fun _ => 0) 0 := by
    rw [pp_row, e1, show (0 : Int32) = pp_i 0 from rfl, pp_put_t]
  have b1 : f_X12_becomes 1 0 (g_set μM1 1 3 0) = some (g_set μM1 1 3 0 1 1, g_set (g_set μM1 1 3 0) 1 1 0) := pp_M_bec (p := 1) (by decide)
  have hI1 := pp_I_put (sc := 0) (t := 0) (w := fun _ => 0) hI (Nat.zero_le _) (fun _ _ => by decide)
  obtain ⟨hC, d12, d13, d14, d15, d16⟩ := hD
  refine ⟨μM 1 1, g_set (g_set (g_set μX 1 13 0) 1 15 0) 1 12 0, g_set (g_set μM1 1 3 0) 1 1 0, ?_, ?_, pp_tow h h.1 (pp_TWf h.1 h.2.2.1 (by rw [e2]; exact hI1) ?_ (fun j hj => ?_) ?_ (fun a ha => ?_)) (((pp_F.set (by decide)).trans (pp_F.set (by decide))).trans (pp_F.set (by decide))) (fun a b q => ?_)⟩
  · unfold f_X11_anew
    simp only [Option.bind_some]
    rw [d13]
  · unfold f_X12_anew
    rw [m1]
    simp only [Option.bind_some]
    rw [b1]
    simp only [Option.bind_some]
    rw [e1, pp_put_1, hI.2.2.2.1]
  · rw [e2]
    refine ⟨(pp_C_put hn6 hC).rows (by rw [pp_set_n (by decide), pp_set_n (by decide), pp_set_n (by decide)]) (fun i h1 h2 => by rw [pp_rowN (by omega), pp_rowN (by omega), pp_rowN (by omega)]), ?_, ?_, ?_, ?_, ?_⟩
    · rw [pp_set_s, pp_put_pn, pp_pk_0 (w := pp_w (pp_put (μM 1) 0 (fun _ => 0) 0)) _ (fun k hk => pp_w_put (s := μM 1) hk (show 0 < 16 by decide))]
      rfl
    · rw [pp_set_n (by decide), pp_set_n (by decide), pp_set_s]
      rfl
    · rw [pp_set_n (by decide), pp_set_n (by decide), pp_set_n (by decide), d14]
      rfl
    · rw [pp_set_n (by decide), pp_set_s]
      rfl
    · rw [pp_set_n (by decide), pp_set_n (by decide), pp_set_n (by decide), d16]
      exact (pp_put_n (by decide) (by decide) (by omega)).symm
  · rw [e2]
    exact pp_put_n (by omega) (by omega) (by omega)
  · rw [pp_set_n (by decide), pp_set_n (by decide), pp_set_n (by decide)]
  · rw [pp_rowN (by omega), pp_rowN (by omega), pp_rowN (by omega)]
  · have q := of_decide_eq_false q
    rw [pp_set_n (by omega), pp_set_n (by omega), m3 a (by omega)]
