/-! ===== rows: prove, row, alterRow, judge ===== -/
theorem pp_pvL {N n c : Nat} {s : Nat → Int32} (hN : 1000 ≤ N) (hI : pp_I s) (hn : n ≤ 4) (hc : c ≤ n) (hce : pp_t s + c ≤ pp_e s) (acts : Nat → Nat) : ∀ (m n1 n2 k : Nat) (w : Nat → Nat) (sc : Int32) (μX μM : g_M), k + m = c → m < n1 → m < n2 → pp_D s μX → (∀ o, o < pp_n s → w o < 16) → μX 0 11 = pp_i c → μM 0 24 = pp_i c → (∀ i, i < c → μM 10 i = pp_i (acts i)) → (∀ j, j < m → (pp_S s 0 (n - k) (pp_t s + k) w).2.2.1.getD j 0 = acts (k + j)) → μM 1 = pp_put s (pp_t s + k) w sc → (∀ j, j < 3 * k → μX 52 j = μM 11 j) →
    ∃ (μX1 μM1 : g_M) (t1 : Nat) (w1 : Nat → Nat) (sc1 : Int32), f_X11_prove_L31 N n1 (pp_i n) (pp_i (pp_pk w (pp_n s))) (pp_i k) μX = some μX1 ∧ f_X12_prove_L22 N n2 (pp_i k) μM = some μM1 ∧ μM1 1 = pp_put s t1 w1 sc1 ∧ (∀ j, j < 3 * c → μX1 52 j = μM1 11 j) ∧ (∀ a, ¬ a = 15 → ¬ a = 52 → μX1 a = μX a) ∧ (∀ a b, pp_SG a b = false → ¬ a = 11 → μM1 a b = μM a b) := by
  have hn6 := hI.1.2
  have h16 := hI.2.2.2.2.2.2.1
  intro m
  induction m with
  | zero =>
    intro n1 n2 k w sc μX μM hk h1 h2 hD hw hX hM hA hS hrow hR
    obtain ⟨n1, rfl⟩ := pp_fu h1
    obtain ⟨n2, rfl⟩ := pp_fu h2
    rw [f_X11_prove_L31, f_X12_prove_L22, hX, hM, pp_ite (pp_ge (a := k) (b := c) (by omega) (by omega)), if_pos (by omega), pp_ite (pp_ge (a := k) (b := c) (by omega) (by omega)), if_pos (by omega)]
    exact ⟨μX, μM, _, w, sc, rfl, rfl, hrow, fun j hj => hR j (by omega), fun _ _ _ => rfl, fun _ _ _ _ => rfl⟩
  | succ m ih =>
    intro n1 n2 k w sc μX μM hk h1 h2 hD hw hX hM hA hS hrow hR
    obtain ⟨n1, rfl⟩ := pp_fu h1
    obtain ⟨n2, rfl⟩ := pp_fu h2
    obtain ⟨d11, d12, d13, d14⟩ := pp_D12 hI hD
    obtain ⟨q, hq⟩ : ∃ q, n - k = q + 1 := ⟨n - k - 1, by omega⟩
    obtain ⟨a, ha6, hAa⟩ := pp_S_A (wd := 0) (m := q) (t := pp_t s + k) (w := w) hI.1.2 hI.2.1 (by omega)
    obtain ⟨μX1, x1, x2⟩ := pp_X_first (N := N) (wd := 0) (m := q) (t := pp_t s + k) (w := w) (by omega) hI (by omega) (by omega) hw hD
    rw [hAa] at x1
    have x1 : f_X2_firstBestAct N (pp_i (pp_pk w (pp_n s))) (pp_i (pp_t s + k)) (pp_i (q + 1)) μX = some (pp_i a, μX1) := x1
    have hak : acts k = a := by
      have e := hS 0 (by omega)
      rw [hq, hAa] at e
      exact e.symm
    have hD1 := hD.F x2
    obtain ⟨μX2, y1, y2⟩ := pp_X_after (N := N) (t := pp_t s + k) (c := pp_cc a) (w := w) (by omega) hI.1 hI.2.1 hD1.1 (by omega) (pp_cc_64 (by omega)) hw
    have hw2 := pp_nw_16 (t := pp_t s + k) (c := pp_cc a) hI.2.1 hw
    have hD2 := hD1.F y2
    have f2 : ∀ a, ¬ a = 15 → μX2 a = μX a := fun a ha => ((x2.trans y2).row (fun b => decide_eq_false ha))
    have hC3 : ∀ (x y z : Int32), pp_D s (g_set (g_set (g_set μX2 52 (3 * k) x) 52 (3 * k + 1) y) 52 (3 * k + 2) z) := fun x y z => by
      refine ⟨hD2.1.rows (by rw [pp_set_n (by omega), pp_set_n (by omega), pp_set_n (by omega)]) (fun i h1 h2 => by rw [pp_rowN (by omega), pp_rowN (by omega), pp_rowN (by omega)]), ?_⟩
      rw [pp_rowN (show (1 : Nat) ≠ 52 by decide), pp_rowN (show (1 : Nat) ≠ 52 by decide), pp_rowN (show (1 : Nat) ≠ 52 by decide)]
      exact hD2.2
    have hC1 : ∀ x : Int32, pp_C s (g_set μX2 52 (3 * k) x) := fun x => hD2.1.rows (by rw [pp_set_n (by omega)]) (fun i h1 h2 => by rw [pp_rowN (by omega)])
    have hC2 : ∀ x y : Int32, pp_C s (g_set (g_set μX2 52 (3 * k) x) 52 (3 * k + 1) y) := fun x y => (hC1 x).rows (by rw [pp_set_n (by omega)]) (fun i h1 h2 => by rw [pp_rowN (by omega)])
    have hwo := fun x => pp_X_worth (N := N) (t := pp_t s + k) (by omega) hI.1 hI.2.1 (hC1 x) (by omega) hw2
    have hho := fun x y => pp_X_homeSet (N := N) (by omega) hI.1 (hC2 x y) hw2
    obtain ⟨μM1, m1, m2, m3, m4⟩ := pp_M_gw (N := N) (a := a) (μ := g_set μM 11 (3 * k) (pp_i a)) (by omega) hI.1 hI.2.2.1 hI.2.1 (by omega) (show pp_t s + k < 1000 by omega) hw (by rw [pp_rowN (by decide)]; exact hrow)
    have mh := fun y => pp_M_home (N := N) (μ := g_set μM1 11 (3 * k + 1) y) (by omega) hI.1 hw2 (by rw [pp_rowN (by decide)]; exact m2)
    have fM1 : ∀ a b, pp_SG a b = false → ¬ a = 11 → μM1 a b = μM a b := fun a b h1 h2 => by rw [m4 a b h1, pp_set_n (fun e => h2 e.1)]
    have m11 : μM1 11 = g_set μM 11 (3 * k) (pp_i a) 11 := m4.row (fun b => decide_eq_false (by omega))
    obtain ⟨μX3, μM3, t3, w3, sc3, r1, r2, r3, r4, r5, r6⟩ := ih n1 n2 (k + 1) (pp_nw s (pp_t s + k) w (pp_cc a)) _ (g_set (g_set (g_set μX2 52 (3 * k) (pp_i a)) 52 (3 * k + 1) (pp_wo s (pp_t s + k) (pp_nw s (pp_t s + k) w (pp_cc a)))) 52 (3 * k + 2) (pp_i (pp_hm (pp_n s) (pp_nw s (pp_t s + k) w (pp_cc a))))) (g_set (g_set μM1 11 (3 * k + 1) (pp_wo s (pp_t s + k) (pp_nw s (pp_t s + k) w (pp_cc a)))) 11 (3 * k + 2) (pp_i (pp_hm (pp_n s) (pp_nw s (pp_t s + k) w (pp_cc a)))))
      (by omega) (by omega) (by omega) (hC3 _ _ _) hw2
      (by rw [pp_rowN (by decide), pp_rowN (by decide), pp_rowN (by decide), f2 0 (by decide)]; exact hX)
      (by rw [pp_rowN (by decide), pp_rowN (by decide), fM1 0 24 (by decide) (by decide)]; exact hM)
      (fun i hi => by rw [pp_rowN (by decide), pp_rowN (by decide), fM1 10 i (decide_eq_false (by omega)) (by decide)]; exact hA i hi)
      (fun j hj => by
        have e := hS (j + 1) (by omega)
        rw [hq, hAa] at e
        rw [show n - (k + 1) = q by omega, show pp_t s + (k + 1) = pp_t s + k + 1 by omega, show k + 1 + j = k + (j + 1) by omega, ← e]
        rfl)
      (by rw [pp_rowN (by decide), pp_rowN (by decide)]; exact m2)
      (fun j hj => by
        by_cases c2 : j = 3 * k + 2
        · rw [c2, pp_set_s, pp_set_s]
        · rw [pp_set_n (fun e => c2 e.2), pp_set_n (fun e => c2 e.2)]
          by_cases c1 : j = 3 * k + 1
          · rw [c1, pp_set_s, pp_set_s]
          · rw [pp_set_n (fun e => c1 e.2), pp_set_n (fun e => c1 e.2), m11]
            by_cases c0 : j = 3 * k
            · rw [c0, pp_set_s, pp_set_s]
            · rw [pp_set_n (fun e => c0 e.2), pp_set_n (fun e => c0 e.2), f2 52 (by decide)]
              exact hR j (by omega))
    refine ⟨μX3, μM3, t3, w3, sc3, ?_, ?_, r3, r4, fun a h1 h2 => ?_, fun a b h1 h2 => ?_⟩
    · rw [f_X11_prove_L31, hX, pp_ite (pp_ge (a := k) (b := c) (by omega) (by omega)), if_neg (by omega), d13, pp_add, pp_sub (show k ≤ n by omega), hq]
      simp only [Option.bind_some]
      rw [x1, show pp_i k * 3 = pp_i (3 * k) from (pp_mul k 3).trans (congrArg pp_i (Nat.mul_comm k 3)), show pp_i (3 * k) + 1 = pp_i (3 * k + 1) from pp_add _ 1, show pp_i (3 * k) + 2 = pp_i (3 * k + 2) from pp_add _ 2, show pp_i k + 1 = pp_i (k + 1) from pp_add k 1]
      simp only [Option.bind_some]
      rw [pp_X_chain (by omega), y1]
      simp only [Option.bind_some]
      rw [pp_wr (by omega) (by decide)]
      simp only [Option.bind_some]
      rw [hwo]
      simp only [Option.bind_some]
      rw [pp_wr (by omega) (by decide)]
      simp only [Option.bind_some]
      rw [hho]
      simp only [Option.bind_some]
      rw [pp_wr (by omega) (by decide)]
      simp only [Option.bind_some]
      exact r1
    · rw [f_X12_prove_L22, hM, pp_ite (pp_ge (a := k) (b := c) (by omega) (by omega)), if_neg (by omega), show (3 * pp_i k : Int32) = pp_i (3 * k) from pp_mul 3 k, show pp_i (3 * k) + 1 = pp_i (3 * k + 1) from pp_add _ 1, show pp_i (3 * k) + 2 = pp_i (3 * k + 2) from pp_add _ 2, show pp_i k + 1 = pp_i (k + 1) from pp_add k 1, pp_rd (by omega) (by decide), hA k (by omega), hak]
      simp only [Option.bind_some]
      rw [pp_wr (by omega) (by decide)]
      simp only [Option.bind_some]
      rw [pp_rd (by omega) (by decide), pp_rowN (show (10 : Nat) ≠ 11 by decide), hA k (by omega), hak]
      simp only [Option.bind_some]
      rw [m1]
      simp only [Option.bind_some]
      rw [pp_wr (by omega) (by decide)]
      simp only [Option.bind_some]
      rw [mh]
      simp only [Option.bind_some]
      rw [pp_wr (by omega) (by decide)]
      simp only [Option.bind_some]
      exact r2
    · rw [r5 a h1 h2, pp_rowN h2, pp_rowN h2, pp_rowN h2, f2 a h1]
    · rw [r6 a b h1 h2, pp_set_n (fun e => h2 e.1), pp_set_n (fun e => h2 e.1), fM1 a b h1 h2]
theorem pp_c_prove {N t L u Lu : Nat} {μX μM : g_M} {a : Int32} (hN : 1000 ≤ N) (h : pp_Rel t L u Lu μX μM) : ∃ (v : Int32) (μX1 μM1 : g_M), f_X11_prove N a μX = some (v, μX1) ∧ f_X12_prove N a μM = some (v, μM1) ∧ pp_Rel t L u Lu μX1 μM1 := by
  obtain ⟨hI, hD, hR, hp⟩ := h.2.2.1
  obtain ⟨d11, d12, d13, d14⟩ := pp_D12 hI hD
  have hn6 := hI.1.2
  have h16 := hI.2.2.2.2.2.2.1
  unfold f_X11_prove f_X12_prove f_X11_isPlan f_X12_isLong
  rcases pp_btw (a := a) (lo := 0) (hi := 4) (by decide) (by decide) with ⟨e1, e2⟩ | ⟨n, k1, k2, rfl, e1, e2⟩
  · have e1 : f_X11_isBetween a 0 4 = 0 := e1
    have e2 : f_X12_isIn a.toInt64 0 4 = 0 := e2
    rw [if_pos e1, if_pos e2]
    exact ⟨_, _, _, rfl, rfl, h⟩
  have e1 : f_X11_isBetween (pp_i n) 0 4 = 1 := e1
  have e2 : f_X12_isIn (pp_i n).toInt64 0 4 = 1 := e2
  obtain ⟨s1, s2, s3, s4, s5⟩ := pp_S_ok (wd := 0) hI.1.2 hI.2.1 n (pp_t (μM 1)) (pp_w (μM 1))
  obtain ⟨μM1, m1, m2, m3, m4, m5, m6, m7, -⟩ := pp_finds (N := N) (wd := 0) (μ := μM) (by omega) hI (by decide) k2 rfl
  have m1 : f_X12_findsPlans N (pp_i n) 0 μM = _ := m1
  obtain ⟨c, hc⟩ : ∃ c, c = (pp_S (μM 1) 0 n (pp_t (μM 1)) (pp_w (μM 1))).2.2.1.length := ⟨_, rfl⟩
  rw [← hc] at m6 m7 s5
  have hcn : c ≤ n ∧ pp_t (μM 1) + c ≤ pp_e (μM 1) := by
    have := pp_tle hI
    rw [s5]
    split <;> omega
  obtain ⟨fa, f1, f2, f3⟩ := pp_A_aside (N := N) (lev := 0) (μ := μM1) (by omega) (by decide)
  have f1 : f_X12_laysAside N 0 μM1 = some (pp_rw μM1 3 fa) := f1
  have hDX : pp_D (μM 1) (g_set μX 0 11 (pp_i c)) := by
    refine ⟨hD.1.rows (by rw [pp_set_n (by omega)]) (fun i h1 h2 => by rw [pp_rowN (by omega)]), ?_⟩
    rw [pp_rowN (show (1 : Nat) ≠ 0 by decide)]
    exact hD.2
  obtain ⟨μX2, μM2, t2, w2, sc2, r1, r2, r3, r4, r5, r6⟩ := pp_pvL (N := N) (n := n) (c := c) hN hI k2 hcn.1 hcn.2 (fun i => (pp_S (μM 1) 0 n (pp_t (μM 1)) (pp_w (μM 1))).2.2.1.getD i 0) c N N 0 (pp_w (μM 1)) (μM 1 3) (g_set μX 0 11 (pp_i c)) (pp_rw μM1 3 fa) (by omega) (by omega) (by omega) hDX (pp_w16 hI) pp_set_s
    (by rw [pp_rw_n (by decide)]; exact m6) (fun i hi => by rw [pp_rw_n (by decide)]; exact m7 i hi) (fun j hj => by
      show (pp_S (μM 1) 0 n (pp_t (μM 1)) (pp_w (μM 1))).2.2.1.getD j 0 = (pp_S (μM 1) 0 n (pp_t (μM 1)) (pp_w (μM 1))).2.2.1.getD (0 + j) 0
      rw [Nat.zero_add]) (by rw [pp_rw_n (by decide), m2]; exact pp_self hI.2.2.2) (fun j hj => absurd hj (by omega))
  have r1 : f_X11_prove_L31 N N (pp_i n) (pp_i (pp_pk (pp_w (μM 1)) (pp_n (μM 1)))) 0 (g_set μX 0 11 (pp_i c)) = some μX2 := r1
  have r2 : f_X12_prove_L22 N N 0 (pp_rw μM1 3 fa) = some μM2 := r2
  have hb : f_X12_laysBack N 0 μM2 = some (pp_rw μM2 1 (μM 1)) := by
    have e := pp_M_back (N := N) (lev := 0) (μ := μM2) (by omega) (by decide)
    have e : f_X12_laysBack N 0 μM2 = _ := e
    rw [e]
    congr 2
    funext j
    by_cases c : j < 38
    · rw [if_pos c, r6 3 _ (decide_eq_false (by omega)) (by decide), pp_rw_s, f2 j c, m2]
    · rw [if_neg c, r3, pp_put_n (by omega) (by omega) (by omega)]
  have r24 : pp_rw μM2 1 (μM 1) 0 24 = pp_i c := by
    rw [pp_rw_n (by decide), r6 0 24 (by decide) (by decide), pp_rw_n (by decide), m6]
  rw [if_neg (pp_n10 e1), if_neg (pp_n10 e2), pp_X_nof hI hD k2, ← s5, m1]
  simp only [Option.bind_some]
  rw [pp_rowN (show (1 : Nat) ≠ 0 by decide), d12, r1, f1]
  simp only [Option.bind_some]
  rw [r2]
  simp only [Option.bind_some]
  rw [hb]
  simp only [Option.bind_some]
  rw [r24, pp_set_s, r5 0 (by decide) (by decide), pp_set_s]
  refine ⟨_, _, _, rfl, rfl, ?_⟩
  have fX : ∀ a b, ¬ a = 15 → ¬ a = 52 → ¬ (a = 0 ∧ b = 11) → μX2 a b = μX a b := fun a b h1 h2 h3 => by rw [r5 a h1 h2, pp_set_n h3]
  have fXr : ∀ a, ¬ a = 15 → ¬ a = 52 → ¬ a = 0 → μX2 a = μX a := fun a h1 h2 h3 => funext fun b => fX a b h1 h2 (fun e => h3 e.1)
  have fM : ∀ a b, pp_SMt a b = false → ¬ a = 11 → ¬ (a = 0 ∧ b = 32) → g_set (pp_rw μM2 1 (μM 1)) 0 32 (pp_i c) a b = μM a b := fun a b h1 h2 h3 => by
    have q := of_decide_eq_false h1
    rw [pp_set_n h3, pp_rw_n (by omega), r6 a b (pp_SG_t h1) h2, pp_rw_n (by omega), m3 a b h1]
  have fMr : ∀ a, a = 2 ∨ a = 4 ∨ 12 ≤ a → g_set (pp_rw μM2 1 (μM 1)) 0 32 (pp_i c) a = μM a := fun a ha => funext fun b => fM a b (decide_eq_false (by omega)) (by omega) (by omega)
  obtain ⟨ht, hu, ⟨-, -, -, cc, hpp⟩, hk, hta, hrw, hs, hh, htr⟩ := h
  refine ⟨ht, hu, ?_, hk.R hu (fun a ha => fXr a ?_ ?_ ?_) (fX 0 12 (by decide) (by decide) (by decide)) (fMr 2 (by decide)) (fM 0 2 (by decide) (by decide) (by decide)), hta.R (fXr 46 (by decide) (by decide) (by decide)) (by rw [fXr 45 (by decide) (by decide) (by decide)]) (fMr 4 (by decide)) (fM 0 5 (by decide) (by decide) (by decide)), ⟨c, by omega, by rw [r5 0 (by decide) (by decide), pp_set_s], pp_set_s, fun j hj => ?_⟩, hs.R (fun a h1 h2 => fXr a (by omega) (by omega) (by omega)) (fMr 12 (by decide)) (fMr 13 (by decide)) (fMr 14 (by decide)), hh.R (fun a h1 h2 => fXr a (by omega) (by omega) (by omega)) (fMr 15 (by decide)) (fMr 16 (by decide)) (fMr 17 (by decide)), htr.R (fXr 51 (by decide) (by decide) (by decide)) (by rw [fXr 50 (by decide) (by decide) (by decide)]) (fMr 18 (by decide)) (fM 0 40 (by decide) (by decide) (by decide))⟩
  · rw [pp_rowN (show (1 : Nat) ≠ 0 by decide), pp_rw_s]
    refine ⟨hI, ⟨hD.1.rows (by rw [fXr 1 (by decide) (by decide) (by decide)]) (fun i h1 h2 => fXr i (by omega) (by omega) (by omega)), ?_⟩, hR.F (fun a ha hb => ?_), cc, hpp.F (by rw [fXr 1 (by decide) (by decide) (by decide)]) (fXr 17 (by decide) (by decide) (by decide))⟩
    · rw [fXr 1 (by decide) (by decide) (by decide)]
      exact hD.2
    · have := pp_rk_no ht ha hb
      exact fXr a (by omega) (by omega) (by omega)
  · rcases ha with ha | ⟨ha, hb⟩
    · omega
    · have := pp_rk_no hu ha hb
      omega
  · rcases ha with ha | ⟨ha, hb⟩
    · omega
    · have := pp_rk_no hu ha hb
      omega
  · rcases ha with ha | ⟨ha, hb⟩
    · omega
    · have := pp_rk_no hu ha hb
      omega
  · rw [r4 j hj, pp_rowN (show (11 : Nat) ≠ 0 by decide), pp_rw_n (by decide)]
