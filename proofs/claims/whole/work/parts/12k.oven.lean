/-! ===== a new oven ===== -/
theorem pp_pk_s {w : Nat → Nat} {n : Nat} : pp_pk w (n + 1) = pp_pk w n + w n * 16 ^ n := rfl
theorem pp_addO {N t L k a p f : Nat} {s s1 : Nat → Int32} {μX μ1 : g_M} (hN : 200 ≤ N) (ht : pp_rk t) (hI : pp_I s) (hD : pp_D s μX) (hR : pp_RR μX t L s) (hn : pp_n s < 6) (k1 : 1 ≤ k) (k5 : k ≤ 5) (ha : a ≤ 9) (hp : p ≤ 15) (f1 : 1 ≤ f) (f9 : f ≤ 9)
    (s0 : s1 0 = pp_i (pp_n s + 1)) (sk : s1 (8 + 5 * pp_n s + 0) = pp_i k) (sa : s1 (8 + 5 * pp_n s + 1) = pp_i a) (sp : s1 (8 + 5 * pp_n s + 2) = pp_i p) (sf : s1 (8 + 5 * pp_n s + 3) = pp_i f) (sw : s1 (8 + 5 * pp_n s + 4) = pp_i 0)
    (e : ∀ j, ¬ j = 0 → ¬ (8 + 5 * pp_n s ≤ j ∧ j < 8 + 5 * pp_n s + 5) → s1 j = s j)
    (x0 : μ1 1 11 = pp_i (pp_n s + 1)) (xf : ∀ b, 12 ≤ b → b ≤ 17 → μ1 1 b = μX 1 b) (xk : μ1 9 (pp_n s) = pp_i k) (xa : μ1 10 (pp_n s) = pp_i a) (xp : μ1 11 (pp_n s) = pp_i p) (xg : μ1 12 (pp_n s) = pp_i f) (xo : ∀ row o, 9 ≤ row → row ≤ 12 → ¬ o = pp_n s → μ1 row o = μX row o) (xr : ∀ row, 13 ≤ row → μ1 row = μX row) :
    ∃ μX1 : g_M, f_X9_settle N t L (pp_i (pp_n s)) μ1 = some μX1 ∧ pp_I s1 ∧ pp_D s1 μX1 ∧ pp_RR μX1 t L s1 ∧ pp_F pp_Ss μ1 μX1 := by
  have en : pp_n s1 = pp_n s + 1 := by
    show (s1 0).toNatClampNeg = _
    rw [s0, pp_nat (by omega)]
  have et : pp_t s1 = pp_t s := by unfold pp_t; rw [e 1 (by decide) (by omega)]
  have ee : pp_e s1 = pp_e s := by unfold pp_e; rw [e 2 (by decide) (by omega)]
  have ew : ∀ o, o < pp_n s → pp_w s1 o = pp_w s o := fun o ho => by
    unfold pp_w
    rw [en, if_pos (show o < pp_n s + 1 by omega), if_pos ho, e _ (by omega) (by omega)]
  have ew2 : pp_w s1 (pp_n s) = 0 := by
    unfold pp_w
    rw [en, if_pos (show pp_n s < pp_n s + 1 by omega), sw, pp_nat (by decide)]
  obtain ⟨hB, hO, hRR, hT⟩ := hI
  obtain ⟨t1, t2, t3, t4, t5, t6⟩ := hT
  obtain ⟨hC, d12, d13, d14, d15, d16⟩ := hD
  obtain ⟨c1, c2, c3, c4⟩ := hC
  have hI1 : pp_I s1 := by
    refine ⟨⟨by rw [en]; exact s0, by rw [en]; omega⟩, fun o ho => ?_, ?_, ⟨by rw [et, e 1 (by decide) (by omega), t1], by rw [ee, e 2 (by decide) (by omega), t2], by rw [ee]; exact t3, by rw [ee]; exact t4, by rw [et, ee]; exact t5, fun o ho => ?_⟩⟩
    · rw [en] at ho
      by_cases c : o = pp_n s
      · rw [c]
        exact ⟨k, a, p, f, k1, k5, ha, hp, f1, f9, sk, sa, sp, sf⟩
      · obtain ⟨kd, a, p, f, g1, g2, g3, g4, g5, g6, g7, g8, g9, g10⟩ := hO o (by omega)
        exact ⟨kd, a, p, f, g1, g2, g3, g4, g5, g6, by rw [e _ (by omega) (by omega), g7], by rw [e _ (by omega) (by omega), g8], by rw [e _ (by omega) (by omega), g9], by rw [e _ (by omega) (by omega), g10]⟩
    · obtain ⟨R, S, h1, h2, h3, h4, hr⟩ := hRR
      refine ⟨R, S, h1, h2, by rw [e _ (by omega) (by omega), h3], by rw [e _ (by omega) (by omega), h4], fun r hr2 => ?_⟩
      obtain ⟨b, e5, k5, d, g1, g2, g3, g4, g5, g6, g7, g8⟩ := hr r hr2
      exact ⟨b, e5, k5, d, g1, g2, g3, g4, by rw [e _ (by omega) (by omega), g5], by rw [e _ (by omega) (by omega), g6], by rw [e _ (by omega) (by omega), g7], by rw [e _ (by omega) (by omega), g8]⟩
    · rw [en] at ho
      by_cases c : o = pp_n s
      · rw [c, ew2]
        exact ⟨sw, by decide⟩
      · rw [ew o (by omega), e _ (by omega) (by omega)]
        exact t6 o (by omega)
  have hR1 : pp_RR μ1 t L s1 := (hR.s (fun j hj => e j (by omega) (by omega))).F (fun b hb hb2 => xr b (by
    have := pp_rk_no ht hb hb2
    omega))
  have hV : pp_V s1 μ1 := by
    refine ⟨by rw [x0, s0], fun o ho => ?_⟩
    rw [en] at ho
    by_cases c : o = pp_n s
    · rw [c]
      exact ⟨xk.trans sk.symm, xa.trans sa.symm, xp.trans sp.symm, xg.trans sf.symm⟩
    · rw [xo 9 o (by decide) (by decide) c, xo 10 o (by decide) (by decide) c, xo 11 o (by decide) (by decide) c, xo 12 o (by decide) (by decide) c, e _ (by omega) (by omega), e _ (by omega) (by omega), e _ (by omega) (by omega), e _ (by omega) (by omega)]
      exact c2 o (by omega)
  have hCx : pp_Cx s1 μ1 (pp_n s) := by
    refine ⟨hV, fun a k ha hk h1 h2 h3 => ?_, fun t2 a ht2 ha h1 => ?_⟩
    · rw [en] at ha hk
      rw [xr 13 (by decide), c3 a k (by omega) (by omega) h1]
      unfold pp_ws
      rw [e _ (by omega) (by omega), e _ (by omega) (by omega), e _ (by omega) (by omega), e _ (by omega) (by omega), e _ (by omega) (by omega)]
    · rw [en] at ha
      rw [xr 14 (by decide), c4 t2 a ht2 (by omega)]
      exact (pp_wl_congr (e _ (by omega) (by omega)) (fun j hj => e _ (by omega) (by omega)) (fun j hj => e _ (by omega) (by omega))).symm
  obtain ⟨μX1, i1, i2, i3⟩ := pp_X_settle (N := N) (r := t) (L := L) hN hI1.1 hI1.2.1 (by rcases ht with h | h | h <;> omega) hR1 (by rw [en]; omega) hCx
  have x1 : ∀ b, 12 ≤ b → b ≤ 17 → μX1 1 b = μX 1 b := fun b h1 h2 => (i3 1 b (decide_eq_false (by omega))).trans (xf b h1 h2)
  refine ⟨μX1, i1, hI1, ⟨i2, ?_, ?_, ?_, ?_, ?_⟩, hR1.Fs (by rcases ht with h | h | h <;> omega) i3, i3⟩
  · rw [x1 12 (by decide) (by decide), d12, en, pp_pk_s, ew2, Nat.zero_mul, Nat.add_zero]
    exact congrArg pp_i (pp_pk_congr (fun o ho => (ew o ho).symm))
  · rw [x1 13 (by decide) (by decide), d13, e _ (by omega) (by omega)]
  · rw [x1 14 (by decide) (by decide), d14, e _ (by omega) (by omega)]
  · rw [x1 15 (by decide) (by decide), d15, e _ (by omega) (by omega)]
  · rw [x1 16 (by decide) (by decide), d16, e _ (by omega) (by omega)]
theorem pp_c_oven {N t L u Lu : Nat} {μX μM : g_M} {a1 a2 a3 a4 : Int32} (hN : 1000 ≤ N) (h : pp_Rel t L u Lu μX μM) : ∃ (v : Int32) (μX1 μM1 : g_M), f_X11_oven N t L a1 a2 a3 a4 μX = some (v, μX1) ∧ f_X12_oven a1 a2 a3 a4 μM = some (v, μM1) ∧ pp_Rel t L u Lu μX1 μM1 := by
  obtain ⟨hI, hD, hR, c, hp⟩ := h.2.2.1
  obtain ⟨d11, d12, d13, d14⟩ := pp_D12 hI hD
  have hn6 := hI.1.2
  have s0 := hI.1.1
  unfold f_X11_oven f_X12_oven f_X11_isKind f_X11_isWarm f_X11_isPlace f_X11_isFire
  rcases pp_btw (a := a1) (lo := 1) (hi := 5) (by decide) (by decide) with ⟨e1, e2⟩ | ⟨k, k1, k2, rfl, e1, e2⟩
  · have e1 : f_X11_isBetween a1 1 5 = 0 := e1
    have e2 : f_X12_isIn a1.toInt64 1 5 = 0 := e2
    rw [if_pos e1, if_pos e2]
    exact ⟨_, _, _, rfl, rfl, h⟩
  have e1 : f_X11_isBetween (pp_i k) 1 5 = 1 := e1
  have e2 : f_X12_isIn (pp_i k).toInt64 1 5 = 1 := e2
  rw [if_neg (pp_n10 e1), if_neg (pp_n10 e2)]
  rcases pp_btw (a := a2) (lo := 0) (hi := 9) (by decide) (by decide) with ⟨e3, e4⟩ | ⟨a, i1, i2, rfl, e3, e4⟩
  · have e3 : f_X11_isBetween a2 0 9 = 0 := e3
    have e4 : f_X12_isIn a2.toInt64 0 9 = 0 := e4
    rw [if_pos e3, if_pos e4]
    exact ⟨_, _, _, rfl, rfl, h⟩
  have e3 : f_X11_isBetween (pp_i a) 0 9 = 1 := e3
  have e4 : f_X12_isIn (pp_i a).toInt64 0 9 = 1 := e4
  rw [if_neg (pp_n10 e3), if_neg (pp_n10 e4)]
  rcases pp_btw (a := a3) (lo := 0) (hi := 15) (by decide) (by decide) with ⟨e5, e6⟩ | ⟨p, j1, j2, rfl, e5, e6⟩
  · have e5 : f_X11_isBetween a3 0 15 = 0 := e5
    have e6 : f_X12_isIn a3.toInt64 0 15 = 0 := e6
    rw [if_pos e5, if_pos e6]
    exact ⟨_, _, _, rfl, rfl, h⟩
  have e5 : f_X11_isBetween (pp_i p) 0 15 = 1 := e5
  have e6 : f_X12_isIn (pp_i p).toInt64 0 15 = 1 := e6
  rw [if_neg (pp_n10 e5), if_neg (pp_n10 e6)]
  rcases pp_btw (a := a4) (lo := 1) (hi := 9) (by decide) (by decide) with ⟨e7, e8⟩ | ⟨f, l1, l2, rfl, e7, e8⟩
  · have e7 : f_X11_isBetween a4 1 9 = 0 := e7
    have e8 : f_X12_isIn a4.toInt64 1 9 = 0 := e8
    rw [if_pos e7, if_pos e8]
    exact ⟨_, _, _, rfl, rfl, h⟩
  have e7 : f_X11_isBetween (pp_i f) 1 9 = 1 := e7
  have e8 : f_X12_isIn (pp_i f).toInt64 1 9 = 1 := e8
  rw [if_neg (pp_n10 e7), if_neg (pp_n10 e8), d11, s0, show (6 : Int32) = pp_i 6 from rfl, pp_ite (pp_lt (a := pp_n (μM 1)) (b := 6) (by omega) (by omega)), pp_ite (pp_eq (a := pp_n (μM 1)) (b := 6) (by omega) (by omega))]
  by_cases q6 : pp_n (μM 1) = 6
  · rw [if_neg (show ¬ pp_n (μM 1) < 6 by omega), if_pos q6]
    exact ⟨_, _, _, rfl, rfl, h⟩
  have hn : pp_n (μM 1) < 6 := by omega
  rw [if_pos hn, if_neg q6]
  unfold f_X9_addOven
  rw [d11]
  obtain ⟨n, en⟩ : ∃ n, n = pp_n (μM 1) := ⟨_, rfl⟩
  rw [← en] at hn s0 d11 ⊢
  have w1 : ∀ (row : Nat) (μ : g_M) (x : Int32), g_wr μ row 6 (pp_i n) x = some (g_set μ row n x) := fun row μ x => pp_wr (by omega) (by decide)
  have b0 : (8 + 5 * pp_i n : Int32) = pp_i (8 + 5 * n + 0) := by
    rw [show (5 * pp_i n : Int32) = pp_i (5 * n) from pp_mul 5 n]
    exact pp_add 8 (5 * n)
  have w2 : ∀ (i : Nat) (μ : g_M) (x : Int32), i ≤ 4 → g_wr μ 1 544 (pp_i (8 + 5 * n + i)) x = some (g_set μ 1 (8 + 5 * n + i) x) := fun i μ x hi => pp_wr (by omega) (by decide)
  simp only [Option.bind_some, w1]
  rw [b0, w2 0 _ _ (by decide)]
  simp only [Option.bind_some]
  rw [show pp_i (8 + 5 * n + 0) + 1 = pp_i (8 + 5 * n + 1) from pp_add _ 1, w2 1 _ _ (by decide)]
  simp only [Option.bind_some]
  rw [show pp_i (8 + 5 * n + 0) + 2 = pp_i (8 + 5 * n + 2) from pp_add _ 2, w2 2 _ _ (by decide)]
  simp only [Option.bind_some]
  rw [show pp_i (8 + 5 * n + 0) + 3 = pp_i (8 + 5 * n + 3) from pp_add _ 3, w2 3 _ _ (by decide)]
  simp only [Option.bind_some]
  rw [show pp_i (8 + 5 * n + 0) + 4 = pp_i (8 + 5 * n + 4) from pp_add _ 4, w2 4 _ _ (by decide)]
  simp only [Option.bind_some]
  generalize hX4 : g_set (g_set (g_set (g_set μX 9 n (pp_i k)) 10 n (pp_i a)) 11 n (pp_i p)) 12 n (pp_i f) = μX4
  generalize hM4 : g_set (g_set (g_set (g_set (g_set μM 1 (8 + 5 * n + 0) (pp_i k)) 1 (8 + 5 * n + 1) (pp_i a)) 1 (8 + 5 * n + 2) (pp_i p)) 1 (8 + 5 * n + 3) (pp_i f)) 1 (8 + 5 * n + 4) 0 = μM4
  have xr : ∀ r, ¬ (9 ≤ r ∧ r ≤ 12) → μX4 r = μX r := fun r hr => by rw [← hX4, pp_rowN (by omega), pp_rowN (by omega), pp_rowN (by omega), pp_rowN (by omega)]
  have mr : ∀ a, ¬ a = 1 → μM4 a = μM a := fun a ha => by rw [← hM4, pp_rowN ha, pp_rowN ha, pp_rowN ha, pp_rowN ha, pp_rowN ha]
  have mc : ∀ j, ¬ (8 + 5 * n ≤ j ∧ j < 8 + 5 * n + 5) → μM4 1 j = μM 1 j := fun j hj => by rw [← hM4, pp_set_n (by omega), pp_set_n (by omega), pp_set_n (by omega), pp_set_n (by omega), pp_set_n (by omega)]
  have e10 : μM4 1 0 = pp_i n := (mc 0 (by omega)).trans s0
  have e11 : μX4 1 11 = pp_i n := by rw [xr 1 (by omega)]; exact d11
  rw [pp_set_s, e10, e11, show pp_i n + 1 = pp_i (n + 1) from pp_add n 1]
  have e : ∀ j, ¬ j = 0 → ¬ (8 + 5 * n ≤ j ∧ j < 8 + 5 * n + 5) → g_set μM4 1 0 (pp_i (n + 1)) 1 j = μM 1 j := fun j h6 h7 => by rw [pp_set_n (by omega), mc j h7]
  have ge : ∀ i, i ≤ 4 → g_set μM4 1 0 (pp_i (n + 1)) 1 (8 + 5 * n + i) = μM4 1 (8 + 5 * n + i) := fun i hi => pp_set_n (by omega)
  subst en
  obtain ⟨μX1, g1, g2, g3, g4, g5⟩ := pp_addO (N := N) (L := L) (k := k) (a := a) (p := p) (f := f) (s1 := g_set μM4 1 0 (pp_i (pp_n (μM 1) + 1)) 1) (μ1 := g_set μX4 1 11 (pp_i (pp_n (μM 1) + 1))) (by omega) h.1 hI hD hR hn k1 k2 i2 j2 l1 l2 pp_set_s
    (by rw [ge 0 (by decide), ← hM4, pp_set_n (by omega), pp_set_n (by omega), pp_set_n (by omega), pp_set_n (by omega), pp_set_s])
    (by rw [ge 1 (by decide), ← hM4, pp_set_n (by omega), pp_set_n (by omega), pp_set_n (by omega), pp_set_s])
    (by rw [ge 2 (by decide), ← hM4, pp_set_n (by omega), pp_set_n (by omega), pp_set_s])
    (by rw [ge 3 (by decide), ← hM4, pp_set_n (by omega), pp_set_s])
    (by rw [ge 4 (by decide), ← hM4, pp_set_s]; rfl)
    e pp_set_s (fun b h1 h2 => by rw [pp_set_n (by omega), xr 1 (by omega)])
    (by rw [pp_rowN (by decide), ← hX4, pp_set_n (by omega), pp_set_n (by omega), pp_set_n (by omega), pp_set_s])
    (by rw [pp_rowN (by decide), ← hX4, pp_set_n (by omega), pp_set_n (by omega), pp_set_s])
    (by rw [pp_rowN (by decide), ← hX4, pp_set_n (by omega), pp_set_s])
    (by rw [pp_rowN (by decide), ← hX4, pp_set_s])
    (fun row o h1 h2 h3 => by rw [pp_rowN (by omega), ← hX4, pp_set_n (by omega), pp_set_n (by omega), pp_set_n (by omega), pp_set_n (by omega)])
    (fun row hr => by rw [pp_rowN (by omega), xr row (by omega)])
  have fX : ∀ a b, ¬ (a = 1 ∧ b = 11) → ¬ (9 ≤ a ∧ a ≤ 16) → μX1 a b = μX a b := fun a b h1 h2 => by
    rw [g5 a b (decide_eq_false (by omega)), pp_set_n (by omega), xr a (by omega)]
  rw [g1, show pp_i (pp_n (μM 1) + 1) - 1 = pp_i (pp_n (μM 1)) from pp_sub (b := 1) (by omega)]
  refine ⟨_, _, _, rfl, rfl, pp_tow h h.1 ⟨g2, g3, g4, c, (hp.s (fun j hj => e j (by omega) (by omega))).F (fX 1 17 (by decide) (by decide)) (funext fun b => fX 17 b (by omega) (by omega))⟩ (fun a b q => ?_) (fun a b q => ?_)⟩
  · have q := of_decide_eq_false q
    exact fX a b (by omega) (by omega)
  · have q := of_decide_eq_false q
    rw [pp_set_n (by omega), mr a (by omega)]
