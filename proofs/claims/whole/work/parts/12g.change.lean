/-! ===== change, remake, placeFor, warmFor ===== -/
theorem pp_M_bec {μ : g_M} {p : Nat} {x : Int32} (h : p < 544) : f_X12_becomes (pp_i p) x μ = some (μ 1 p, g_set μ 1 p x) := by
  unfold f_X12_becomes
  rw [pp_rd h (by decide), pp_wr h (by decide)]
  rfl
theorem pp_SMt_1 (b : Nat) : pp_SMt 1 b = true := decide_eq_true (Or.inl rfl)
theorem pp_TWr {s : Nat → Int32} {μ μ1 : g_M} {t L o i v : Nat} (h : pp_TW s μ μ t L) (hI : pp_I (pp_up s (8 + 5 * o + i) (pp_i v))) (hD : pp_D (pp_up s (8 + 5 * o + i) (pp_i v)) μ1) (hR : pp_RR μ1 t L (pp_up s (8 + 5 * o + i) (pp_i v))) (ho : o < 6) (hi : i < 4) (f : pp_F pp_Sx9 μ μ1) : pp_TW (pp_up s (8 + 5 * o + i) (pp_i v)) μ1 μ1 t L := by
  obtain ⟨h1, h2, h3, c, h4⟩ := h
  refine ⟨hI, hD, hR, c, (h4.s (fun j hj => pp_up_n (by omega))).F ?_ ?_⟩
  · exact f 1 17 (decide_eq_false (by omega))
  · exact f.row (fun b => decide_eq_false (by omega))
theorem pp_chS {s : Nat → Int32} {μ : g_M} {o i : Nat} (hC : pp_C s μ) (ho : o < pp_n s) (hi : i < 4) : μ (9 + i) o = s (8 + 5 * o + i) := by
  obtain ⟨w0, w1, w2, w3⟩ := hC.2.1 o ho
  have hi4 : i = 0 ∨ i = 1 ∨ i = 2 ∨ i = 3 := by omega
  rcases hi4 with rfl | rfl | rfl | rfl <;> assumption
/-- both let an oven become another -/
theorem pp_chR {N t L u Lu o i v : Nat} {μX μM : g_M} (hN : 1000 ≤ N) (h : pp_Rel t L u Lu μX μM) (ho : o < pp_n (μM 1)) (hi : i < 4) (hv : pp_vok i v) : ∃ (x : Int32) (μX1 μM1 : g_M), ((g_rd μX (9 + i) 6 (pp_i o)).bind fun x1 => (g_wr μX (9 + i) 6 (pp_i o) (pp_i v)).bind fun μ2 => (f_X9_settle N t L (pp_i o) μ2).bind fun μ5 => some (x1, μ5)) = some (x, μX1) ∧ f_X12_becomes (pp_i (8 + 5 * o + i)) (pp_i v) μM = some (x, μM1) ∧ pp_Rel t L u Lu μX1 μM1 := by
  obtain ⟨hI, hD, hR, hp⟩ := h.2.2.1
  have hn := hI.1.2
  obtain ⟨μX1, x1, x2, x3, x4, x5⟩ := pp_chg (N := N) (L := L) (i := i) (v := v) (by omega) h.1 hI hD hR ho hi hv
  refine ⟨_, μX1, _, ?_, pp_M_bec (by omega), pp_tow h h.1 ?_ (x5.mono (fun a b => pp_Sx9_t)) (pp_F.set (pp_SMt_1 _))⟩
  · rw [pp_rd (by omega) (by decide), pp_wr (by omega) (by decide)]
    simp only [Option.bind_some]
    rw [x1, pp_chS hD.1 ho hi]
    rfl
  · rw [pp_row]
    exact pp_TWr h.2.2.1 x2 x3 x4 (by omega) hi x5
theorem pp_awc : ∀ o : Fin 6, ∀ v : Fin 16, ∀ w : Fin 16, ((pp_i v.val - pp_i w.val) <<< ((4 * pp_i o.val) &&& 31)) = pp_i (v.val * 16 ^ o.val) - pp_i (w.val * 16 ^ o.val) := by decide +kernel
theorem pp_abcd {A B C D : Nat} (h : D + C = A + B) : pp_i A + (pp_i B - pp_i C) = pp_i D := by
  rw [Int32.sub_eq_add_neg, ← Int32.add_assoc, pp_add, ← h, ← pp_add, ← Int32.sub_eq_add_neg, Int32.add_sub_cancel]
theorem pp_pk_set {w : Nat → Nat} {n o v : Nat} (hn : n ≤ 6) (hw : ∀ k, k < n → w k < 16) (ho : o < n) (hv : v < 16) : pp_i (pp_pk w n) + ((pp_i v - pp_i (w o)) <<< ((4 * pp_i o) &&& 31)) = pp_i (pp_pk (pp_up w o v) n) := by
  have e := pp_awc ⟨o, by omega⟩ ⟨v, hv⟩ ⟨w o, hw o ho⟩
  dsimp only at e
  rw [e]
  exact pp_abcd (pp_pk_up ho)
theorem pp_put_a {s : Nat → Int32} {o v : Nat} (hI : pp_I s) (ho : o < pp_n s) : pp_up s (8 + 5 * o + 4) (pp_i v) = pp_put s (pp_t s) (pp_up (pp_w s) o v) (s 3) := by
  rw [← pp_put_set ho, ← pp_self hI.2.2.2]
theorem pp_c_away {N t L u Lu o v : Nat} {μX μM : g_M} (hN : 1000 ≤ N) (h : pp_Rel t L u Lu μX μM) (ho : o < pp_n (μM 1)) (hv : v ≤ 9) : ∃ (x : Int32) (μX1 μM1 : g_M), f_X9_replaceAway (pp_i o) (pp_i v) μX = some (x, μX1) ∧ f_X12_becomes (pp_i (8 + 5 * o + 4)) (pp_i v) μM = some (x, μM1) ∧ pp_Rel t L u Lu μX1 μM1 := by
  obtain ⟨hI, hD, hR, c, hp⟩ := h.2.2.1
  have hn := hI.1.2
  obtain ⟨d11, d12, d13, d14⟩ := pp_D12 hI hD
  have hw := pp_w16 hI
  have hw1 : ∀ k, k < pp_n (μM 1) → pp_up (pp_w (μM 1)) o v k < 16 := fun k hk => by
    unfold pp_up
    split
    · omega
    · exact hw k hk
  have e4 : pp_i (pp_w (μM 1) o) = μM 1 (8 + 5 * o + 4) := (hI.2.2.2.2.2.2.2.2 o ho).1.symm
  have er := pp_put_a (v := v) hI ho
  have hI1 := pp_I_put (sc := μM 1 3) hI (pp_tle hI) hw1
  refine ⟨_, g_set μX 1 12 (pp_i (pp_pk (pp_up (pp_w (μM 1)) o v) (pp_n (μM 1)))), _, ?_, pp_M_bec (by omega), pp_tow h h.1 ?_ (pp_F.set (by decide)) (pp_F.set (pp_SMt_1 _))⟩
  · unfold f_X9_replaceAway
    rw [d12, pp_awp hn hw ho]
    simp only [Option.bind_some]
    rw [pp_pk_set hn hw ho (by omega), e4]
  · rw [pp_row, er]
    refine ⟨hI1, ⟨(pp_C_put hn hD.1).rows (pp_set_n (by decide)) (fun i h1 h2 => pp_rowN (by omega)), ?_, ?_, ?_, ?_, ?_⟩, (hR.s (fun j hj => pp_put_n (by omega) (by omega) (by omega))).F (fun a ha hb => pp_rowN (fun q => (pp_rk_no h.1 ha hb).1 (by omega))), c, (hp.s (fun j hj => pp_put_n (by omega) (by omega) (by omega))).F (pp_set_n (by decide)) (pp_rowN (by decide))⟩
    · rw [pp_set_s]
      exact congrArg pp_i (pp_pk_congr (fun k hk => (pp_w_put hk (hw1 k hk)).symm))
    · rw [pp_set_n (by decide), d13]
      rfl
    · rw [pp_set_n (by decide), hD.2.2.2.1]
      rfl
    · rw [pp_set_n (by decide), hD.2.2.2.2.1]
      rfl
    · rw [pp_set_n (by decide), hD.2.2.2.2.2]
      exact (pp_put_n (by decide) (by decide) (by omega)).symm
theorem pp_c_remake {N t L u Lu : Nat} {μX μM : g_M} {a a2 : Int32} (hN : 1000 ≤ N) (h : pp_Rel t L u Lu μX μM) : ∃ (v : Int32) (μX1 μM1 : g_M), f_X11_remake N t L a a2 μX = some (v, μX1) ∧ f_X12_remake a a2 μM = some (v, μM1) ∧ pp_Rel t L u Lu μX1 μM1 := by
  obtain ⟨hI, hD, hR, hp⟩ := h.2.2.1
  unfold f_X11_remake f_X12_remake f_X11_isKind
  rcases pp_ovn (a := a) hI.1 hD.1.1 rfl with ⟨e1, e2⟩ | ⟨o, ho, rfl, e1, e2⟩
  · rw [if_pos e1, if_pos e2]
    exact ⟨_, _, _, rfl, rfl, h⟩
  rw [if_neg (pp_n10 e1), if_neg (pp_n10 e2)]
  rcases pp_btw (a := a2) (lo := 1) (hi := 5) (by decide) (by decide) with ⟨e3, e4⟩ | ⟨v, i1, i2, rfl, e3, e4⟩
  · have e3 : f_X11_isBetween a2 1 5 = 0 := e3
    have e4 : f_X12_isIn a2.toInt64 1 5 = 0 := e4
    rw [if_pos e3, if_pos e4]
    exact ⟨_, _, _, rfl, rfl, h⟩
  have e3 : f_X11_isBetween (pp_i v) 1 5 = 1 := e3
  have e4 : f_X12_isIn (pp_i v).toInt64 1 5 = 1 := e4
  obtain ⟨x, μX1, μM1, j1, j2, j3⟩ := pp_chR (N := N) (i := 0) (v := v) hN h ho (by decide) ⟨fun _ => ⟨i1, i2⟩, fun q => absurd q (by decide), fun q => absurd q (by decide), fun q => absurd q (by decide)⟩
  have e8 : (8 + (5 * pp_i o) : Int32) = pp_i (8 + 5 * o + 0) := by
    rw [show (5 * pp_i o : Int32) = pp_i (5 * o) from pp_mul 5 o]
    exact pp_add 8 (5 * o)
  have j1 : f_X9_replace_9 N t L (pp_i o) (pp_i v) μX = _ := j1
  rw [if_neg (pp_n10 e3), if_neg (pp_n10 e4), j1, e8, j2]
  exact ⟨_, _, _, rfl, rfl, j3⟩
theorem pp_c_change {N t L u Lu : Nat} {μX μM : g_M} {a a2 a3 : Int32} (hN : 1000 ≤ N) (h : pp_Rel t L u Lu μX μM) : ∃ (v : Int32) (μX1 μM1 : g_M), f_X11_change N t L a a2 a3 μX = some (v, μX1) ∧ f_X12_change a a2 a3 μM = some (v, μM1) ∧ pp_Rel t L u Lu μX1 μM1 := by
  obtain ⟨hI, hD, hR, hp⟩ := h.2.2.1
  unfold f_X11_change f_X12_change f_X11_isWarm f_X11_isPlace f_X11_isFire
  rcases pp_ovn (a := a) hI.1 hD.1.1 rfl with ⟨e1, e2⟩ | ⟨o, ho, rfl, e1, e2⟩
  · rw [if_pos e1, if_pos e2]
    exact ⟨_, _, _, rfl, rfl, h⟩
  rw [if_neg (pp_n10 e1), if_neg (pp_n10 e2)]
  have e8 : ∀ i : Nat, ((8 + (5 * pp_i o)) + pp_i i : Int32) = pp_i (8 + 5 * o + i) := fun i => by
    rw [show (5 * pp_i o : Int32) = pp_i (5 * o) from pp_mul 5 o, show (8 + pp_i (5 * o) : Int32) = pp_i (8 + 5 * o) from pp_add 8 (5 * o), pp_add]
  by_cases q1 : a2 = 1
  · subst q1
    rw [if_pos rfl, if_neg (show ¬ f_X12_isIn (Int32.toInt64 1) 1 4 = 0 by decide), if_neg (show ¬ ((1 : Int32) = 3) by decide), if_neg (show ¬ ((1 : Int32) = 2) by decide)]
    rcases pp_btw (a := a3) (lo := 0) (hi := 9) (by decide) (by decide) with ⟨e3, e4⟩ | ⟨v, i1, i2, rfl, e3, e4⟩
    · have e3 : f_X11_isBetween a3 0 9 = 0 := e3
      have e4 : f_X12_isIn a3.toInt64 0 9 = 0 := e4
      rw [if_pos e3, if_pos e4]
      exact ⟨_, _, _, rfl, rfl, h⟩
    have e3 : f_X11_isBetween (pp_i v) 0 9 = 1 := e3
    have e4 : f_X12_isIn (pp_i v).toInt64 0 9 = 1 := e4
    obtain ⟨x, μX1, μM1, j1, j2, j3⟩ := pp_chR (N := N) (i := 1) (v := v) hN h ho (by decide) ⟨fun q => absurd q (by decide), fun _ => i2, fun q => absurd q (by decide), fun q => absurd q (by decide)⟩
    have j1 : f_X9_replace_10 N t L (pp_i o) (pp_i v) μX = _ := j1
    rw [if_neg (pp_n10 e3), if_neg (pp_n10 e4), j1, show ((8 + (5 * pp_i o)) + 1 : Int32) = pp_i (8 + 5 * o + 1) from e8 1, j2]
    exact ⟨_, _, _, rfl, rfl, j3⟩
  rw [if_neg q1]
  by_cases q2 : a2 = 2
  · subst q2
    rw [if_pos rfl, if_neg (show ¬ f_X12_isIn (Int32.toInt64 2) 1 4 = 0 by decide), if_neg (show ¬ ((2 : Int32) = 3) by decide), if_pos (show (2 : Int32) = 2 from rfl)]
    rcases pp_btw (a := a3) (lo := 0) (hi := 15) (by decide) (by decide) with ⟨e3, e4⟩ | ⟨v, i1, i2, rfl, e3, e4⟩
    · have e3 : f_X11_isBetween a3 0 15 = 0 := e3
      have e4 : f_X12_isIn a3.toInt64 0 15 = 0 := e4
      rw [if_pos e3, if_pos e4]
      exact ⟨_, _, _, rfl, rfl, h⟩
    have e3 : f_X11_isBetween (pp_i v) 0 15 = 1 := e3
    have e4 : f_X12_isIn (pp_i v).toInt64 0 15 = 1 := e4
    obtain ⟨x, μX1, μM1, j1, j2, j3⟩ := pp_chR (N := N) (i := 2) (v := v) hN h ho (by decide) ⟨fun q => absurd q (by decide), fun q => absurd q (by decide), fun _ => i2, fun q => absurd q (by decide)⟩
    have j1 : f_X9_replace_11 N t L (pp_i o) (pp_i v) μX = _ := j1
    rw [if_neg (pp_n10 e3), if_neg (pp_n10 e4), j1, show ((8 + (5 * pp_i o)) + 2 : Int32) = pp_i (8 + 5 * o + 2) from e8 2, j2]
    exact ⟨_, _, _, rfl, rfl, j3⟩
  rw [if_neg q2]
  by_cases q3 : a2 = 3
  · subst q3
    rw [if_pos rfl, if_neg (show ¬ f_X12_isIn (Int32.toInt64 3) 1 4 = 0 by decide), if_pos (show (3 : Int32) = 3 from rfl), if_neg (show ¬ ((3 : Int32) = 2) by decide)]
    rcases pp_btw (a := a3) (lo := 1) (hi := 9) (by decide) (by decide) with ⟨e3, e4⟩ | ⟨v, i1, i2, rfl, e3, e4⟩
    · have e3 : f_X11_isBetween a3 1 9 = 0 := e3
      have e4 : f_X12_isIn a3.toInt64 1 9 = 0 := e4
      rw [if_pos e3, if_pos e4]
      exact ⟨_, _, _, rfl, rfl, h⟩
    have e3 : f_X11_isBetween (pp_i v) 1 9 = 1 := e3
    have e4 : f_X12_isIn (pp_i v).toInt64 1 9 = 1 := e4
    obtain ⟨x, μX1, μM1, j1, j2, j3⟩ := pp_chR (N := N) (i := 3) (v := v) hN h ho (by decide) ⟨fun q => absurd q (by decide), fun q => absurd q (by decide), fun q => absurd q (by decide), fun _ => ⟨i1, i2⟩⟩
    have j1 : f_X9_replace_12 N t L (pp_i o) (pp_i v) μX = _ := j1
    rw [if_neg (pp_n10 e3), if_neg (pp_n10 e4), j1, show ((8 + (5 * pp_i o)) + 3 : Int32) = pp_i (8 + 5 * o + 3) from e8 3, j2]
    exact ⟨_, _, _, rfl, rfl, j3⟩
  rw [if_neg q3]
  by_cases q4 : a2 = 4
  · subst q4
    rw [if_pos rfl, if_neg (show ¬ f_X12_isIn (Int32.toInt64 4) 1 4 = 0 by decide), if_neg (show ¬ ((4 : Int32) = 3) by decide), if_neg (show ¬ ((4 : Int32) = 2) by decide)]
    rcases pp_btw (a := a3) (lo := 0) (hi := 9) (by decide) (by decide) with ⟨e3, e4⟩ | ⟨v, i1, i2, rfl, e3, e4⟩
    · have e3 : f_X11_isBetween a3 0 9 = 0 := e3
      have e4 : f_X12_isIn a3.toInt64 0 9 = 0 := e4
      rw [if_pos e3, if_pos e4]
      exact ⟨_, _, _, rfl, rfl, h⟩
    have e3 : f_X11_isBetween (pp_i v) 0 9 = 1 := e3
    have e4 : f_X12_isIn (pp_i v).toInt64 0 9 = 1 := e4
    obtain ⟨x, μX1, μM1, j1, j2, j3⟩ := pp_c_away (N := N) (v := v) hN h ho i2
    rw [if_neg (pp_n10 e3), if_neg (pp_n10 e4), j1, show ((8 + (5 * pp_i o)) + 4 : Int32) = pp_i (8 + 5 * o + 4) from e8 4, j2]
    exact ⟨_, _, _, rfl, rfl, j3⟩
  rw [if_neg q4]
  rcases pp_btw (a := a2) (lo := 1) (hi := 4) (by decide) (by decide) with ⟨e3, e4⟩ | ⟨v, i1, i2, rfl, e3, e4⟩
  · have e4 : f_X12_isIn a2.toInt64 1 4 = 0 := e4
    rw [if_pos e4]
    exact ⟨_, _, _, rfl, rfl, h⟩
  · have hv4 : v = 1 ∨ v = 2 ∨ v = 3 ∨ v = 4 := by omega
    rcases hv4 with rfl | rfl | rfl | rfl
    · exact absurd rfl q1
    · exact absurd rfl q2
    · exact absurd rfl q3
    · exact absurd rfl q4
theorem pp_vf2L {N t L o : Nat} {s : Nat → Int32} {was : Int32} (hN : 1000 ≤ N) (ht : pp_rk t) (ho : o < 6) : ∀ (m n1 n2 v x : Nat) (best most : Int32) (μX μM : g_M), v + m = 16 → m < n1 → m < n2 → x ≤ 15 → μM 1 = (pp_up s (8 + 5 * o + 2) (pp_i x)) → pp_I (pp_up s (8 + 5 * o + 2) (pp_i x)) → pp_D (pp_up s (8 + 5 * o + 2) (pp_i x)) μX → pp_RR μX t L (pp_up s (8 + 5 * o + 2) (pp_i x)) → o < pp_n (pp_up s (8 + 5 * o + 2) (pp_i x)) →
    ∃ (b : Int32) (y : Nat) (μX1 μM1 : g_M), f_X2_bestSetting_11_L14 N t L n1 (pp_i o) 15 was most best (pp_i v) μX = some (b, μX1) ∧ f_X12_valueFor_L28 N n2 15 (pp_i (8 + 5 * o + 2)) was best most (pp_i v) μM = some (b, μM1) ∧ y ≤ 15 ∧ μM1 1 = (pp_up s (8 + 5 * o + 2) (pp_i y)) ∧ pp_I (pp_up s (8 + 5 * o + 2) (pp_i y)) ∧ pp_D (pp_up s (8 + 5 * o + 2) (pp_i y)) μX1 ∧ pp_RR μX1 t L (pp_up s (8 + 5 * o + 2) (pp_i y)) ∧ pp_F pp_Sx9 μX μX1 ∧ pp_F pp_SL μM μM1 := by
  intro m
  induction m with
  | zero =>
    intro n1 n2 v x best most μX μM hv h1 h2 hx hs hI hD hR hon
    obtain ⟨n1, rfl⟩ := pp_fu h1
    obtain ⟨n2, rfl⟩ := pp_fu h2
    rw [f_X2_bestSetting_11_L14, f_X12_valueFor_L28, show (15 : Int32) = pp_i 15 from rfl, pp_ite (pp_gt (a := v) (b := 15) (by omega) (by omega)), if_pos (by omega), pp_ite (pp_gt (a := v) (b := 15) (by omega) (by omega)), if_pos (by omega)]
    exact ⟨best, x, μX, μM, rfl, rfl, hx, hs, hI, hD, hR, pp_F.refl, pp_F.refl⟩
  | succ m ih =>
    intro n1 n2 v x best most μX μM hv h1 h2 hx hs hI hD hR hon
    obtain ⟨n1, rfl⟩ := pp_fu h1
    obtain ⟨n2, rfl⟩ := pp_fu h2
    obtain ⟨μX1, x1, x2, x3, x4, x5⟩ := pp_chg (N := N) (L := L) (i := 2) (v := v) (by omega) ht hI hD hR hon (by decide) ⟨fun q => absurd q (by decide), fun q => absurd q (by decide), fun _ => (by omega), fun q => absurd q (by decide)⟩
    rw [pp_up_up] at x2 x3 x4
    have x1 : f_X9_settle N t L (pp_i o) (g_set μX 11 o (pp_i v)) = some μX1 := x1
    obtain ⟨μX2, y1, y2⟩ := pp_X_on (N := N) (n := 16) (by omega) x2 (by decide) x3
    have hs1 : g_set μM 1 (8 + 5 * o + 2) (pp_i v) 1 = (pp_up s (8 + 5 * o + 2) (pp_i v)) := by rw [pp_row, hs, pp_up_up]
    obtain ⟨μM1, z1, z2, z3⟩ := pp_M_on (N := N) (n := 16) (c := 0) (μ := g_set μM 1 (8 + 5 * o + 2) (pp_i v)) (by omega) x2 (by decide) (by decide) (pp_tle x2) (pp_w16 x2) (hs1.trans (pp_self x2.2.2.2))
    have y1 : f_X2_restWorth N 16 μX1 = _ := y1
    have z1 : f_X12_onBy N 16 0 (g_set μM 1 (8 + 5 * o + 2) (pp_i v)) = _ := z1
    have hon1 : o < pp_n (pp_up s (8 + 5 * o + 2) (pp_i v)) := by
      rw [(pp_chn (s := s) ho (show 2 < 4 by decide)).1] at hon ⊢
      exact hon
    have hR2 : pp_RR μX2 t L (pp_up s (8 + 5 * o + 2) (pp_i v)) := x4.F (fun a ha hb => y2.row (fun b => decide_eq_false (fun q => (pp_rk_no ht ha hb).1 (by omega))))
    have fX : pp_F pp_Sx9 μX μX2 := x5.trans (y2.mono (fun a b q => decide_eq_false (fun e => by
      have := of_decide_eq_false q
      omega)))
    have fM : pp_F pp_SL μM μM1 := (pp_F.set (decide_eq_true (Or.inl rfl))).trans z3
    have hlt : ¬ 15 < v := by omega
    have step : ∀ (b2 m2 : Int32), ∃ (b : Int32) (y : Nat) (μX3 μM3 : g_M), f_X2_bestSetting_11_L14 N t L n1 (pp_i o) 15 was m2 b2 (pp_i (v + 1)) μX2 = some (b, μX3) ∧ f_X12_valueFor_L28 N n2 15 (pp_i (8 + 5 * o + 2)) was b2 m2 (pp_i (v + 1)) μM1 = some (b, μM3) ∧ y ≤ 15 ∧ μM3 1 = (pp_up s (8 + 5 * o + 2) (pp_i y)) ∧ pp_I (pp_up s (8 + 5 * o + 2) (pp_i y)) ∧ pp_D (pp_up s (8 + 5 * o + 2) (pp_i y)) μX3 ∧ pp_RR μX3 t L (pp_up s (8 + 5 * o + 2) (pp_i y)) ∧ pp_F pp_Sx9 μX μX3 ∧ pp_F pp_SL μM μM3 := by
      intro b2 m2
      obtain ⟨b, y, μX3, μM3, w1, w2, w3, w4, w5, w6, w7, w8, w9⟩ := ih n1 n2 (v + 1) v b2 m2 μX2 μM1 (by omega) (by omega) (by omega) (by omega) (z2.trans hs1) x2 (x3.F y2) hR2 hon1
      exact ⟨b, y, μX3, μM3, w1, w2, w3, w4, w5, w6, w7, fX.trans w8, fM.trans w9⟩
    rw [f_X2_bestSetting_11_L14, f_X12_valueFor_L28, show (15 : Int32) = pp_i 15 from rfl, pp_ite (pp_gt (a := v) (b := 15) (by omega) (by omega)), if_neg hlt, pp_ite (pp_gt (a := v) (b := 15) (by omega) (by omega)), if_neg hlt, pp_wr (by omega) (by decide), pp_wr (by omega) (by decide)]
    simp only [Option.bind_some]
    rw [x1, z1]
    simp only [Option.bind_some]
    rw [y1, show pp_i v + 1 = pp_i (v + 1) from pp_add v 1]
    simp only [Option.bind_some]
    by_cases c : pp_on (pp_up s (8 + 5 * o + 2) (pp_i v)) 0 16 (pp_t (pp_up s (8 + 5 * o + 2) (pp_i v))) (pp_w (pp_up s (8 + 5 * o + 2) (pp_i v))) 0 ≤ most
    · rw [if_pos c, if_pos c]
      exact step best most
    · rw [if_neg c, if_neg c]
      exact step (pp_i v) _
theorem pp_c_placeFor {N t L u Lu : Nat} {μX μM : g_M} {a : Int32} (hN : 1000 ≤ N) (h : pp_Rel t L u Lu μX μM) : ∃ (v : Int32) (μX1 μM1 : g_M), f_X11_placeFor N t L a μX = some (v, μX1) ∧ f_X12_placeFor N a μM = some (v, μM1) ∧ pp_Rel t L u Lu μX1 μM1 := by
  obtain ⟨hI, hD, hR, c, hp⟩ := h.2.2.1
  have hn6 := hI.1.2
  unfold f_X11_placeFor f_X12_placeFor
  rcases pp_ovn (a := a) hI.1 hD.1.1 rfl with ⟨e1, e2⟩ | ⟨o, ho, rfl, e1, e2⟩
  · rw [if_pos e1, if_pos e2]
    exact ⟨_, _, _, rfl, rfl, h⟩
  rw [if_neg (pp_n10 e1), if_neg (pp_n10 e2)]
  obtain ⟨kd, wa, pl, fi, g1, g2, g3, g4, g5, g6, g7, g8, g9, g10⟩ := hI.2.1 o ho
  have eid : pp_up (μM 1) (8 + 5 * o + 2) (pp_i pl) = μM 1 := pp_up_id g9
  obtain ⟨b, y, μX1, μM1, w1, w2, w3, w4, w5, w6, w7, w8, w9⟩ := pp_vf2L (N := N) (t := t) (L := L) (o := o) (s := μM 1) (was := pp_i pl) hN h.1 (by omega) 16 N N 0 pl 0 (-1) μX μM (by omega) (by omega) (by omega) g4 eid.symm (by rw [eid]; exact hI) (by rw [eid]; exact hD) (by rw [eid]; exact hR) (by rw [eid]; exact ho)
  have hon : o < pp_n (pp_up (μM 1) (8 + 5 * o + 2) (pp_i y)) := by
    rw [(pp_chn (s := μM 1) (o := o) (i := 2) (by omega) (by decide)).1]
    exact ho
  obtain ⟨μX2, x1, x2, x3, x4, x5⟩ := pp_chg (N := N) (L := L) (i := 2) (v := pl) (by omega) h.1 w5 w6 w7 hon (by decide) ⟨fun q => absurd q (by decide), fun q => absurd q (by decide), fun _ => (by omega), fun q => absurd q (by decide)⟩
  rw [pp_up_up, eid] at x2 x3 x4
  have x1 : f_X9_settle N t L (pp_i o) (g_set μX1 11 o (pp_i pl)) = some μX2 := x1
  have w1 : f_X2_bestSetting_11_L14 N t L N (pp_i o) 15 (pp_i pl) (-1) 0 0 μX = _ := w1
  have w2 : f_X12_valueFor_L28 N N 15 (pp_i (8 + 5 * o + 2)) (pp_i pl) 0 (-1) 0 μM = _ := w2
  have e8 : ((8 + (5 * pp_i o)) + 2 : Int32) = pp_i (8 + 5 * o + 2) := by
    rw [show (5 * pp_i o : Int32) = pp_i (5 * o) from pp_mul 5 o, show (8 + pp_i (5 * o) : Int32) = pp_i (8 + 5 * o) from pp_add 8 (5 * o)]
    exact pp_add _ 2
  have erd : g_rd μX 11 6 (pp_i o) = some (pp_i pl) := by
    rw [pp_rd (by omega) (by decide)]
    exact congrArg some ((pp_chS (i := 2) hD.1 ho (by decide)).trans g9)
  have fX : pp_F pp_Sx9 μX μX2 := w8.trans x5
  refine ⟨b, μX2, g_set μM1 1 (8 + 5 * o + 2) (pp_i pl), ?_, ?_, pp_tow h h.1 ?_ (fX.mono (fun a b => pp_Sx9_t)) ((w9.mono (fun a b => pp_SL_t)).trans (pp_F.set (pp_SMt_1 _)))⟩
  · unfold f_X2_bestSetting_11
    rw [erd]
    simp only [Option.bind_some]
    rw [w1]
    simp only [Option.bind_some]
    rw [pp_wr (by omega) (by decide)]
    simp only [Option.bind_some]
    rw [x1]
    rfl
  · unfold f_X12_valueFor
    simp only [Option.bind_some]
    rw [e8, pp_rd (by omega) (by decide), g9]
    simp only [Option.bind_some]
    rw [w2]
    simp only [Option.bind_some]
    rw [pp_wr (by omega) (by decide)]
    rfl
  · rw [pp_row, w4, pp_up_up, eid]
    exact ⟨x2, x3, x4, c, hp.F (fX 1 17 (decide_eq_false (by omega))) (fX.row (fun b => decide_eq_false (by omega)))⟩
theorem pp_vf1L {N t L o : Nat} {s : Nat → Int32} {was : Int32} (hN : 1000 ≤ N) (ht : pp_rk t) (ho : o < 6) : ∀ (m n1 n2 v x : Nat) (best most : Int32) (μX μM : g_M), v + m = 10 → m < n1 → m < n2 → x ≤ 9 → μM 1 = (pp_up s (8 + 5 * o + 1) (pp_i x)) → pp_I (pp_up s (8 + 5 * o + 1) (pp_i x)) → pp_D (pp_up s (8 + 5 * o + 1) (pp_i x)) μX → pp_RR μX t L (pp_up s (8 + 5 * o + 1) (pp_i x)) → o < pp_n (pp_up s (8 + 5 * o + 1) (pp_i x)) →
    ∃ (b : Int32) (y : Nat) (μX1 μM1 : g_M), f_X2_bestSetting_10_L14 N t L n1 (pp_i o) 9 was most best (pp_i v) μX = some (b, μX1) ∧ f_X12_valueFor_L28 N n2 9 (pp_i (8 + 5 * o + 1)) was best most (pp_i v) μM = some (b, μM1) ∧ y ≤ 9 ∧ μM1 1 = (pp_up s (8 + 5 * o + 1) (pp_i y)) ∧ pp_I (pp_up s (8 + 5 * o + 1) (pp_i y)) ∧ pp_D (pp_up s (8 + 5 * o + 1) (pp_i y)) μX1 ∧ pp_RR μX1 t L (pp_up s (8 + 5 * o + 1) (pp_i y)) ∧ pp_F pp_Sx9 μX μX1 ∧ pp_F pp_SL μM μM1 := by
  intro m
  induction m with
  | zero =>
    intro n1 n2 v x best most μX μM hv h1 h2 hx hs hI hD hR hon
    obtain ⟨n1, rfl⟩ := pp_fu h1
    obtain ⟨n2, rfl⟩ := pp_fu h2
    rw [f_X2_bestSetting_10_L14, f_X12_valueFor_L28, show (9 : Int32) = pp_i 9 from rfl, pp_ite (pp_gt (a := v) (b := 9) (by omega) (by omega)), if_pos (by omega), pp_ite (pp_gt (a := v) (b := 9) (by omega) (by omega)), if_pos (by omega)]
    exact ⟨best, x, μX, μM, rfl, rfl, hx, hs, hI, hD, hR, pp_F.refl, pp_F.refl⟩
  | succ m ih =>
    intro n1 n2 v x best most μX μM hv h1 h2 hx hs hI hD hR hon
    obtain ⟨n1, rfl⟩ := pp_fu h1
    obtain ⟨n2, rfl⟩ := pp_fu h2
    obtain ⟨μX1, x1, x2, x3, x4, x5⟩ := pp_chg (N := N) (L := L) (i := 1) (v := v) (by omega) ht hI hD hR hon (by decide) ⟨fun q => absurd q (by decide), fun _ => (by omega), fun q => absurd q (by decide), fun q => absurd q (by decide)⟩
    rw [pp_up_up] at x2 x3 x4
    have x1 : f_X9_settle N t L (pp_i o) (g_set μX 10 o (pp_i v)) = some μX1 := x1
    obtain ⟨μX2, y1, y2⟩ := pp_X_on (N := N) (n := 16) (by omega) x2 (by decide) x3
    have hs1 : g_set μM 1 (8 + 5 * o + 1) (pp_i v) 1 = (pp_up s (8 + 5 * o + 1) (pp_i v)) := by rw [pp_row, hs, pp_up_up]
    obtain ⟨μM1, z1, z2, z3⟩ := pp_M_on (N := N) (n := 16) (c := 0) (μ := g_set μM 1 (8 + 5 * o + 1) (pp_i v)) (by omega) x2 (by decide) (by decide) (pp_tle x2) (pp_w16 x2) (hs1.trans (pp_self x2.2.2.2))
    have y1 : f_X2_restWorth N 16 μX1 = _ := y1
    have z1 : f_X12_onBy N 16 0 (g_set μM 1 (8 + 5 * o + 1) (pp_i v)) = _ := z1
    have hon1 : o < pp_n (pp_up s (8 + 5 * o + 1) (pp_i v)) := by
      rw [(pp_chn (s := s) ho (show 1 < 4 by decide)).1] at hon ⊢
      exact hon
    have hR2 : pp_RR μX2 t L (pp_up s (8 + 5 * o + 1) (pp_i v)) := x4.F (fun a ha hb => y2.row (fun b => decide_eq_false (fun q => (pp_rk_no ht ha hb).1 (by omega))))
    have fX : pp_F pp_Sx9 μX μX2 := x5.trans (y2.mono (fun a b q => decide_eq_false (fun e => by
      have := of_decide_eq_false q
      omega)))
    have fM : pp_F pp_SL μM μM1 := (pp_F.set (decide_eq_true (Or.inl rfl))).trans z3
    have hlt : ¬ 9 < v := by omega
    have step : ∀ (b2 m2 : Int32), ∃ (b : Int32) (y : Nat) (μX3 μM3 : g_M), f_X2_bestSetting_10_L14 N t L n1 (pp_i o) 9 was m2 b2 (pp_i (v + 1)) μX2 = some (b, μX3) ∧ f_X12_valueFor_L28 N n2 9 (pp_i (8 + 5 * o + 1)) was b2 m2 (pp_i (v + 1)) μM1 = some (b, μM3) ∧ y ≤ 9 ∧ μM3 1 = (pp_up s (8 + 5 * o + 1) (pp_i y)) ∧ pp_I (pp_up s (8 + 5 * o + 1) (pp_i y)) ∧ pp_D (pp_up s (8 + 5 * o + 1) (pp_i y)) μX3 ∧ pp_RR μX3 t L (pp_up s (8 + 5 * o + 1) (pp_i y)) ∧ pp_F pp_Sx9 μX μX3 ∧ pp_F pp_SL μM μM3 := by
      intro b2 m2
      obtain ⟨b, y, μX3, μM3, w1, w2, w3, w4, w5, w6, w7, w8, w9⟩ := ih n1 n2 (v + 1) v b2 m2 μX2 μM1 (by omega) (by omega) (by omega) (by omega) (z2.trans hs1) x2 (x3.F y2) hR2 hon1
      exact ⟨b, y, μX3, μM3, w1, w2, w3, w4, w5, w6, w7, fX.trans w8, fM.trans w9⟩
    rw [f_X2_bestSetting_10_L14, f_X12_valueFor_L28, show (9 : Int32) = pp_i 9 from rfl, pp_ite (pp_gt (a := v) (b := 9) (by omega) (by omega)), if_neg hlt, pp_ite (pp_gt (a := v) (b := 9) (by omega) (by omega)), if_neg hlt, pp_wr (by omega) (by decide), pp_wr (by omega) (by decide)]
    simp only [Option.bind_some]
    rw [x1, z1]
    simp only [Option.bind_some]
    rw [y1, show pp_i v + 1 = pp_i (v + 1) from pp_add v 1]
    simp only [Option.bind_some]
    by_cases c : pp_on (pp_up s (8 + 5 * o + 1) (pp_i v)) 0 16 (pp_t (pp_up s (8 + 5 * o + 1) (pp_i v))) (pp_w (pp_up s (8 + 5 * o + 1) (pp_i v))) 0 ≤ most
    · rw [if_pos c, if_pos c]
      exact step best most
    · rw [if_neg c, if_neg c]
      exact step (pp_i v) _
theorem pp_c_warmFor {N t L u Lu : Nat} {μX μM : g_M} {a : Int32} (hN : 1000 ≤ N) (h : pp_Rel t L u Lu μX μM) : ∃ (v : Int32) (μX1 μM1 : g_M), f_X11_warmFor N t L a μX = some (v, μX1) ∧ f_X12_warmFor N a μM = some (v, μM1) ∧ pp_Rel t L u Lu μX1 μM1 := by
  obtain ⟨hI, hD, hR, c, hp⟩ := h.2.2.1
  have hn6 := hI.1.2
  unfold f_X11_warmFor f_X12_warmFor
  rcases pp_ovn (a := a) hI.1 hD.1.1 rfl with ⟨e1, e2⟩ | ⟨o, ho, rfl, e1, e2⟩
  · rw [if_pos e1, if_pos e2]
    exact ⟨_, _, _, rfl, rfl, h⟩
  rw [if_neg (pp_n10 e1), if_neg (pp_n10 e2)]
  obtain ⟨kd, wa, pl, fi, g1, g2, g3, g4, g5, g6, g7, g8, g9, g10⟩ := hI.2.1 o ho
  have eid : pp_up (μM 1) (8 + 5 * o + 1) (pp_i wa) = μM 1 := pp_up_id g8
  obtain ⟨b, y, μX1, μM1, w1, w2, w3, w4, w5, w6, w7, w8, w9⟩ := pp_vf1L (N := N) (t := t) (L := L) (o := o) (s := μM 1) (was := pp_i wa) hN h.1 (by omega) 10 N N 0 wa 0 (-1) μX μM (by omega) (by omega) (by omega) g3 eid.symm (by rw [eid]; exact hI) (by rw [eid]; exact hD) (by rw [eid]; exact hR) (by rw [eid]; exact ho)
  have hon : o < pp_n (pp_up (μM 1) (8 + 5 * o + 1) (pp_i y)) := by
    rw [(pp_chn (s := μM 1) (o := o) (i := 1) (by omega) (by decide)).1]
    exact ho
  obtain ⟨μX2, x1, x2, x3, x4, x5⟩ := pp_chg (N := N) (L := L) (i := 1) (v := wa) (by omega) h.1 w5 w6 w7 hon (by decide) ⟨fun q => absurd q (by decide), fun _ => (by omega), fun q => absurd q (by decide), fun q => absurd q (by decide)⟩
  rw [pp_up_up, eid] at x2 x3 x4
  have x1 : f_X9_settle N t L (pp_i o) (g_set μX1 10 o (pp_i wa)) = some μX2 := x1
  have w1 : f_X2_bestSetting_10_L14 N t L N (pp_i o) 9 (pp_i wa) (-1) 0 0 μX = _ := w1
  have w2 : f_X12_valueFor_L28 N N 9 (pp_i (8 + 5 * o + 1)) (pp_i wa) 0 (-1) 0 μM = _ := w2
  have e8 : ((8 + (5 * pp_i o)) + 1 : Int32) = pp_i (8 + 5 * o + 1) := by
    rw [show (5 * pp_i o : Int32) = pp_i (5 * o) from pp_mul 5 o, show (8 + pp_i (5 * o) : Int32) = pp_i (8 + 5 * o) from pp_add 8 (5 * o)]
    exact pp_add _ 1
  have erd : g_rd μX 10 6 (pp_i o) = some (pp_i wa) := by
    rw [pp_rd (by omega) (by decide)]
    exact congrArg some ((pp_chS (i := 1) hD.1 ho (by decide)).trans g8)
  have fX : pp_F pp_Sx9 μX μX2 := w8.trans x5
  refine ⟨b, μX2, g_set μM1 1 (8 + 5 * o + 1) (pp_i wa), ?_, ?_, pp_tow h h.1 ?_ (fX.mono (fun a b => pp_Sx9_t)) ((w9.mono (fun a b => pp_SL_t)).trans (pp_F.set (pp_SMt_1 _)))⟩
  · unfold f_X2_bestSetting_10
    rw [erd]
    simp only [Option.bind_some]
    rw [w1]
    simp only [Option.bind_some]
    rw [pp_wr (by omega) (by decide)]
    simp only [Option.bind_some]
    rw [x1]
    rfl
  · unfold f_X12_valueFor
    simp only [Option.bind_some]
    rw [e8, pp_rd (by omega) (by decide), g8]
    simp only [Option.bind_some]
    rw [w2]
    simp only [Option.bind_some]
    rw [pp_wr (by omega) (by decide)]
    rfl
  · rw [pp_row, w4, pp_up_up, eid]
    exact ⟨x2, x3, x4, c, hp.F (fX 1 17 (decide_eq_false (by omega))) (fX.row (fun b => decide_eq_false (by omega)))⟩
