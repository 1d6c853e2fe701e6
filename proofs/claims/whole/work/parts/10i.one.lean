/-! ===== NOT, brackets ===== -/
theorem pp_rn_congr {q q2 : Nat → Int32} {c : Nat → Bool} : ∀ (m k x : Nat), (∀ i, k ≤ i → i < k + m → q2 i = q i) → pp_rn q2 c m k x = pp_rn q c m k x ∧ (pp_ok q c m k x → pp_ok q2 c m k x)
  | 0, _, _, _ => ⟨rfl, fun h => h⟩
  | m + 1, k, x, h => by
    have e := h k (Nat.le_refl k) (by omega)
    have ih := pp_rn_congr (c := c) m (k + 1) (pp_ns (q k) (c k) x) (fun i h1 h2 => h i (by omega) (by omega))
    rw [pp_rn, pp_rn, pp_ok, pp_ok, e]
    exact ⟨ih.1, fun z => ⟨z.1, ih.2 z.2⟩⟩
theorem pp_gd_congr {q q2 : Nat → Int32} {h b m : Nat} (g : pp_gd q h b m) (hq : ∀ k, b ≤ k → k < b + m → q2 k = q k) : pp_gd q2 h b m := by
  refine ⟨g.1, fun c x hx => ?_⟩
  have e := pp_rn_congr (c := c) m b x hq
  obtain ⟨g1, v, hv, g2⟩ := g.2 c x hx
  exact ⟨e.2 g1, v, hv, e.1.trans g2⟩
theorem pp_J.TK13 {μX μM : g_M} {l W j r S op op2 : Nat} {b : Nat → Nat} (h : pp_J μX μM l b W j r S op) : pp_J μX (g_set μM 0 13 (pp_i op2)) l b W j r S op2 :=
  ⟨h.1, h.2.1.TK13, h.2.2.congr rfl (pp_rowN (by decide))⟩
/-- a step by both -/
theorem pp_J_step {μX μM : g_M} {l W j r S op : Nat} {b : Nat → Nat} (hr : 60 < r) (h : pp_J μX μM l b W j r S op) (hSW : S < W) (hS : S < 150) {q x y : Nat} (hx : x ≤ 10004) (hy : y ≤ 10004) :
    ∃ μX1 μM1 : g_M, f_X7_addStep r (3 * W) (pp_i q) (pp_i x) (pp_i y) μX = some μX1 ∧ f_X12_steps (pp_i q) (pp_i x) (pp_i y) μM = some μM1 ∧ pp_J μX1 μM1 l b W j r (S + 1) op ∧ pp_F (pp_Sq r) μX μX1 ∧ pp_F (pp_Sm S) μM μM1 ∧ pp_q (μM1 1) S = pp_i q ∧ ∀ k, k < S → pp_q (μM1 1) k = pp_q (μM 1) k := by
  obtain ⟨μX4, μM4, t1, t2, t3, t4, t5, t6, t7⟩ := pp_J_addStep hr h hSW hS (q := q) hx hy
  refine ⟨μX4, μM4, t1, t2, t3, t4, ?_, t7, fun k hk => t6 (94 + 3 * k) (by omega) (by omega)⟩
  intro x y q
  by_cases ex : x = 1
  · subst ex
    have q0 : ¬ ((1 = 0 ∧ 8 ≤ y ∧ y ≤ 13) ∨ (1 = 1 ∧ (y = 7 ∨ (94 + 3 * S ≤ y ∧ y < 544)))) := of_decide_eq_false q
    have q1 : ¬ (y = 7 ∨ (94 + 3 * S ≤ y ∧ y < 544)) := fun z => q0 (Or.inr ⟨rfl, z⟩)
    exact t6 y (by omega) (by omega)
  · rw [t5 x ex]
theorem pp_J_next {N l W j r S op n : Nat} {b : Nat → Nat} {μX μM : g_M} (hN : 300 ≤ N) (hr : 60 < r) (h : pp_J μX μM l b W j r S op) (hn : pp_cx l b (pp_wp l b j) = n) (h25 : n ≤ 25) :
    ∃ μX1 μM1 : g_M, f_X8_pass (pp_i n) (pp_i n) μX = some (1, μX1) ∧ f_X12_nextToken N μM = some μM1 ∧ pp_J μX1 μM1 l b W (j + 1) r S op ∧ pp_F (pp_Sq r) μX μX1 ∧ pp_F pp_Sr μM μM1 := by
  have hp := pp_lt_of_cx (Nat.le_of_eq hn) h25
  obtain ⟨μM1, i1, i2, i3⟩ := pp_PM_next hN h.2.1 hp
  have i3 := i3.mono (fun a b q => pp_St_r q)
  obtain ⟨μX1, k1, k2, k3⟩ := pp_J_pass hr h (Nat.le_of_eq hn.symm) (Nat.le_of_eq hn) h25 i2 i3
  exact ⟨μX1, μM1, k1, i1, k2, k3, i3⟩
theorem pp_J_nots {N l W r S op L : Nat} {b : Nat → Nat} {FX : Int32 → g_M → Option (Int32 × g_M)} {FM : g_M → Option g_M} {a1 : Int32} (hN : 300 ≤ N) (hr : 60 < r) : ∀ (m n1 n2 c j : Nat) (μX μM : g_M), j + m = W → m < n1 → m < n2 → c ≤ j → pp_J μX μM l b W j r S op →
    ∃ (c1 j1 : Nat) (μX1 μM1 : g_M), f_X8_readOne_R_L5 FX N r L n1 a1 (pp_i (c % 2)) (pp_i c) μX = some (pp_i (c1 % 2), μX1) ∧ f_X12_oneHere_L2 FM N n2 (pp_i c) μM = some (pp_i c1, μM1) ∧ pp_J μX1 μM1 l b W j1 r S op ∧ pp_F (pp_Sq r) μX μX1 ∧ pp_F pp_Sr μM μM1 ∧ c ≤ c1 ∧ j + (c1 - c) = j1 ∧ pp_wp l b j + 2 * (c1 - c) ≤ pp_wp l b j1 ∧ c1 ≤ 200 := by
  intro m
  induction m with
  | zero =>
    intro n1 n2 c j μX μM hj h1 h2 hc h
    obtain ⟨n1, rfl⟩ : ∃ n, n1 = n + 1 := ⟨n1 - 1, by omega⟩
    obtain ⟨n2, rfl⟩ : ∃ n, n2 = n + 1 := ⟨n2 - 1, by omega⟩
    have hW : W ≤ 200 := by
      have := h.1.1.2.1
      have := h.1.2.2.2.2
      omega
    have hcx : ¬ pp_cx l b (pp_wp l b j) = 12 := by
      have e : j = W := by omega
      rw [e, h.1.1.1, show pp_cx l b l = 26 from if_neg (Nat.lt_irrefl l)]
      decide
    refine ⟨c, j, μX, μM, ?_, ?_, h, pp_F.refl, pp_F.refl, Nat.le_refl c, by omega, by omega, by omega⟩
    · rw [f_X8_readOne_R_L5]
      by_cases c2 : 200 ≤ c
      · rw [show (200 : Int32) = pp_i 200 from rfl, pp_ite (pp_ge (by omega) (by omega)), if_pos c2]
      · have st := pp_J_stay (lo := 12) (hi := 12) hr h (by omega) (by decide) (by decide)
        have st : f_X8_pass 12 12 μX = some (0, μX) := st
        rw [show (200 : Int32) = pp_i 200 from rfl, pp_ite (pp_ge (by omega) (by omega)), if_neg c2, st]
        rfl
    · rw [f_X12_oneHere_L2, h.2.1.2.2.2.2.1, if_pos (show pp_i 0 = (0 : Int32) from rfl), pp_M_not h.2.1.1 h.2.1.2.2.1 h.2.1.2.1 h.2.1.2.2.2.1, if_neg hcx]
      rfl
  | succ m ih =>
    intro n1 n2 c j μX μM hj h1 h2 hc h
    obtain ⟨n1, rfl⟩ : ∃ n, n1 = n + 1 := ⟨n1 - 1, by omega⟩
    obtain ⟨n2, rfl⟩ : ∃ n, n2 = n + 1 := ⟨n2 - 1, by omega⟩
    have hW : W ≤ 200 := by
      have := h.1.1.2.1
      have := h.1.2.2.2.2
      omega
    by_cases hcx : pp_cx l b (pp_wp l b j) = 12
    · obtain ⟨μX1, μM1, i1, i2, i3, i4, i5⟩ := pp_J_next hN hr h hcx (by decide)
      have i1 : f_X8_pass 12 12 μX = some (1, μX1) := i1
      obtain ⟨c1, j1, μX2, μM2, k1, k2, k3, k4, k5, k6, k7, k8, k9⟩ := ih n1 n2 (c + 1) (j + 1) μX1 μM1 (by omega) (by omega) (by omega) (by omega) i3
      have hw2 := pp_wp_2 (n := 12) (by decide) hcx
      refine ⟨c1, j1, μX2, μM2, ?_, ?_, k3, i4.trans k4, i5.trans k5, by omega, by omega, by omega, k9⟩
      · rw [f_X8_readOne_R_L5, show (200 : Int32) = pp_i 200 from rfl, pp_ite (pp_ge (by omega) (by omega)), if_neg (by omega), i1]
        simp only [Option.bind_some]
        rw [if_neg (by decide), show pp_i c + 1 = pp_i (c + 1) from pp_add c 1]
        rcases Nat.mod_two_eq_zero_or_one c with e | e
        · rw [e, if_pos (show pp_i 0 = (0 : Int32) from rfl)]
          rw [show (c + 1) % 2 = 1 by omega] at k1
          exact k1
        · rw [e, if_neg (show ¬ pp_i 1 = (0 : Int32) by decide)]
          rw [show (c + 1) % 2 = 0 by omega] at k1
          exact k1
      · rw [f_X12_oneHere_L2, h.2.1.2.2.2.2.1, if_pos (show pp_i 0 = (0 : Int32) from rfl), pp_M_not h.2.1.1 h.2.1.2.2.1 h.2.1.2.1 h.2.1.2.2.2.1, if_pos hcx]
        simp only [Option.bind_some]
        rw [if_neg (by decide), i2]
        simp only [Option.bind_some]
        rw [show pp_i c + 1 = pp_i (c + 1) from pp_add c 1]
        exact k2
    · refine ⟨c, j, μX, μM, ?_, ?_, h, pp_F.refl, pp_F.refl, Nat.le_refl c, by omega, by omega, by omega⟩
      · have st := pp_J_stay (lo := 12) (hi := 12) hr h (by omega) (by decide) (by decide)
        have st : f_X8_pass 12 12 μX = some (0, μX) := st
        rw [f_X8_readOne_R_L5, show (200 : Int32) = pp_i 200 from rfl, pp_ite (pp_ge (by omega) (by omega)), if_neg (by omega), st]
        rfl
      · rw [f_X12_oneHere_L2, h.2.1.2.2.2.2.1, if_pos (show pp_i 0 = (0 : Int32) from rfl), pp_M_not h.2.1.1 h.2.1.2.2.1 h.2.1.2.1 h.2.1.2.2.2.1, if_neg hcx]
        rfl
