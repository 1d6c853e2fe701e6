/-! ===== the game ===== -/
def pp_bt (mx : Bool) (x v : Nat) : Bool := if mx = true then decide (x < v) else decide (v < x)
def pp_gf (mx : Bool) (f : Nat → Nat) : Nat → Nat → Nat × Nat → Nat × Nat
  | 0, _, acc => acc
  | m + 1, a, acc => pp_gf mx f m (a + 1) (if pp_bt mx acc.1 (f a) = true then (f a, a) else acc)
/-- value and the least act that comes to it -/
def pp_gv (s : Nat → Int32) : Nat → Nat → (Nat → Nat) → Bool → Nat × Nat
  | 0, _, _, _ => (0, 0)
  | m + 1, t, w, mx => if t < pp_e s then pp_gf mx (fun a => pp_woN s t (pp_nw s t w (pp_cc a)) + (pp_gv s m (t + 1) (pp_nw s t w (pp_cc a)) (!mx)).1) (pp_n s) 1 (pp_woN s t (pp_nw s t w (pp_cc 0)) + (pp_gv s m (t + 1) (pp_nw s t w (pp_cc 0)) (!mx)).1, 0) else (0, 0)
theorem pp_gf_le {mx : Bool} {f : Nat → Nat} {b n : Nat} (h : ∀ a, a < n → f a ≤ b) : ∀ (m a : Nat) (acc : Nat × Nat), a + m = n → acc.1 ≤ b → acc.2 < n → (pp_gf mx f m a acc).1 ≤ b ∧ (pp_gf mx f m a acc).2 < n
  | 0, _, _, _, h2, h3 => ⟨h2, h3⟩
  | m + 1, a, acc, ha, h2, h3 => by
    rw [pp_gf]
    refine pp_gf_le h m (a + 1) _ (by omega) ?_ ?_
    · split
      · exact h a (by omega)
      · exact h2
    · split
      · show a < n
        omega
      · exact h3
theorem pp_gv_le {s : Nat → Int32} (hB2 : pp_n s ≤ 6) (hO : pp_O s) : ∀ (m t : Nat) (w : Nat → Nat) (mx : Bool), (pp_gv s m t w mx).1 ≤ 114 * m ∧ (pp_gv s m t w mx).2 < pp_n s + 1
  | 0, _, _, _ => ⟨Nat.zero_le _, Nat.succ_pos _⟩
  | m + 1, t, w, mx => by
    rw [pp_gv]
    by_cases h : t < pp_e s
    · rw [if_pos h]
      have hv : ∀ a, pp_woN s t (pp_nw s t w (pp_cc a)) + (pp_gv s m (t + 1) (pp_nw s t w (pp_cc a)) (!mx)).1 ≤ 114 * (m + 1) := by
        intro a
        have h1 := (pp_wo_N (t := t) (w := pp_nw s t w (pp_cc a)) hB2 hO).2
        have h2 := (pp_gv_le hB2 hO m (t + 1) (pp_nw s t w (pp_cc a)) (!mx)).1
        omega
      exact pp_gf_le (n := pp_n s + 1) (fun a _ => hv a) (pp_n s) 1 _ (by omega) (hv 0) (Nat.succ_pos _)
    · rw [if_neg h]
      exact ⟨Nat.zero_le _, Nat.succ_pos _⟩
def pp_SV (a b : Nat) : Bool := decide (a = 1 ∨ a = 3 ∨ a = 5 ∨ (a = 0 ∧ (b = 7 ∨ b = 15 ∨ b = 28)))
theorem pp_M_gv {N : Nat} {s : Nat → Int32} {n0 : Nat} (hN : 200 ≤ N) (hI : pp_I s) (hn0 : n0 ≤ 4) : ∀ (m f k t : Nat) (w : Nat → Nat) (sc : Int32) (μ : g_M), k + m = n0 → m < f → t ≤ pp_e s → (∀ o, o < pp_n s → w o < 16) → μ 1 = pp_put s t w sc →
    ∃ μ1 : g_M, f_X12_valueFrom N f (pp_i k) (pp_i n0) μ = some (pp_i (pp_gv s m t w (decide (k % 2 = 0))).1, μ1) ∧ μ1 1 = μ 1 ∧ (0 < m ∧ t < pp_e s → μ1 0 28 = pp_i (pp_gv s m t w (decide (k % 2 = 0))).2) ∧ (∀ j, j < 38 * k → μ1 3 j = μ 3 j) ∧ pp_F pp_SV μ μ1 := by
  obtain ⟨hB, hO, hR, hT⟩ := hI
  have hB2 := hB.2
  have h16 := hT.2.2.2.1
  intro m
  induction m with
  | zero =>
    intro f k t w sc μ hk hf ht hw h1
    obtain ⟨f, rfl⟩ := pp_fu hf
    rw [f_X12_valueFrom, if_pos (show pp_i k = pp_i n0 by rw [show k = n0 by omega])]
    exact ⟨μ, rfl, rfl, fun q => by omega, fun _ _ => rfl, pp_F.refl⟩
  | succ m ih =>
    intro f k t w sc μ hk hf ht hw h1
    obtain ⟨f, rfl⟩ := pp_fu hf
    rw [f_X12_valueFrom, pp_ite (pp_eq (by omega) (by omega)), if_neg (by omega), pp_ite (pp_M_ov hT (by omega) h1)]
    by_cases hto : t < pp_e s
    · rw [if_pos hto, pp_gv, if_pos hto]
      obtain ⟨fa, a1, a2, a3⟩ := pp_A_aside (N := N) (lev := k) (μ := μ) hN (by omega)
      rw [a1]
      simp only [Option.bind_some]
      have hb : ∀ a, pp_woN s t (pp_nw s t w (pp_cc a)) + (pp_gv s m (t + 1) (pp_nw s t w (pp_cc a)) (!decide (k % 2 = 0))).1 ≤ 1000 := by
        intro a
        have h1 := (pp_wo_N (t := t) (w := pp_nw s t w (pp_cc a)) hB2 hO).2
        have h2 := (pp_gv_le hB2 hO m (t + 1) (pp_nw s t w (pp_cc a)) (!decide (k % 2 = 0))).1
        omega
      have hpar : decide ((k + 1) % 2 = 0) = !decide (k % 2 = 0) := by
        by_cases c : k % 2 = 0
        · rw [decide_eq_true c, decide_eq_false (by omega)]; rfl
        · rw [decide_eq_false c, decide_eq_true (by omega)]; rfl
      -- one act
      have ev : ∀ (a : Nat) (μ : g_M), a ≤ pp_n s → μ 1 = pp_put s t w sc → pp_A μ k (pp_put s t w sc) →
          ∃ μ2 μ3 μ4 : g_M, f_X12_goesWith N (pp_i a) μ = some (pp_i (pp_woN s t (pp_nw s t w (pp_cc a))), μ2) ∧ f_X12_valueFrom N f (pp_i k + 1) (pp_i n0) μ2 = some (pp_i (pp_gv s m (t + 1) (pp_nw s t w (pp_cc a)) (!decide (k % 2 = 0))).1, μ3) ∧ f_X12_laysBack N (pp_i k) μ3 = some μ4 ∧ μ4 1 = pp_put s t w sc ∧ pp_A μ4 k (pp_put s t w sc) ∧ (∀ j, j < 38 * k → μ4 3 j = μ 3 j) ∧ pp_F pp_SV μ μ4 := by
        intro a μ ha h1 hA
        obtain ⟨μ2, g1, g2, -, g4⟩ := pp_M_gw (a := a) hN hB hR hO (by omega) (by omega) hw h1
        rw [(pp_wo_N (t := t) (w := pp_nw s t w (pp_cc a)) hB2 hO).1] at g1
        obtain ⟨μ3, i1, i2, -, i4, i5⟩ := ih f (k + 1) (t + 1) (pp_nw s t w (pp_cc a)) _ μ2 (by omega) (by omega) (by omega) (pp_nw_16 hO hw) g2
        have hA3 : pp_A μ3 k (pp_put s t w sc) := by
          intro j hj
          rw [i4 _ (by omega), g4 3 _ (by simp [pp_SG]), hA j hj]
        refine ⟨μ2, μ3, _, g1, ?_, pp_A_back hN (by omega) hB2 hA3 (i2.trans g2), pp_rw_s, fun j hj => by rw [pp_rw_n (by decide)]; exact hA3 j hj, fun j hj => by rw [pp_rw_n (by decide), i4 j (by omega), g4 3 j (by simp [pp_SG])], ?_⟩
        · rw [show pp_i k + 1 = pp_i (k + 1) from pp_add k 1, i1, hpar]
        · intro a' b hab
          have hab2 := hab
          unfold pp_SV at hab2
          simp only [decide_eq_false_iff_not] at hab2
          rw [pp_rw_n (by omega), i5 a' b hab, g4 a' b (by
            unfold pp_SG
            simp only [decide_eq_false_iff_not]
            omega)]
      have loop : ∀ (r fuel a : Nat) (μ : g_M) (acc : Nat × Nat), a + r = pp_n s + 1 → 1 ≤ a → r < fuel → acc.1 ≤ 1000 → acc.2 ≤ 6 → μ 1 = pp_put s t w sc → pp_A μ k (pp_put s t w sc) →
          ∃ μ1 : g_M, f_X12_valueFrom_L27 (f_X12_valueFrom N f) N fuel (pp_i k) (pp_i n0) (pp_i acc.1) (pp_i acc.2) (pp_i a) μ = some (pp_i (pp_gf (decide (k % 2 = 0)) (fun a => pp_woN s t (pp_nw s t w (pp_cc a)) + (pp_gv s m (t + 1) (pp_nw s t w (pp_cc a)) (!decide (k % 2 = 0))).1) r a acc).1, pp_i (pp_gf (decide (k % 2 = 0)) (fun a => pp_woN s t (pp_nw s t w (pp_cc a)) + (pp_gv s m (t + 1) (pp_nw s t w (pp_cc a)) (!decide (k % 2 = 0))).1) r a acc).2, μ1) ∧ μ1 1 = pp_put s t w sc ∧ (∀ j, j < 38 * k → μ1 3 j = μ 3 j) ∧ pp_F pp_SV μ μ1 := by
        intro r
        induction r with
        | zero =>
          intro fuel a μ acc ha ha1 hfu hc1 hc2 h1 hA
          obtain ⟨f2, rfl⟩ := pp_fu hfu
          have h0 : μ 1 0 = pp_i (pp_n s) := by rw [h1, pp_put_0, hB.1]
          rw [f_X12_valueFrom_L27, h0, pp_ite (pp_gt (by omega) (by omega)), if_pos (by omega)]
          exact ⟨μ, rfl, h1, fun _ _ => rfl, pp_F.refl⟩
        | succ r ihr =>
          intro fuel a μ acc ha ha1 hfu hc1 hc2 h1 hA
          obtain ⟨f2, rfl⟩ := pp_fu hfu
          have h0 : μ 1 0 = pp_i (pp_n s) := by rw [h1, pp_put_0, hB.1]
          obtain ⟨μ2, μ3, μ4, e1, e2, e3, e4, e5, e6, e7⟩ := ev a μ (by omega) h1 hA
          have hba := hb a
          rw [f_X12_valueFrom_L27, h0, pp_ite (pp_gt (by omega) (by omega)), if_neg (by omega), e1]
          simp only [Option.bind_some]
          rw [e2]
          simp only [Option.bind_some]
          rw [e3]
          simp only [Option.bind_some]
          rw [if_neg (show ¬ (pp_i acc.2 < 0) by
            rw [show (0 : Int32) = pp_i 0 from rfl, pp_lt (by omega) (by omega)]
            omega), pp_rem2 (by omega), pp_ite (pp_e0 (by omega)), pp_add, pp_ite (pp_le (by omega) (by omega)), pp_ite (pp_ge (by omega) (by omega)), show pp_i a + 1 = pp_i (a + 1) from pp_add a 1, pp_gf]
          obtain ⟨μ5, j1, j2, j3, j4⟩ := ihr f2 (a + 1) μ4 (if pp_bt (decide (k % 2 = 0)) acc.1 (pp_woN s t (pp_nw s t w (pp_cc a)) + (pp_gv s m (t + 1) (pp_nw s t w (pp_cc a)) (!decide (k % 2 = 0))).1) = true then (pp_woN s t (pp_nw s t w (pp_cc a)) + (pp_gv s m (t + 1) (pp_nw s t w (pp_cc a)) (!decide (k % 2 = 0))).1, a) else acc) (by omega) (by omega) (by omega) (by
            split
            · exact hba
            · exact hc1) (by
            split
            · show a ≤ 6
              omega
            · exact hc2) e4 e5
          refine ⟨μ5, ?_, j2, fun j hj => by rw [j3 j hj, e6 j hj], e7.trans j4⟩
          rw [← j1]
          by_cases c : k % 2 = 0
          · rw [if_pos c, decide_eq_true c]
            by_cases c2 : acc.1 < pp_woN s t (pp_nw s t w (pp_cc a)) + (pp_gv s m (t + 1) (pp_nw s t w (pp_cc a)) (!true)).1
            · rw [if_pos (show pp_bt true acc.1 (pp_woN s t (pp_nw s t w (pp_cc a)) + (pp_gv s m (t + 1) (pp_nw s t w (pp_cc a)) (!true)).1) = true from decide_eq_true c2), if_neg (by omega)]
            · rw [if_neg (show ¬ pp_bt true acc.1 (pp_woN s t (pp_nw s t w (pp_cc a)) + (pp_gv s m (t + 1) (pp_nw s t w (pp_cc a)) (!true)).1) = true from fun q => c2 (of_decide_eq_true q)), if_pos (by omega)]
          · rw [if_neg c, decide_eq_false c]
            by_cases c2 : pp_woN s t (pp_nw s t w (pp_cc a)) + (pp_gv s m (t + 1) (pp_nw s t w (pp_cc a)) (!false)).1 < acc.1
            · rw [if_pos (show pp_bt false acc.1 (pp_woN s t (pp_nw s t w (pp_cc a)) + (pp_gv s m (t + 1) (pp_nw s t w (pp_cc a)) (!false)).1) = true from decide_eq_true c2), if_neg (by omega)]
            · rw [if_neg (show ¬ pp_bt false acc.1 (pp_woN s t (pp_nw s t w (pp_cc a)) + (pp_gv s m (t + 1) (pp_nw s t w (pp_cc a)) (!false)).1) = true from fun q => c2 (of_decide_eq_true q)), if_pos (by omega)]
      have hA0 : pp_A (pp_rw μ 3 fa) k (pp_put s t w sc) := by
        intro j hj
        rw [pp_rw_s, a2 j hj, h1]
      obtain ⟨μ2, μ3, μ4, e1, e2, e3, e4, e5, e6, e7⟩ := ev 0 (pp_rw μ 3 fa) (Nat.zero_le _) (by rw [pp_rw_n (by decide), h1]) hA0
      obtain ⟨NN, hNN⟩ := pp_fu (show 0 < N by omega)
      obtain ⟨μ5, j1, j2, j3, j4⟩ := loop (pp_n s) NN 1 μ4 (pp_woN s t (pp_nw s t w (pp_cc 0)) + (pp_gv s m (t + 1) (pp_nw s t w (pp_cc 0)) (!decide (k % 2 = 0))).1, 0) (by omega) (Nat.le_refl _) (by omega) (hb 0) (Nat.zero_le _) e4 e5
      have hL : f_X12_valueFrom_L27 (f_X12_valueFrom N f) N N (pp_i k) (pp_i n0) 0 (-1) 0 (pp_rw μ 3 fa) = some (pp_i (pp_gf (decide (k % 2 = 0)) (fun a => pp_woN s t (pp_nw s t w (pp_cc a)) + (pp_gv s m (t + 1) (pp_nw s t w (pp_cc a)) (!decide (k % 2 = 0))).1) (pp_n s) 1 (pp_woN s t (pp_nw s t w (pp_cc 0)) + (pp_gv s m (t + 1) (pp_nw s t w (pp_cc 0)) (!decide (k % 2 = 0))).1, 0)).1, pp_i (pp_gf (decide (k % 2 = 0)) (fun a => pp_woN s t (pp_nw s t w (pp_cc a)) + (pp_gv s m (t + 1) (pp_nw s t w (pp_cc a)) (!decide (k % 2 = 0))).1) (pp_n s) 1 (pp_woN s t (pp_nw s t w (pp_cc 0)) + (pp_gv s m (t + 1) (pp_nw s t w (pp_cc 0)) (!decide (k % 2 = 0))).1, 0)).2, μ5) := by
        have h0 : pp_rw μ 3 fa 1 0 = pp_i (pp_n s) := by rw [pp_rw_n (by decide), h1, pp_put_0, hB.1]
        rw [← j1]
        conv => lhs; rw [show f_X12_valueFrom_L27 (f_X12_valueFrom N f) N N = f_X12_valueFrom_L27 (f_X12_valueFrom N f) N (NN + 1) from congrArg _ hNN]
        rw [f_X12_valueFrom_L27, h0, show (0 : Int32) = pp_i 0 from rfl, pp_ite (pp_gt (by omega) (by omega)), if_neg (by omega), e1]
        simp only [Option.bind_some]
        rw [e2]
        simp only [Option.bind_some]
        rw [e3]
        simp only [Option.bind_some]
        rw [if_pos (by decide), pp_add]
        rfl
      rw [hL]
      simp only [Option.bind_some]
      refine ⟨_, rfl, by rw [pp_rowN (by decide), j2, h1], fun _ => by rw [pp_set_s], fun j hj => by rw [pp_rowN (by decide), j3 j hj, e6 j hj, pp_rw_s, a3 j (by omega)], ?_⟩
      intro a' b hab
      have hab2 := hab
      unfold pp_SV at hab2
      simp only [decide_eq_false_iff_not] at hab2
      rw [pp_set_n (by omega), j4 a' b hab, e7 a' b hab, pp_rw_n (by omega)]
    · rw [if_neg hto, pp_gv, if_neg hto]
      exact ⟨μ, rfl, rfl, fun q => absurd q.2 hto, fun _ _ => rfl, pp_F.refl⟩
theorem pp_X_gv {N : Nat} {s : Nat → Int32} (hN : 200 ≤ N) (hI : pp_I s) : ∀ (m f t : Nat) (w : Nat → Nat) (mx : Bool) (μ : g_M), m ≤ 4 → m < f → t ≤ pp_e s → (∀ o, o < pp_n s → w o < 16) → pp_D s μ →
    ∃ μ1 : g_M, f_X2_gameValue N f (pp_i (pp_pk w (pp_n s))) (pp_i t) (pp_i m) (if mx = true then 1 else 0) μ = some (pp_i (pp_gv s m t w mx).1, μ1) ∧ pp_F pp_Sc μ μ1 := by
  obtain ⟨hB, hO, hR, hT⟩ := hI
  have hB2 := hB.2
  have h16 := hT.2.2.2.1
  intro m
  induction m with
  | zero =>
    intro f t w mx μ hm hf ht hw hD
    obtain ⟨f, rfl⟩ := pp_fu hf
    rw [f_X2_gameValue, if_pos (show pp_i 0 ≤ (0 : Int32) by decide)]
    exact ⟨μ, rfl, pp_F.refl⟩
  | succ m ih =>
    intro f t w mx μ hm hf ht hw hD
    obtain ⟨f, rfl⟩ := pp_fu hf
    rw [f_X2_gameValue, pp_ite (show (pp_i (m + 1) ≤ (0 : Int32)) = (m + 1 ≤ 0) from pp_le (b := 0) (by omega) (by omega)), if_neg (by omega), hD.2.2.2.1, hT.2.1, pp_ite (pp_lt (by omega) (by omega)), pp_gv]
    by_cases hto : t < pp_e s
    · rw [if_pos hto, if_pos hto]
      have hb : ∀ a, pp_woN s t (pp_nw s t w (pp_cc a)) + (pp_gv s m (t + 1) (pp_nw s t w (pp_cc a)) (!mx)).1 ≤ 1000 := by
        intro a
        have h1 := (pp_wo_N (t := t) (w := pp_nw s t w (pp_cc a)) hB2 hO).2
        have h2 := (pp_gv_le hB2 hO m (t + 1) (pp_nw s t w (pp_cc a)) (!mx)).1
        omega
      have ev : ∀ (a : Nat) (μ : g_M), a ≤ pp_n s → pp_D s μ → ∃ μ1 μ2 : g_M, f_X9_after N (pp_i (pp_pk w (pp_n s))) (pp_i t) (f_X11_chainOf (pp_i a)) μ = some (pp_i (pp_pk (pp_nw s t w (pp_cc a)) (pp_n s)), μ1) ∧ f_X9_worthOf N (pp_i (pp_pk (pp_nw s t w (pp_cc a)) (pp_n s))) (pp_i t) μ1 = some (pp_i (pp_woN s t (pp_nw s t w (pp_cc a)))) ∧ f_X2_gameValue N f (pp_i (pp_pk (pp_nw s t w (pp_cc a)) (pp_n s))) (pp_i t + 1) (pp_i (m + 1) - 1) (if (!mx) = true then 1 else 0) μ1 = some (pp_i (pp_gv s m (t + 1) (pp_nw s t w (pp_cc a)) (!mx)).1, μ2) ∧ pp_F pp_Sc μ μ2 ∧ pp_D s μ2 := by
        intro a μ ha hD
        obtain ⟨μ1, i1, i2⟩ := pp_X_after (t := t) (c := pp_cc a) (w := w) hN hB hO hD.1 (by omega) (pp_cc_64 (by omega)) hw
        have hD1 := hD.F i2
        obtain ⟨μ2, j1, j2⟩ := ih f (t + 1) (pp_nw s t w (pp_cc a)) (!mx) μ1 (by omega) (by omega) (by omega) (pp_nw_16 hO hw) hD1
        refine ⟨μ1, μ2, by rw [pp_X_chain (by omega), i1], ?_, ?_, i2.trans j2, hD1.F j2⟩
        · rw [pp_X_worth hN hB hO hD1.1 (by omega) (pp_nw_16 hO hw), (pp_wo_N (t := t) (w := pp_nw s t w (pp_cc a)) hB2 hO).1]
        · rw [show pp_i t + 1 = pp_i (t + 1) from pp_add t 1, show pp_i (m + 1) - 1 = pp_i m from pp_sub (b := 1) (by omega), j1]
      -- one turn of the loop
      have turn : ∀ (fuel a : Nat) (μ : g_M) (x : Nat), a ≤ pp_n s → x ≤ 1000 → pp_D s μ → ∃ μ2 : g_M, pp_F pp_Sc μ μ2 ∧ pp_D s μ2 ∧
          f_X2_gameValue_L20 (f_X2_gameValue N f) N (fuel + 1) (pp_i (pp_pk w (pp_n s))) (pp_i t) (pp_i (m + 1)) (if mx = true then 1 else 0) (pp_i x) (pp_i a) μ = f_X2_gameValue_L20 (f_X2_gameValue N f) N fuel (pp_i (pp_pk w (pp_n s))) (pp_i t) (pp_i (m + 1)) (if mx = true then 1 else 0) (pp_i (if a = 0 ∨ pp_bt mx x (pp_woN s t (pp_nw s t w (pp_cc a)) + (pp_gv s m (t + 1) (pp_nw s t w (pp_cc a)) (!mx)).1) = true then pp_woN s t (pp_nw s t w (pp_cc a)) + (pp_gv s m (t + 1) (pp_nw s t w (pp_cc a)) (!mx)).1 else x)) (pp_i (a + 1)) μ2 := by
        intro fuel a μ x ha hx hD
        obtain ⟨μ1, μ2, e1, e2, e3, e4, e5⟩ := ev a μ ha hD
        have hba := hb a
        refine ⟨μ2, e4, e5, ?_⟩
        rw [f_X2_gameValue_L20, hD.1.1, hB.1, pp_ite (pp_gt (by omega) (by omega)), if_neg (by omega), e1]
        simp only [Option.bind_some]
        rw [e2]
        simp only [Option.bind_some]
        cases mx with
        | true =>
          rw [if_pos rfl, if_neg (by decide)]
          rw [show f_X2_gameValue N f (pp_i (pp_pk (pp_nw s t w (pp_cc a)) (pp_n s))) (pp_i t + 1) (pp_i (m + 1) - 1) 0 μ1 = some (pp_i (pp_gv s m (t + 1) (pp_nw s t w (pp_cc a)) (!true)).1, μ2) from e3]
          simp only [Option.bind_some]
          rw [pp_add, pp_ite (pp_le (by omega) (by omega)), pp_ite (pp_e0 (by omega)), pp_ite (pp_e0 (by omega)), show pp_i a + 1 = pp_i (a + 1) from pp_add a 1]
          by_cases c0 : a = 0
          · rw [if_pos c0, if_pos c0, if_pos (Or.inl c0), ite_self]
          · rw [if_neg c0, if_neg c0]
            by_cases c1 : x < pp_woN s t (pp_nw s t w (pp_cc a)) + (pp_gv s m (t + 1) (pp_nw s t w (pp_cc a)) (!true)).1
            · rw [if_neg (by omega), if_pos (Or.inr (show pp_bt true x (pp_woN s t (pp_nw s t w (pp_cc a)) + (pp_gv s m (t + 1) (pp_nw s t w (pp_cc a)) (!true)).1) = true from decide_eq_true c1))]
            · rw [if_pos (by omega), if_neg (fun q => q.elim c0 (fun q => c1 (of_decide_eq_true q)))]
        | false =>
          rw [if_neg (show ¬ (false = true) by decide), if_pos rfl]
          rw [show f_X2_gameValue N f (pp_i (pp_pk (pp_nw s t w (pp_cc a)) (pp_n s))) (pp_i t + 1) (pp_i (m + 1) - 1) 1 μ1 = some (pp_i (pp_gv s m (t + 1) (pp_nw s t w (pp_cc a)) (!false)).1, μ2) from e3]
          simp only [Option.bind_some]
          rw [pp_add, pp_ite (pp_ge (by omega) (by omega)), pp_ite (pp_e0 (by omega)), pp_ite (pp_e0 (by omega)), show pp_i a + 1 = pp_i (a + 1) from pp_add a 1]
          by_cases c0 : a = 0
          · rw [if_pos c0, if_pos c0, if_pos (Or.inl c0), ite_self]
          · rw [if_neg c0, if_neg c0]
            by_cases c1 : pp_woN s t (pp_nw s t w (pp_cc a)) + (pp_gv s m (t + 1) (pp_nw s t w (pp_cc a)) (!false)).1 < x
            · rw [if_neg (by omega), if_pos (Or.inr (show pp_bt false x (pp_woN s t (pp_nw s t w (pp_cc a)) + (pp_gv s m (t + 1) (pp_nw s t w (pp_cc a)) (!false)).1) = true from decide_eq_true c1))]
            · rw [if_pos (by omega), if_neg (fun q => q.elim c0 (fun q => c1 (of_decide_eq_true q)))]
      have loop : ∀ (r fuel a : Nat) (μ : g_M) (acc : Nat × Nat), a + r = pp_n s + 1 → 1 ≤ a → r < fuel → acc.1 ≤ 1000 → pp_D s μ →
          ∃ μ1 : g_M, f_X2_gameValue_L20 (f_X2_gameValue N f) N fuel (pp_i (pp_pk w (pp_n s))) (pp_i t) (pp_i (m + 1)) (if mx = true then 1 else 0) (pp_i acc.1) (pp_i a) μ = some (pp_i (pp_gf mx (fun a => pp_woN s t (pp_nw s t w (pp_cc a)) + (pp_gv s m (t + 1) (pp_nw s t w (pp_cc a)) (!mx)).1) r a acc).1, μ1) ∧ pp_F pp_Sc μ μ1 := by
        intro r
        induction r with
        | zero =>
          intro fuel a μ acc ha ha1 hfu hc1 hD
          obtain ⟨f2, rfl⟩ := pp_fu hfu
          rw [f_X2_gameValue_L20, hD.1.1, hB.1, pp_ite (pp_gt (by omega) (by omega)), if_pos (by omega)]
          exact ⟨μ, rfl, pp_F.refl⟩
        | succ r ihr =>
          intro fuel a μ acc ha ha1 hfu hc1 hD
          obtain ⟨f2, rfl⟩ := pp_fu hfu
          obtain ⟨μ2, e1, e2, e3⟩ := turn f2 a μ acc.1 (by omega) hc1 hD
          obtain ⟨μ3, j1, j2⟩ := ihr f2 (a + 1) μ2 (if pp_bt mx acc.1 (pp_woN s t (pp_nw s t w (pp_cc a)) + (pp_gv s m (t + 1) (pp_nw s t w (pp_cc a)) (!mx)).1) = true then (pp_woN s t (pp_nw s t w (pp_cc a)) + (pp_gv s m (t + 1) (pp_nw s t w (pp_cc a)) (!mx)).1, a) else acc) (by omega) (by omega) (by omega) (by
            split
            · exact hb a
            · exact hc1) e2
          refine ⟨μ3, ?_, e1.trans j2⟩
          rw [e3, pp_gf, ← j1]
          congr 1
          congr 1
          by_cases c : pp_bt mx acc.1 (pp_woN s t (pp_nw s t w (pp_cc a)) + (pp_gv s m (t + 1) (pp_nw s t w (pp_cc a)) (!mx)).1) = true
          · rw [if_pos c, if_pos (Or.inr c)]
          · rw [if_neg c, if_neg (fun q => q.elim (by omega) c)]
      obtain ⟨NN, hNN⟩ := pp_fu (show 0 < N by omega)
      obtain ⟨μ2, e1, e2, e3⟩ := turn NN 0 μ 0 (Nat.zero_le _) (Nat.zero_le _) hD
      obtain ⟨μ3, j1, j2⟩ := loop (pp_n s) NN 1 μ2 (pp_woN s t (pp_nw s t w (pp_cc 0)) + (pp_gv s m (t + 1) (pp_nw s t w (pp_cc 0)) (!mx)).1, 0) (by omega) (Nat.le_refl _) (by omega) (hb 0) e2
      refine ⟨μ3, ?_, e1.trans j2⟩
      rw [if_pos (Or.inl rfl), ← hNN] at e3
      rw [show pp_i 0 = (0 : Int32) from rfl] at e3
      rw [e3, j1]
      rfl
    · rw [if_neg hto, if_neg hto]
      exact ⟨μ, rfl, pp_F.refl⟩
