/-! ===== the class's plans ===== -/
/-- one act's part -/
def pp_ga (s : Nat → Int32) (wd m t : Nat) (w : Nat → Nat) (a : Nat) : pp_PA := pp_sf (pp_woN s t (pp_nw s t w (pp_cc a))) (if a = 0 then 0 else 1) [a] (pp_S s wd m (t + 1) (pp_nw s t w (pp_cc a)))
theorem pp_S_ga {s : Nat → Int32} {wd m t : Nat} {w : Nat → Nat} (h : t < pp_e s) : pp_S s wd (m + 1) t w = pp_fo (pp_ga s wd m t w) (pp_n s + 1) 0 pp_z0 := by
  rw [pp_S, if_pos h]
  rfl
theorem pp_gmax {a b : Nat} (ha : a < 2147483648) (hb : b < 2147483648) : g_max (pp_i a) (pp_i b) = pp_i (if a < b then b else a) := by
  unfold g_max
  rw [pp_ite (pp_lt ha hb)]
  split <;> rfl
theorem pp_gmin {a b : Nat} (ha : a < 2147483648) (hb : b < 2147483648) : g_min (pp_i a) (pp_i b) = pp_i (if b < a then b else a) := by
  unfold g_min
  rw [pp_ite (pp_lt hb ha)]
  split <;> rfl
theorem pp_X_most {N : Nat} {s : Nat → Int32} {wd : Nat} (hN : 200 ≤ N) (hI : pp_I s) : ∀ (m f t : Nat) (w : Nat → Nat) (μ : g_M), m ≤ 4 → m < f → t ≤ pp_e s → (∀ o, o < pp_n s → w o < 16) → pp_D s μ →
    ∃ μ1 : g_M, f_X2_mostWorth N f (pp_i (pp_pk w (pp_n s))) (pp_i t) (pp_i m) μ = some (pp_i ((pp_S s wd m t w).1 - 1), μ1) ∧ pp_F pp_Sc μ μ1 := by
  obtain ⟨hB, hO, hR, hT⟩ := hI
  have hB2 := hB.2
  have h16 := hT.2.2.2.1
  intro m
  induction m with
  | zero =>
    intro f t w μ hm hf ht hw hD
    obtain ⟨f, rfl⟩ := pp_fu hf
    rw [f_X2_mostWorth, show (0 : Int32) = pp_i 0 from rfl, if_pos (by decide)]
    exact ⟨μ, rfl, pp_F.refl⟩
  | succ m ih =>
    intro f t w μ hm hf ht hw hD
    obtain ⟨f, rfl⟩ := pp_fu hf
    rw [f_X2_mostWorth, show (0 : Int32) = pp_i 0 from rfl, pp_ite (pp_le (by omega) (by omega)), if_neg (by omega), hD.2.2.2.1, hT.2.1, pp_ite (pp_lt (by omega) (by omega))]
    by_cases hto : t < pp_e s
    · rw [if_pos hto, pp_S_ga hto]
      have loop : ∀ (r fuel a : Nat) (μ : g_M) (acc : pp_PA), a + r = pp_n s + 1 → r < fuel → acc.1 ≤ 10000 → pp_D s μ →
          ∃ μ1 : g_M, f_X2_mostWorth_L20 (f_X2_mostWorth N f) N fuel (pp_i (pp_pk w (pp_n s))) (pp_i t) (pp_i (m + 1)) (pp_i (acc.1 - 1)) (pp_i a) μ = some (pp_i ((pp_fo (pp_ga s wd m t w) r a acc).1 - 1), μ1) ∧ pp_F pp_Sc μ μ1 := by
        intro r
        induction r with
        | zero =>
          intro fuel a μ acc ha hfu hacc hD
          obtain ⟨f2, rfl⟩ := pp_fu hfu
          rw [f_X2_mostWorth_L20, hD.1.1, hB.1, pp_ite (pp_gt (by omega) (by omega)), if_pos (by omega)]
          exact ⟨μ, rfl, pp_F.refl⟩
        | succ r ihr =>
          intro fuel a μ acc ha hfu hacc hD
          obtain ⟨f2, rfl⟩ := pp_fu hfu
          rw [f_X2_mostWorth_L20, hD.1.1, hB.1, pp_ite (pp_gt (by omega) (by omega)), if_neg (by omega), pp_X_chain (by omega)]
          obtain ⟨μ1, i1, i2⟩ := pp_X_after (t := t) (c := pp_cc a) (w := w) hN hB hO hD.1 (by omega) (pp_cc_64 (by omega)) hw
          have hD1 := hD.F i2
          obtain ⟨hwo1, hwo2⟩ := pp_wo_N (t := t) (w := pp_nw s t w (pp_cc a)) hB2 hO
          obtain ⟨k1, k2, k3, k4, k5⟩ := pp_S_ok (wd := wd) hB2 hO m (t + 1) (pp_nw s t w (pp_cc a))
          rw [i1]
          simp only [Option.bind_some]
          rw [pp_X_worth hN hB hO hD1.1 (by omega) (pp_nw_16 hO hw), hwo1, show pp_i t + 1 = pp_i (t + 1) from pp_add t 1, show pp_i (m + 1) - 1 = pp_i m from pp_sub (b := 1) (by omega)]
          simp only [Option.bind_some]
          obtain ⟨μ2, j1, j2⟩ := ih f (t + 1) (pp_nw s t w (pp_cc a)) μ1 (by omega) (by omega) (by omega) (pp_nw_16 hO hw) hD1
          rw [j1]
          simp only [Option.bind_some]
          have hga : (pp_ga s wd m t w a).1 = (pp_S s wd m (t + 1) (pp_nw s t w (pp_cc a))).1 + pp_woN s t (pp_nw s t w (pp_cc a)) := rfl
          have hmg : (pp_mg acc (pp_ga s wd m t w a)).1 = if acc.1 < (pp_ga s wd m t w a).1 then (pp_ga s wd m t w a).1 else acc.1 := rfl
          rw [pp_add, pp_gmax (by omega) (by omega), show pp_i a + 1 = pp_i (a + 1) from pp_add a 1, pp_fo]
          obtain ⟨μ3, l1, l2⟩ := ihr f2 (a + 1) μ2 (pp_mg acc (pp_ga s wd m t w a)) (by omega) (by omega) (by rw [hmg]; split <;> omega) (hD1.F j2)
          refine ⟨μ3, ?_, (i2.trans j2).trans l2⟩
          rw [← l1]
          congr 2
          rw [hmg]
          (repeat' split) <;> omega
      obtain ⟨μ1, j1, j2⟩ := loop (pp_n s + 1) N 0 μ pp_z0 (by omega) (by omega) (Nat.zero_le _) hD
      rw [show pp_i (pp_z0.1 - 1) = pp_i 0 from rfl] at j1
      rw [j1]
      exact ⟨μ1, rfl, j2⟩
    · rw [if_neg hto, pp_S_over hto]
      exact ⟨μ, rfl, pp_F.refl⟩
theorem pp_X_first {N : Nat} {s : Nat → Int32} {wd m t : Nat} {w : Nat → Nat} {μ : g_M} (hN : 200 ≤ N) (hI : pp_I s) (hm : m ≤ 3) (ht : t < pp_e s) (hw : ∀ o, o < pp_n s → w o < 16) (hD : pp_D s μ) :
    ∃ μ1 : g_M, f_X2_firstBestAct N (pp_i (pp_pk w (pp_n s))) (pp_i t) (pp_i (m + 1)) μ = some (pp_i ((pp_S s wd (m + 1) t w).2.2.1.headD 0), μ1) ∧ pp_F pp_Sc μ μ1 := by
  have hI0 := hI
  obtain ⟨hB, hO, hR, hT⟩ := hI
  have hB2 := hB.2
  have h16 := hT.2.2.2.1
  rw [pp_S_ga ht]
  have loop : ∀ (r fuel a : Nat) (μ : g_M) (acc : pp_PA), a + r = pp_n s + 1 → r < fuel → acc.1 ≤ 10000 → pp_D s μ →
      ∃ μ1 : g_M, f_X2_firstBestAct_L9 N fuel (pp_i (pp_pk w (pp_n s))) (pp_i t) (pp_i (m + 1)) (pp_i (acc.2.2.1.headD 0)) (pp_i acc.1 - 1) (pp_i a) μ = some (pp_i ((pp_fo (pp_ga s wd m t w) r a acc).2.2.1.headD 0), μ1) ∧ pp_F pp_Sc μ μ1 := by
    intro r
    induction r with
    | zero =>
      intro fuel a μ acc ha hfu hacc hD
      obtain ⟨f2, rfl⟩ := pp_fu hfu
      rw [f_X2_firstBestAct_L9, hD.1.1, hB.1, pp_ite (pp_gt (by omega) (by omega)), if_pos (by omega)]
      exact ⟨μ, rfl, pp_F.refl⟩
    | succ r ihr =>
      intro fuel a μ acc ha hfu hacc hD
      obtain ⟨f2, rfl⟩ := pp_fu hfu
      rw [f_X2_firstBestAct_L9, hD.1.1, hB.1, pp_ite (pp_gt (by omega) (by omega)), if_neg (by omega), pp_X_chain (by omega)]
      obtain ⟨μ1, i1, i2⟩ := pp_X_after (t := t) (c := pp_cc a) (w := w) hN hB hO hD.1 (by omega) (pp_cc_64 (by omega)) hw
      have hD1 := hD.F i2
      obtain ⟨hwo1, hwo2⟩ := pp_wo_N (t := t) (w := pp_nw s t w (pp_cc a)) hB2 hO
      obtain ⟨k1, k2, k3, k4, k5⟩ := pp_S_ok (wd := wd) hB2 hO m (t + 1) (pp_nw s t w (pp_cc a))
      rw [i1]
      simp only [Option.bind_some]
      rw [pp_X_worth hN hB hO hD1.1 (by omega) (pp_nw_16 hO hw), hwo1, show pp_i t + 1 = pp_i (t + 1) from pp_add t 1, show pp_i (m + 1) - 1 = pp_i m from pp_sub (b := 1) (by omega)]
      simp only [Option.bind_some]
      obtain ⟨μ2, j1, j2⟩ := pp_X_most (wd := wd) hN hI0 m 6 (t + 1) (pp_nw s t w (pp_cc a)) μ1 (by omega) (by omega) (by omega) (pp_nw_16 hO hw) hD1
      rw [j1]
      simp only [Option.bind_some]
      have hga : (pp_ga s wd m t w a).1 = (pp_S s wd m (t + 1) (pp_nw s t w (pp_cc a))).1 + pp_woN s t (pp_nw s t w (pp_cc a)) := rfl
      have hgh : (pp_ga s wd m t w a).2.2.1.headD 0 = a := rfl
      have hmg : (pp_mg acc (pp_ga s wd m t w a)).1 = if acc.1 < (pp_ga s wd m t w a).1 then (pp_ga s wd m t w a).1 else acc.1 := rfl
      have hmA : (pp_mg acc (pp_ga s wd m t w a)).2.2.1 = if acc.1 < (pp_ga s wd m t w a).1 then (pp_ga s wd m t w a).2.2.1 else acc.2.2.1 := rfl
      rw [pp_add, pp_ite (pp_m1_le (by omega) (by omega)), show pp_i a + 1 = pp_i (a + 1) from pp_add a 1, pp_fo]
      obtain ⟨μ3, l1, l2⟩ := ihr f2 (a + 1) μ2 (pp_mg acc (pp_ga s wd m t w a)) (by omega) (by omega) (by rw [hmg]; split <;> omega) (hD1.F j2)
      refine ⟨μ3, ?_, (i2.trans j2).trans l2⟩
      rw [← l1, hmA, hmg]
      by_cases c : acc.1 < (pp_ga s wd m t w a).1
      · rw [if_neg (by omega), if_pos c, if_pos c, hgh, hga]
        congr 1
        rw [show (1 : Int32) = pp_i 1 from rfl, pp_sub (by omega)]
        congr 1
        omega
      · rw [if_pos (by omega), if_neg c, if_neg c]
  obtain ⟨μ1, j1, j2⟩ := loop (pp_n s + 1) N 0 μ pp_z0 (by omega) (by omega) (Nat.zero_le _) hD
  rw [show pp_i pp_z0.1 - 1 = (-1 : Int32) from rfl, show pp_i (pp_z0.2.2.1.headD 0) = (0 : Int32) from rfl, show pp_i 0 = (0 : Int32) from rfl] at j1
  unfold f_X2_firstBestAct
  rw [j1]
  exact ⟨μ1, rfl, j2⟩
/-- the first best plan goes on as the first best one behind its first act -/
theorem pp_S_A {s : Nat → Int32} {wd m t : Nat} {w : Nat → Nat} (hB2 : pp_n s ≤ 6) (hO : pp_O s) (ht : t < pp_e s) : ∃ a : Nat, a ≤ pp_n s ∧ (pp_S s wd (m + 1) t w).2.2.1 = a :: (pp_S s wd m (t + 1) (pp_nw s t w (pp_cc a))).2.2.1 := by
  have loop : ∀ (r a : Nat) (acc : pp_PA), a + r = pp_n s + 1 → (acc.1 = 0 ∨ ∃ b : Nat, b ≤ pp_n s ∧ acc.2.2.1 = b :: (pp_S s wd m (t + 1) (pp_nw s t w (pp_cc b))).2.2.1) → ((pp_fo (pp_ga s wd m t w) r a acc).1 = 0 ∨ ∃ b : Nat, b ≤ pp_n s ∧ (pp_fo (pp_ga s wd m t w) r a acc).2.2.1 = b :: (pp_S s wd m (t + 1) (pp_nw s t w (pp_cc b))).2.2.1) := by
    intro r
    induction r with
    | zero => exact fun a acc ha h => h
    | succ r ih =>
      intro a acc ha h
      rw [pp_fo]
      refine ih (a + 1) _ (by omega) ?_
      have hmg : (pp_mg acc (pp_ga s wd m t w a)).1 = if acc.1 < (pp_ga s wd m t w a).1 then (pp_ga s wd m t w a).1 else acc.1 := rfl
      have hmA : (pp_mg acc (pp_ga s wd m t w a)).2.2.1 = if acc.1 < (pp_ga s wd m t w a).1 then (pp_ga s wd m t w a).2.2.1 else acc.2.2.1 := rfl
      by_cases c : acc.1 < (pp_ga s wd m t w a).1
      · rw [hmA, if_pos c]
        exact Or.inr ⟨a, by omega, rfl⟩
      · rw [hmg, hmA, if_neg c, if_neg c]
        exact h
  have h1 := (pp_S_ok (wd := wd) hB2 hO (m + 1) t w).1
  rw [pp_S_ga ht] at h1 ⊢
  rcases loop (pp_n s + 1) 0 pp_z0 (by omega) (Or.inl rfl) with h2 | h2
  · omega
  · exact h2
theorem pp_X_fewest {N : Nat} {s : Nat → Int32} {wd : Nat} (hN : 200 ≤ N) (hI : pp_I s) (hwd : wd < 64) : ∀ (m f t : Nat) (w : Nat → Nat) (μ : g_M), m ≤ 4 → m < f → t ≤ pp_e s → (∀ o, o < pp_n s → w o < 16) → pp_D s μ →
    ∃ μ1 : g_M, f_X2_fewestActs N f (pp_i (pp_pk w (pp_n s))) (pp_i t) (pp_i m) (pp_i wd) μ = some (pp_i (pp_S s wd m t w).2.2.2.1, μ1) ∧ pp_F pp_Sc μ μ1 := by
  obtain ⟨hB, hO, hR, hT⟩ := hI
  have hB2 := hB.2
  have h16 := hT.2.2.2.1
  have leaf : ∀ (w : Nat → Nat) (μ : g_M), (∀ o, o < pp_n s → w o < 16) → pp_D s μ → ((f_X9_homeSet N (pp_i (pp_pk w (pp_n s))) μ).bind fun x2 => if (x2 &&& (pp_i wd)) = (pp_i wd) then (some ((0 : Int32), μ)) else (some ((1000 : Int32), μ))) = some (pp_i (pp_lf (pp_n s) wd w).2.2.2.1, μ) := by
    intro w μ hw hD
    have hh : pp_hm (pp_n s) w < 64 := pp_mk_64 hB2
    have hle : pp_hm (pp_n s) w &&& wd ≤ wd := Nat.and_le_right
    rw [pp_X_homeSet hN hB hD.1 hw]
    simp only [Option.bind_some]
    rw [pp_and, pp_ite (pp_eq (by omega) (by omega))]
    unfold pp_lf
    dsimp only
    rw [Nat.and_comm]
    by_cases c : wd &&& pp_hm (pp_n s) w = wd
    · rw [if_pos c, if_pos c]; rfl
    · rw [if_neg c, if_neg c]; rfl
  intro m
  induction m with
  | zero =>
    intro f t w μ hm hf ht hw hD
    obtain ⟨f, rfl⟩ := pp_fu hf
    rw [f_X2_fewestActs, if_pos (show pp_i 0 ≤ (0 : Int32) by decide), leaf w μ hw hD]
    exact ⟨μ, rfl, pp_F.refl⟩
  | succ m ih =>
    intro f t w μ hm hf ht hw hD
    obtain ⟨f, rfl⟩ := pp_fu hf
    rw [f_X2_fewestActs, pp_ite (show (pp_i (m + 1) ≤ (0 : Int32)) = (m + 1 ≤ 0) from pp_le (b := 0) (by omega) (by omega)), if_neg (by omega), hD.2.2.2.1, hT.2.1, pp_ite (pp_lt (by omega) (by omega))]
    by_cases hto : t < pp_e s
    · rw [if_pos hto, pp_S_ga hto]
      have loop : ∀ (r fuel a : Nat) (μ : g_M) (acc : pp_PA), a + r = pp_n s + 1 → r < fuel → acc.2.2.2.1 ≤ 1000 → pp_D s μ →
          ∃ μ1 : g_M, f_X2_fewestActs_L41 (f_X2_fewestActs N f) N fuel (pp_i (pp_pk w (pp_n s))) (pp_i t) (pp_i (m + 1)) (pp_i wd) (pp_i acc.2.2.2.1) (pp_i a) μ = some (pp_i (pp_fo (pp_ga s wd m t w) r a acc).2.2.2.1, μ1) ∧ pp_F pp_Sc μ μ1 := by
        intro r
        induction r with
        | zero =>
          intro fuel a μ acc ha hfu hacc hD
          obtain ⟨f2, rfl⟩ := pp_fu hfu
          rw [f_X2_fewestActs_L41, hD.1.1, hB.1, pp_ite (pp_gt (by omega) (by omega)), if_pos (by omega)]
          exact ⟨μ, rfl, pp_F.refl⟩
        | succ r ihr =>
          intro fuel a μ acc ha hfu hacc hD
          obtain ⟨f2, rfl⟩ := pp_fu hfu
          rw [f_X2_fewestActs_L41, hD.1.1, hB.1, pp_ite (pp_gt (by omega) (by omega)), if_neg (by omega), pp_X_chain (by omega)]
          obtain ⟨μ1, i1, i2⟩ := pp_X_after (t := t) (c := pp_cc a) (w := w) hN hB hO hD.1 (by omega) (pp_cc_64 (by omega)) hw
          have hD1 := hD.F i2
          obtain ⟨k1, k2, k3, k4, k5⟩ := pp_S_ok (wd := wd) hB2 hO m (t + 1) (pp_nw s t w (pp_cc a))
          rw [i1]
          simp only [Option.bind_some]
          rw [show pp_i t + 1 = pp_i (t + 1) from pp_add t 1, show pp_i (m + 1) - 1 = pp_i m from pp_sub (b := 1) (by omega)]
          obtain ⟨μ2, j1, j2⟩ := ih f (t + 1) (pp_nw s t w (pp_cc a)) μ1 (by omega) (by omega) (by omega) (pp_nw_16 hO hw) hD1
          rw [j1]
          simp only [Option.bind_some]
          have hga : (pp_ga s wd m t w a).2.2.2.1 = (if a = 0 then 0 else 1) + (pp_S s wd m (t + 1) (pp_nw s t w (pp_cc a))).2.2.2.1 := rfl
          have hmg : (pp_mg acc (pp_ga s wd m t w a)).2.2.2.1 = if (pp_ga s wd m t w a).2.2.2.1 < acc.2.2.2.1 then (pp_ga s wd m t w a).2.2.2.1 else acc.2.2.2.1 := rfl
          rw [show (0 : Int32) = pp_i 0 from rfl, show (1 : Int32) = pp_i 1 from rfl]
          simp only [pp_add]
          rw [pp_gmin (by omega) (by omega), pp_gmin (by omega) (by omega), pp_ite (pp_eq (by omega) (by omega)), pp_fo]
          obtain ⟨μ3, l1, l2⟩ := ihr f2 (a + 1) μ2 (pp_mg acc (pp_ga s wd m t w a)) (by omega) (by omega) (by rw [hmg]; split <;> omega) (hD1.F j2)
          refine ⟨μ3, ?_, (i2.trans j2).trans l2⟩
          rw [← l1, hmg, hga]
          by_cases e : a = 0
          · rw [if_pos e, if_pos e]
          · rw [if_neg e, if_neg e]
      obtain ⟨μ1, j1, j2⟩ := loop (pp_n s + 1) N 0 μ pp_z0 (by omega) (by omega) (Nat.le_refl _) hD
      rw [show pp_i pp_z0.2.2.2.1 = (1000 : Int32) from rfl, show pp_i 0 = (0 : Int32) from rfl] at j1
      rw [j1]
      exact ⟨μ1, rfl, j2⟩
    · rw [if_neg hto, pp_S_over hto, leaf w μ hw hD]
      exact ⟨μ, rfl, pp_F.refl⟩
theorem pp_X_some {N : Nat} {s : Nat → Int32} {wd : Nat} (hN : 200 ≤ N) (hI : pp_I s) : ∀ (m f t : Nat) (w : Nat → Nat) (μ : g_M), m ≤ 4 → m < f → t ≤ pp_e s → (∀ o, o < pp_n s → w o < 16) → pp_D s μ →
    ∃ μ1 : g_M, f_X2_homeBehindSome N f (pp_i (pp_pk w (pp_n s))) (pp_i t) (pp_i m) μ = some (pp_i (pp_S s wd m t w).2.2.2.2, μ1) ∧ pp_F pp_Sc μ μ1 := by
  obtain ⟨hB, hO, hR, hT⟩ := hI
  have hB2 := hB.2
  have h16 := hT.2.2.2.1
  intro m
  induction m with
  | zero =>
    intro f t w μ hm hf ht hw hD
    obtain ⟨f, rfl⟩ := pp_fu hf
    rw [f_X2_homeBehindSome, if_pos (show pp_i 0 ≤ (0 : Int32) by decide), pp_X_homeSet hN hB hD.1 hw]
    exact ⟨μ, rfl, pp_F.refl⟩
  | succ m ih =>
    intro f t w μ hm hf ht hw hD
    obtain ⟨f, rfl⟩ := pp_fu hf
    rw [f_X2_homeBehindSome, pp_ite (show (pp_i (m + 1) ≤ (0 : Int32)) = (m + 1 ≤ 0) from pp_le (b := 0) (by omega) (by omega)), if_neg (by omega), hD.2.2.2.1, hT.2.1, pp_ite (pp_lt (by omega) (by omega))]
    by_cases hto : t < pp_e s
    · rw [if_pos hto, pp_S_ga hto]
      have loop : ∀ (r fuel a : Nat) (μ : g_M) (acc : pp_PA), a + r = pp_n s + 1 → r < fuel → pp_D s μ →
          ∃ μ1 : g_M, f_X2_homeBehindSome_L24 (f_X2_homeBehindSome N f) N fuel (pp_i (pp_pk w (pp_n s))) (pp_i t) (pp_i (m + 1)) (pp_i acc.2.2.2.2) (pp_i a) μ = some (pp_i (pp_fo (pp_ga s wd m t w) r a acc).2.2.2.2, μ1) ∧ pp_F pp_Sc μ μ1 := by
        intro r
        induction r with
        | zero =>
          intro fuel a μ acc ha hfu hD
          obtain ⟨f2, rfl⟩ := pp_fu hfu
          rw [f_X2_homeBehindSome_L24, hD.1.1, hB.1, pp_ite (pp_gt (by omega) (by omega)), if_pos (by omega)]
          exact ⟨μ, rfl, pp_F.refl⟩
        | succ r ihr =>
          intro fuel a μ acc ha hfu hD
          obtain ⟨f2, rfl⟩ := pp_fu hfu
          rw [f_X2_homeBehindSome_L24, hD.1.1, hB.1, pp_ite (pp_gt (by omega) (by omega)), if_neg (by omega), pp_X_chain (by omega)]
          obtain ⟨μ1, i1, i2⟩ := pp_X_after (t := t) (c := pp_cc a) (w := w) hN hB hO hD.1 (by omega) (pp_cc_64 (by omega)) hw
          have hD1 := hD.F i2
          rw [i1]
          simp only [Option.bind_some]
          rw [show pp_i t + 1 = pp_i (t + 1) from pp_add t 1, show pp_i (m + 1) - 1 = pp_i m from pp_sub (b := 1) (by omega)]
          obtain ⟨μ2, j1, j2⟩ := ih f (t + 1) (pp_nw s t w (pp_cc a)) μ1 (by omega) (by omega) (by omega) (pp_nw_16 hO hw) hD1
          rw [j1]
          simp only [Option.bind_some]
          rw [pp_or, show pp_i a + 1 = pp_i (a + 1) from pp_add a 1, pp_fo]
          obtain ⟨μ3, l1, l2⟩ := ihr f2 (a + 1) μ2 (pp_mg acc (pp_ga s wd m t w a)) (by omega) (by omega) (hD1.F j2)
          exact ⟨μ3, l1, (i2.trans j2).trans l2⟩
      obtain ⟨μ1, j1, j2⟩ := loop (pp_n s + 1) N 0 μ pp_z0 (by omega) (by omega) hD
      rw [show pp_i pp_z0.2.2.2.2 = (0 : Int32) from rfl, show pp_i 0 = (0 : Int32) from rfl] at j1
      rw [j1]
      exact ⟨μ1, rfl, j2⟩
    · rw [if_neg hto, pp_S_over hto, pp_X_homeSet hN hB hD.1 hw]
      exact ⟨μ, rfl, pp_F.refl⟩
