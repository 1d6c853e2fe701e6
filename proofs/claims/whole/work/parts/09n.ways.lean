/-! ===== how many plans of a worth ===== -/
def pp_cs (f : Nat → Nat) : Nat → Nat → Nat → Nat
  | 0, _, x => x
  | m + 1, k, x => pp_cs f m (k + 1) (x + f k)
def pp_cI (s : Nat → Int32) : Nat → Nat → (Nat → Nat) → Int → Nat
  | 0, _, _, y => if y = 0 then 1 else 0
  | m + 1, t, w, y => if t < pp_e s then pp_cs (fun a => pp_cI s m (t + 1) (pp_nw s t w (pp_cc a)) (y - (pp_woN s t (pp_nw s t w (pp_cc a)) : Nat))) (pp_n s + 1) 0 0 else if y = 0 then 1 else 0
theorem pp_oi {n : Nat} : pp_i n = Int32.ofInt (n : Int) := Int32.ofInt_eq_ofNat.symm
theorem pp_oi0 {y : Int} (h1 : -100000 ≤ y) (h2 : y ≤ 100000) : (Int32.ofInt y = (0 : Int32)) = (y = 0) := by
  rw [← Int32.toInt_inj, Int32.toInt_ofInt_of_le (by omega) (by omega)]
  rfl
theorem pp_X_ways {N : Nat} {s : Nat → Int32} (hN : 200 ≤ N) (hI : pp_I s) : ∀ (m f t : Nat) (w : Nat → Nat) (y : Int) (μ : g_M), m ≤ 4 → m < f → t ≤ pp_e s → (∀ o, o < pp_n s → w o < 16) → -1000 + 114 * (m : Int) ≤ y → y ≤ 1000 → pp_D s μ →
    ∃ μ1 : g_M, f_X2_plansWorth N f (pp_i (pp_pk w (pp_n s))) (pp_i t) (pp_i m) (Int32.ofInt y) μ = some (pp_i (pp_cI s m t w y), μ1) ∧ pp_F pp_Sc μ μ1 := by
  obtain ⟨hB, hO, hR, hT⟩ := hI
  have hB2 := hB.2
  have h16 := hT.2.2.2.1
  have leaf : ∀ (y : Int) (μ : g_M), -1000 ≤ y → y ≤ 1000 → (if Int32.ofInt y = 0 then some ((1 : Int32), μ) else some ((0 : Int32), μ)) = some (pp_i (if y = 0 then 1 else 0), μ) := by
    intro y μ h1 h2
    rw [pp_ite (pp_oi0 (by omega) (by omega))]
    by_cases c : y = 0
    · rw [if_pos c, if_pos c]; rfl
    · rw [if_neg c, if_neg c]; rfl
  intro m
  induction m with
  | zero =>
    intro f t w y μ hm hf ht hw h1 h2 hD
    obtain ⟨f, rfl⟩ := pp_fu hf
    rw [f_X2_plansWorth, if_pos (show pp_i 0 ≤ (0 : Int32) by decide), leaf y μ (by omega) h2, pp_cI]
    exact ⟨μ, rfl, pp_F.refl⟩
  | succ m ih =>
    intro f t w y μ hm hf ht hw h1 h2 hD
    obtain ⟨f, rfl⟩ := pp_fu hf
    rw [f_X2_plansWorth, pp_ite (show (pp_i (m + 1) ≤ (0 : Int32)) = (m + 1 ≤ 0) from pp_le (b := 0) (by omega) (by omega)), if_neg (by omega), hD.2.2.2.1, hT.2.1, pp_ite (pp_lt (by omega) (by omega)), pp_cI]
    by_cases hto : t < pp_e s
    · rw [if_pos hto, if_pos hto]
      have loop : ∀ (r fuel a x : Nat) (μ : g_M), a + r = pp_n s + 1 → r < fuel → pp_D s μ →
          ∃ μ1 : g_M, f_X2_plansWorth_L29 (f_X2_plansWorth N f) N fuel (pp_i (pp_pk w (pp_n s))) (pp_i t) (pp_i (m + 1)) (Int32.ofInt y) (pp_i x) (pp_i a) μ = some (pp_i (pp_cs (fun a => pp_cI s m (t + 1) (pp_nw s t w (pp_cc a)) (y - (pp_woN s t (pp_nw s t w (pp_cc a)) : Nat))) r a x), μ1) ∧ pp_F pp_Sc μ μ1 := by
        intro r
        induction r with
        | zero =>
          intro fuel a x μ ha hfu hD
          obtain ⟨f2, rfl⟩ := pp_fu hfu
          rw [f_X2_plansWorth_L29, hD.1.1, hB.1, pp_ite (pp_gt (by omega) (by omega)), if_pos (by omega)]
          exact ⟨μ, rfl, pp_F.refl⟩
        | succ r ihr =>
          intro fuel a x μ ha hfu hD
          obtain ⟨f2, rfl⟩ := pp_fu hfu
          rw [f_X2_plansWorth_L29, hD.1.1, hB.1, pp_ite (pp_gt (by omega) (by omega)), if_neg (by omega), pp_X_chain (by omega)]
          obtain ⟨μ1, i1, i2⟩ := pp_X_after (t := t) (c := pp_cc a) (w := w) hN hB hO hD.1 (by omega) (pp_cc_64 (by omega)) hw
          have hD1 := hD.F i2
          obtain ⟨hwo1, hwo2⟩ := pp_wo_N (t := t) (w := pp_nw s t w (pp_cc a)) hB2 hO
          rw [i1]
          simp only [Option.bind_some]
          rw [pp_X_worth hN hB hO hD1.1 (by omega) (pp_nw_16 hO hw), hwo1, show pp_i t + 1 = pp_i (t + 1) from pp_add t 1, show pp_i (m + 1) - 1 = pp_i m from pp_sub (b := 1) (by omega)]
          simp only [Option.bind_some]
          rw [pp_oi (n := pp_woN s t (pp_nw s t w (pp_cc a))), ← Int32.ofInt_sub]
          obtain ⟨μ2, j1, j2⟩ := ih f (t + 1) (pp_nw s t w (pp_cc a)) (y - (pp_woN s t (pp_nw s t w (pp_cc a)) : Nat)) μ1 (by omega) (by omega) (by omega) (pp_nw_16 hO hw) (by omega) (by omega) hD1
          rw [j1]
          simp only [Option.bind_some]
          rw [pp_add, show pp_i a + 1 = pp_i (a + 1) from pp_add a 1, pp_cs]
          obtain ⟨μ3, l1, l2⟩ := ihr f2 (a + 1) _ μ2 (by omega) (by omega) (hD1.F j2)
          exact ⟨μ3, l1, (i2.trans j2).trans l2⟩
      obtain ⟨μ1, j1, j2⟩ := loop (pp_n s + 1) N 0 0 μ (by omega) (by omega) hD
      rw [show pp_i 0 = (0 : Int32) from rfl] at j1
      rw [j1]
      exact ⟨μ1, rfl, j2⟩
    · rw [if_neg hto, if_neg hto, leaf y μ (by omega) h2]
      exact ⟨μ, rfl, pp_F.refl⟩
theorem pp_fo_g2 {g : Nat → pp_PA} {n : Nat} : ∀ (m k : Nat) (acc : pp_PA) (j : Nat), k ≤ j → j < k + m → (g j).1 ≤ (pp_fo g m k acc).1
  | 0, _, _, _, h1, h2 => by omega
  | m + 1, k, acc, j, h1, h2 => by
    rw [pp_fo]
    by_cases e : j = k
    · subst e
      exact Nat.le_trans pp_mg_g2 (pp_fo_ge m (j + 1) _)
    · exact pp_fo_g2 (n := n) m (k + 1) _ j (by omega) (by omega)
/-- the count of the best ones is the count of those as good as they -/
theorem pp_ways_eq {s : Nat → Int32} {wd : Nat} (hB2 : pp_n s ≤ 6) (hO : pp_O s) : ∀ (m t : Nat) (w : Nat → Nat) (y : Int), ((pp_S s wd m t w).1 : Int) ≤ y + 1 → pp_cI s m t w y = if ((pp_S s wd m t w).1 : Int) = y + 1 then (pp_S s wd m t w).2.1 else 0 := by
  have leaf : ∀ (w : Nat → Nat) (y : Int), (if y = 0 then 1 else 0) = if ((pp_lf (pp_n s) wd w).1 : Int) = y + 1 then (pp_lf (pp_n s) wd w).2.1 else 0 := by
    intro w y
    unfold pp_lf
    dsimp only
    by_cases c : y = 0
    · rw [if_pos c, if_pos (by omega)]
    · rw [if_neg c, if_neg (by omega)]
  intro m
  induction m with
  | zero =>
    intro t w y h
    rw [pp_cI]
    exact leaf w y
  | succ m ih =>
    intro t w y h
    rw [pp_cI]
    by_cases hto : t < pp_e s
    · rw [if_pos hto]
      rw [pp_S_ga hto] at h ⊢
      have loop : ∀ (r k : Nat) (acc : pp_PA) (x : Nat), k + r = pp_n s + 1 → ((pp_fo (pp_ga s wd m t w) r k acc).1 : Int) ≤ y + 1 → x = (if (acc.1 : Int) = y + 1 then acc.2.1 else 0) →
          pp_cs (fun a => pp_cI s m (t + 1) (pp_nw s t w (pp_cc a)) (y - (pp_woN s t (pp_nw s t w (pp_cc a)) : Nat))) r k x = if ((pp_fo (pp_ga s wd m t w) r k acc).1 : Int) = y + 1 then (pp_fo (pp_ga s wd m t w) r k acc).2.1 else 0 := by
        intro r
        induction r with
        | zero =>
          intro k acc x hk hle hx
          exact hx
        | succ r ihr =>
          intro k acc x hk hle hx
          have hgk : ((pp_ga s wd m t w k).1 : Int) ≤ y + 1 := by
            have := pp_fo_g2 (g := pp_ga s wd m t w) (n := 0) (r + 1) k acc k (Nat.le_refl _) (by omega)
            omega
          have hga : (pp_ga s wd m t w k).1 = (pp_S s wd m (t + 1) (pp_nw s t w (pp_cc k))).1 + pp_woN s t (pp_nw s t w (pp_cc k)) := rfl
          have hgc : (pp_ga s wd m t w k).2.1 = (pp_S s wd m (t + 1) (pp_nw s t w (pp_cc k))).2.1 := rfl
          have hac : (acc.1 : Int) ≤ y + 1 := by
            have := pp_fo_ge (g := pp_ga s wd m t w) (r + 1) k acc
            omega
          have hc := ih (t + 1) (pp_nw s t w (pp_cc k)) (y - (pp_woN s t (pp_nw s t w (pp_cc k)) : Nat)) (by omega)
          rw [pp_fo] at hle ⊢
          rw [pp_cs]
          refine ihr (k + 1) _ _ (by omega) hle ?_
          have hmg : (pp_mg acc (pp_ga s wd m t w k)).1 = if acc.1 < (pp_ga s wd m t w k).1 then (pp_ga s wd m t w k).1 else acc.1 := rfl
          have hmc : (pp_mg acc (pp_ga s wd m t w k)).2.1 = if acc.1 < (pp_ga s wd m t w k).1 then (pp_ga s wd m t w k).2.1 else if acc.1 = (pp_ga s wd m t w k).1 then acc.2.1 + (pp_ga s wd m t w k).2.1 else acc.2.1 := rfl
          rw [hc, hx, hmg, hmc, ← hgc]
          have e : (((pp_S s wd m (t + 1) (pp_nw s t w (pp_cc k))).1 : Int) = y - (pp_woN s t (pp_nw s t w (pp_cc k)) : Nat) + 1) = (((pp_ga s wd m t w k).1 : Int) = y + 1) := by
            rw [hga]
            exact propext ⟨fun q => by omega, fun q => by omega⟩
          rw [pp_ite e]
          by_cases c1 : acc.1 < (pp_ga s wd m t w k).1
          · rw [if_pos c1, if_pos c1, if_neg (by omega), Nat.zero_add]
          · rw [if_neg c1, if_neg c1]
            by_cases c2 : (acc.1 : Int) = y + 1
            · rw [if_pos c2, if_pos c2]
              by_cases c3 : acc.1 = (pp_ga s wd m t w k).1
              · rw [if_pos c3, if_pos (by omega)]
              · rw [if_neg c3, if_neg (by omega), Nat.add_zero]
            · rw [if_neg c2, if_neg c2, if_neg (by omega)]
      exact loop (pp_n s + 1) 0 pp_z0 0 (by omega) h (by
        have := (pp_S_ok (wd := wd) hB2 hO (m + 1) t w).1
        rw [pp_S_ga hto] at this
        rw [if_neg]
        show ¬ ((0 : Nat) : Int) = y + 1
        omega)
    · rw [if_neg hto]
      rw [pp_S_over hto]
      exact leaf w y
