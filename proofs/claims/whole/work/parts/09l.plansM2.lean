/-! ===== the reference's plans, whole ===== -/
theorem pp_M_gw {N : Nat} {s : Nat → Int32} {t : Nat} {w : Nat → Nat} {sc : Int32} {a : Nat} {μ : g_M} (hN : 200 ≤ N) (hB : pp_B s) (hR : pp_R s) (hO : pp_O s) (ha : a ≤ 6) (ht : t < 1000) (hw : ∀ o, o < pp_n s → w o < 16) (h1 : μ 1 = pp_put s t w sc) :
    ∃ μ1 : g_M, f_X12_goesWith N (pp_i a) μ = some (pp_wo s t (pp_nw s t w (pp_cc a)), μ1) ∧ μ1 1 = pp_put s (t + 1) (pp_nw s t w (pp_cc a)) (sc + pp_wo s t (pp_nw s t w (pp_cc a))) ∧ μ1 0 15 = pp_i (pp_mk (pp_go s t w (pp_cc a)) 6) ∧ pp_F pp_SG μ μ1 := by
  obtain ⟨μ1, i1, i2, i3, i4⟩ := pp_M_go (c := pp_cc a) hN hB hR hO (pp_cc_64 ha) ht hw h1
  refine ⟨μ1, ?_, i2, i3, i4⟩
  unfold f_X12_goesWith
  rw [pp_ite (pp_e0 (by omega))]
  by_cases e : a = 0
  · rw [if_pos e]
    unfold pp_cc at i1 ⊢
    rw [if_pos e] at i1 ⊢
    rw [show (0 : Int32) = pp_i 0 from rfl, i1]
    rfl
  · rw [if_neg e]
    have e1 : ((1 : Int32) <<< ((pp_i a - 1) &&& 31)) = pp_i (pp_cc a) := by
      rw [show pp_i a - 1 = pp_i (a - 1) from pp_sub (b := 1) (by omega)]
      unfold pp_cc
      rw [if_neg e]
      exact pp_bit_shl ⟨a - 1, by omega⟩
    rw [e1, i1]
    rfl
theorem pp_sf_0 {a : pp_PA} : pp_sf 0 0 [] a = a := by
  obtain ⟨a1, a2, a3, a4, a5⟩ := a
  unfold pp_sf
  dsimp only
  rw [Nat.add_zero, Nat.zero_add, List.nil_append]
theorem pp_S_node {s : Nat → Int32} {wd m t x ch : Nat} {w : Nat → Nat} {p : List Nat} {acc : pp_PA} (hB2 : pp_n s ≤ 6) (hO : pp_O s) (ht : t < pp_e s) :
    pp_fo (fun a => pp_sf x ch p (pp_sf (pp_woN s t (pp_nw s t w (pp_cc a))) (if a = 0 then 0 else 1) [a] (pp_S s wd m (t + 1) (pp_nw s t w (pp_cc a))))) (pp_n s + 1) 0 acc = pp_mg acc (pp_sf x ch p (pp_S s wd (m + 1) t w)) := by
  have hz := pp_S_ok (wd := wd) hB2 hO m (t + 1) (pp_nw s t w (pp_cc 0))
  have hz2 : pp_mg pp_z0 (pp_sf (pp_woN s t (pp_nw s t w (pp_cc 0))) (if 0 = 0 then 0 else 1) [0] (pp_S s wd m (t + 1) (pp_nw s t w (pp_cc 0)))) = pp_sf (pp_woN s t (pp_nw s t w (pp_cc 0))) (if 0 = 0 then 0 else 1) [0] (pp_S s wd m (t + 1) (pp_nw s t w (pp_cc 0))) := by
    refine pp_mg_z ?_ ?_
    · unfold pp_sf; dsimp only; omega
    · unfold pp_sf; dsimp only; rw [if_pos rfl]; omega
  rw [pp_S, if_pos ht, pp_fo, pp_fo_sf, pp_fo, hz2]
theorem pp_getD_l {p q : List Nat} {i : Nat} (h : i < p.length) : (p ++ q).getD i 0 = p.getD i 0 := by
  rw [List.getD_eq_getElem?_getD, List.getD_eq_getElem?_getD, List.getElem?_append_left h]
theorem pp_getD_r {p : List Nat} {a : Nat} : (p ++ [a]).getD p.length 0 = a := by
  rw [List.getD_eq_getElem?_getD, List.getElem?_append_right (Nat.le_refl _), Nat.sub_self]
  rfl
theorem pp_M_plans {N : Nat} {s : Nat → Int32} {wd n0 : Nat} (hN : 200 ≤ N) (hI : pp_I s) (hwd : wd < 64) (hn0 : n0 ≤ 4) : ∀ (m f k t x ch : Nat) (w : Nat → Nat) (sc : Int32) (p : List Nat) (μ : g_M) (acc : pp_PA), k + m = n0 → m < f → t ≤ pp_e s → (∀ o, o < pp_n s → w o < 16) → μ 1 = pp_put s t w sc → pp_PR μ wd acc → p.length = k → (∀ i, i < k → μ 9 i = pp_i (p.getD i 0)) → x ≤ 114 * k → ch ≤ k →
    ∃ μ1 : g_M, f_X12_plans N f (pp_i k) (pp_i n0) (pp_i x) (pp_i ch) μ = some μ1 ∧ μ1 1 = μ 1 ∧ pp_PR μ1 wd (pp_mg acc (pp_sf x ch p (pp_S s wd m t w))) ∧ (∀ i, i < k → μ1 9 i = μ 9 i) ∧ (∀ j, j < 38 * k → μ1 3 j = μ 3 j) ∧ pp_F pp_SP μ μ1 := by
  obtain ⟨hB, hO, hR, hT⟩ := hI
  have hB2 := hB.2
  have h16 := hT.2.2.2.1
  have leaf : ∀ (f k t x ch : Nat) (w : Nat → Nat) (sc : Int32) (p : List Nat) (μ : g_M) (acc : pp_PA), k ≤ 4 → (∀ o, o < pp_n s → w o < 16) → μ 1 = pp_put s t w sc → pp_PR μ wd acc → p.length = k → (∀ i, i < k → μ 9 i = pp_i (p.getD i 0)) → x ≤ 114 * k → ch ≤ k →
      ∃ μ1 : g_M, pp_ll N f (pp_i k) (pp_i x) (pp_i ch) μ = some μ1 ∧ μ1 1 = μ 1 ∧ pp_PR μ1 wd (pp_mg acc (pp_sf x ch p (pp_lf (pp_n s) wd w))) ∧ (∀ i, i < k → μ1 9 i = μ 9 i) ∧ (∀ j, j < 38 * k → μ1 3 j = μ 3 j) ∧ pp_F pp_SP μ μ1 := by
    intro f k t x ch w sc p μ acc hk hw h1 hP hp h9 hx hch
    obtain ⟨μ1, i1, i2, i3⟩ := pp_M_ll (n := f) (x := x) (ch := ch) hN hB hw hwd h1 hP hp hk h9 (by omega) (by omega)
    exact ⟨μ1, i1, i3.row (fun b => by simp [pp_SQ]), i2, fun i _ => i3 9 i (by simp [pp_SQ]), fun j _ => i3 3 j (by simp [pp_SQ]), i3.mono (fun a b q => by
      unfold pp_SP at q
      unfold pp_SQ
      simp only [decide_eq_false_iff_not] at q ⊢
      exact fun q2 => q (by omega))⟩
  intro m
  induction m with
  | zero =>
    intro f k t x ch w sc p μ acc hk hf ht hw h1 hP hp h9 hx hch
    obtain ⟨f, rfl⟩ := pp_fu hf
    rw [pp_plans_eq, if_pos (show pp_i k = pp_i n0 by rw [show k = n0 by omega]), pp_S]
    exact leaf f k t x ch w sc p μ acc (by omega) hw h1 hP hp h9 hx hch
  | succ m ih =>
    intro f k t x ch w sc p μ acc hk hf ht hw h1 hP hp h9 hx hch
    obtain ⟨f, rfl⟩ := pp_fu hf
    rw [pp_plans_eq, pp_ite (pp_eq (by omega) (by omega)), if_neg (by omega), pp_ite (pp_M_ov hT (by omega) h1)]
    by_cases hto : t < pp_e s
    · rw [if_pos hto]
      obtain ⟨fa, a1, a2, a3⟩ := pp_A_aside (N := N) (lev := k) (μ := μ) hN (by omega)
      rw [a1]
      simp only [Option.bind_some]
      have loop : ∀ (r fuel a : Nat) (μ : g_M) (acc : pp_PA), a + r = pp_n s + 1 → r < fuel → μ 1 = pp_put s t w sc → pp_A μ k (pp_put s t w sc) → pp_PR μ wd acc → (∀ i, i < k → μ 9 i = pp_i (p.getD i 0)) →
          ∃ μ1 : g_M, f_X12_plans_L146 (f_X12_plans N f) N fuel (pp_i k) (pp_i n0) (pp_i x) (pp_i ch) (pp_i a) μ = some μ1 ∧ μ1 1 = pp_put s t w sc ∧ pp_PR μ1 wd (pp_fo (fun a => pp_sf x ch p (pp_sf (pp_woN s t (pp_nw s t w (pp_cc a))) (if a = 0 then 0 else 1) [a] (pp_S s wd m (t + 1) (pp_nw s t w (pp_cc a))))) r a acc) ∧ (∀ i, i < k → μ1 9 i = μ 9 i) ∧ (∀ j, j < 38 * k → μ1 3 j = μ 3 j) ∧ pp_F pp_SP μ μ1 := by
        intro r
        induction r with
        | zero =>
          intro fuel a μ acc ha hfu h1 hA hP h9
          obtain ⟨f2, rfl⟩ := pp_fu hfu
          have h0 : μ 1 0 = pp_i (pp_n s) := by rw [h1, pp_put_0, hB.1]
          rw [f_X12_plans_L146, h0, pp_ite (pp_gt (by omega) (by omega)), if_pos (by omega)]
          exact ⟨μ, rfl, h1, hP, fun _ _ => rfl, fun _ _ => rfl, pp_F.refl⟩
        | succ r ihr =>
          intro fuel a μ acc ha hfu h1 hA hP h9
          obtain ⟨f2, rfl⟩ := pp_fu hfu
          have h0 : μ 1 0 = pp_i (pp_n s) := by rw [h1, pp_put_0, hB.1]
          rw [f_X12_plans_L146, h0, pp_ite (pp_gt (by omega) (by omega)), if_neg (by omega), pp_wr (by omega) (by decide)]
          simp only [Option.bind_some]
          obtain ⟨μ2, g1, g2, -, g4⟩ := pp_M_gw (a := a) hN hB hR hO (by omega) (by omega) hw (show g_set μ 9 k (pp_i a) 1 = pp_put s t w sc by rw [pp_rowN (by decide), h1])
          rw [g1]
          simp only [Option.bind_some]
          obtain ⟨hwo1, hwo2⟩ := pp_wo_N (t := t) (w := pp_nw s t w (pp_cc a)) hB2 hO
          have hP2 : pp_PR μ2 wd acc := by
            obtain ⟨q25, q22, q23, q24, q10, q26, q27, b1, b2, b3⟩ := hP
            have z0 : ∀ b, b ≠ 7 → b ≠ 15 → μ2 0 b = μ 0 b := fun b e1 e2 => by
              rw [g4 0 b (by simp [pp_SG, e1, e2]), pp_set_n (by omega)]
            have z10 : μ2 10 = μ 10 := by rw [g4.row (fun b => by simp [pp_SG]), pp_rowN (by decide)]
            exact ⟨by rw [z0 25 (by decide) (by decide), q25], by rw [z0 22 (by decide) (by decide), q22], by rw [z0 23 (by decide) (by decide), q23], by rw [z0 24 (by decide) (by decide), q24], fun i hi => by rw [z10, q10 i hi], by rw [z0 26 (by decide) (by decide), q26], by rw [z0 27 (by decide) (by decide), q27], b1, b2, b3⟩
          have h92 : ∀ i, i < k + 1 → μ2 9 i = pp_i ((p ++ [a]).getD i 0) := by
            intro i hi
            rw [g4 9 i (by simp [pp_SG])]
            by_cases e : i = k
            · rw [e, pp_set_s, ← hp, pp_getD_r]
            · rw [pp_set_n (by omega), h9 i (by omega), pp_getD_l (by omega)]
          have step : ∀ ch2 : Nat, ch2 = ch + (if a = 0 then 0 else 1) → ∃ μ1 : g_M, ((f_X12_plans N f (pp_i k + 1) (pp_i n0) (pp_i x + pp_wo s t (pp_nw s t w (pp_cc a))) (pp_i ch2) μ2).bind fun μ64 => (f_X12_laysBack N (pp_i k) μ64).bind fun μ67 => f_X12_plans_L146 (f_X12_plans N f) N f2 (pp_i k) (pp_i n0) (pp_i x) (pp_i ch) (pp_i a + 1) μ67) = some μ1 ∧ μ1 1 = pp_put s t w sc ∧ pp_PR μ1 wd (pp_fo (fun a => pp_sf x ch p (pp_sf (pp_woN s t (pp_nw s t w (pp_cc a))) (if a = 0 then 0 else 1) [a] (pp_S s wd m (t + 1) (pp_nw s t w (pp_cc a))))) (r + 1) a acc) ∧ (∀ i, i < k → μ1 9 i = μ 9 i) ∧ (∀ j, j < 38 * k → μ1 3 j = μ 3 j) ∧ pp_F pp_SP μ μ1 := by
            intro ch2 hch2
            have hch3 : ch2 ≤ k + 1 := by
              rw [hch2]
              split <;> omega
            obtain ⟨μ3, i1, i2, i3, i4, i5, i6⟩ := ih f (k + 1) (t + 1) (x + pp_woN s t (pp_nw s t w (pp_cc a))) ch2 (pp_nw s t w (pp_cc a)) _ (p ++ [a]) μ2 acc (by omega) (by omega) (by omega) (pp_nw_16 hO hw) g2 hP2 (by rw [List.length_append, hp]; rfl) h92 (by omega) hch3
            rw [show pp_i k + 1 = pp_i (k + 1) from pp_add k 1, hwo1, pp_add, i1]
            simp only [Option.bind_some]
            have hA3 : pp_A μ3 k (pp_put s t w sc) := by
              intro j hj
              rw [i5 _ (by omega), g4 3 _ (by simp [pp_SG]), pp_rowN (by decide), hA j hj]
            rw [pp_A_back hN (by omega) hB2 hA3 (i2.trans g2), show pp_i a + 1 = pp_i (a + 1) from pp_add a 1]
            simp only [Option.bind_some]
            have hP3 : pp_PR (pp_rw μ3 1 (pp_put s t w sc)) wd (pp_mg acc (pp_sf x ch p (pp_sf (pp_woN s t (pp_nw s t w (pp_cc a))) (if a = 0 then 0 else 1) [a] (pp_S s wd m (t + 1) (pp_nw s t w (pp_cc a)))))) := by
              rw [pp_sf_sf, ← hch2]
              obtain ⟨q25, q22, q23, q24, q10, q26, q27, b1, b2, b3⟩ := i3
              have z0 : pp_rw μ3 1 (pp_put s t w sc) 0 = μ3 0 := pp_rw_n (by decide)
              have z10 : pp_rw μ3 1 (pp_put s t w sc) 10 = μ3 10 := pp_rw_n (by decide)
              exact ⟨by rw [z0, q25], by rw [z0, q22], by rw [z0, q23], by rw [z0, q24], fun i hi => by rw [z10, q10 i hi], by rw [z0, q26], by rw [z0, q27], b1, b2, b3⟩
            have hF4 : pp_F pp_SP μ (pp_rw μ3 1 (pp_put s t w sc)) := by
              intro a' b hab
              have hab2 := hab
              unfold pp_SP at hab2
              simp only [decide_eq_false_iff_not] at hab2
              rw [pp_rw_n (by omega), i6 a' b hab, g4 a' b (by
                unfold pp_SG
                simp only [decide_eq_false_iff_not]
                omega), pp_set_n (by omega)]
            obtain ⟨μ4, j1, j2, j3, j4, j5, j6⟩ := ihr f2 (a + 1) (pp_rw μ3 1 (pp_put s t w sc)) _ (by omega) (by omega) pp_rw_s (fun j hj => by rw [pp_rw_n (by decide)]; exact hA3 j hj) hP3 (fun i hi => by
              rw [pp_rw_n (by decide), i4 i (by omega), h92 i (by omega), pp_getD_l (by omega)])
            refine ⟨μ4, j1, j2, ?_, fun i hi => ?_, fun j hj => ?_, hF4.trans j6⟩
            · rw [pp_fo]; exact j3
            · rw [j4 i hi, pp_rw_n (by decide), i4 i (by omega), g4 9 i (by simp [pp_SG]), pp_set_n (by omega)]
            · rw [j5 j hj, pp_rw_n (by decide), i5 j (by omega), g4 3 j (by simp [pp_SG]), pp_rowN (by decide)]
          rw [pp_ite (pp_e0 (by omega))]
          by_cases e : a = 0
          · rw [if_pos e]
            exact step ch (by rw [if_pos e, Nat.add_zero])
          · rw [if_neg e, show pp_i ch + 1 = pp_i (ch + 1) from pp_add ch 1]
            exact step (ch + 1) (by rw [if_neg e])
      have hA0 : pp_A (pp_rw μ 3 fa) k (pp_put s t w sc) := by
        intro j hj
        rw [pp_rw_s, a2 j hj, h1]
      have hP0 : pp_PR (pp_rw μ 3 fa) wd acc := by
        obtain ⟨q25, q22, q23, q24, q10, q26, q27, b1, b2, b3⟩ := hP
        have z0 : pp_rw μ 3 fa 0 = μ 0 := pp_rw_n (by decide)
        have z10 : pp_rw μ 3 fa 10 = μ 10 := pp_rw_n (by decide)
        exact ⟨by rw [z0, q25], by rw [z0, q22], by rw [z0, q23], by rw [z0, q24], fun i hi => by rw [z10, q10 i hi], by rw [z0, q26], by rw [z0, q27], b1, b2, b3⟩
      obtain ⟨μ1, j1, j2, j3, j4, j5, j6⟩ := loop (pp_n s + 1) N 0 (pp_rw μ 3 fa) acc (by omega) (by omega) (by rw [pp_rw_n (by decide), h1]) hA0 hP0 (fun i hi => by rw [pp_rw_n (by decide), h9 i hi])
      rw [show pp_i 0 = (0 : Int32) from rfl] at j1
      rw [j1]
      simp only [Option.bind_some]
      refine ⟨μ1, rfl, by rw [j2, h1], ?_, fun i hi => by rw [j4 i hi, pp_rw_n (by decide)], fun j hj => by rw [j5 j hj, pp_rw_s, a3 j (by omega)], ?_⟩
      · rw [← pp_S_node hB2 hO hto]
        exact j3
      · intro a' b hab
        have hab2 := hab
        unfold pp_SP at hab2
        simp only [decide_eq_false_iff_not] at hab2
        rw [j6 a' b hab, pp_rw_n (by omega)]
    · rw [if_neg hto, pp_S_over hto]
      exact leaf f k t x ch w sc p μ acc (by omega) hw h1 hP hp h9 hx hch
/-- cells that plans change, of the reference's -/
def pp_SPW (a b : Nat) : Bool := pp_SP a b || decide (a = 0 ∧ b = 25)
theorem pp_M_finds {N : Nat} {s : Nat → Int32} {wd n : Nat} {μ : g_M} (hN : 200 ≤ N) (hI : pp_I s) (hwd : wd < 64) (hn : n ≤ 4) (h1 : μ 1 = s) :
    ∃ μ1 : g_M, f_X12_findsPlans N (pp_i n) (pp_i wd) μ = some μ1 ∧ μ1 1 = μ 1 ∧ pp_PR μ1 wd (pp_mg (0, 0, [], 9, 0) (pp_S s wd n (pp_t s) (pp_w s))) ∧ pp_F pp_SPW μ μ1 := by
  have hs := pp_self hI.2.2.2
  have hte := hI.2.2.2.2.2.2.2.1
  generalize hμ : g_set (g_set (g_set (g_set (g_set (g_set μ 0 22 (-1)) 0 23 0) 0 24 0) 0 25 (pp_i wd)) 0 26 9) 0 27 0 = μ6
  have hr : ∀ a, a ≠ 0 → μ6 a = μ a := fun a ha => by rw [← hμ, pp_rowN ha, pp_rowN ha, pp_rowN ha, pp_rowN ha, pp_rowN ha, pp_rowN ha]
  have hP : pp_PR μ6 wd (0, 0, [], 9, 0) := by
    rw [← hμ]
    exact ⟨rfl, rfl, rfl, rfl, fun i hi => absurd hi (Nat.not_lt_zero i), rfl, rfl, by decide, by decide, by decide⟩
  obtain ⟨μ1, i1, i2, i3, -, -, i6⟩ := pp_M_plans hN hI hwd hn n 6 0 (pp_t s) 0 0 (pp_w s) (s 3) [] μ6 (0, 0, [], 9, 0) (by omega) (by omega) (by omega) (fun o ho => (hI.2.2.2.2.2.2.2.2 o ho).2) (by rw [hr 1 (by decide), h1]; exact hs) hP rfl (fun i hi => absurd hi (Nat.not_lt_zero i)) (by omega) (by omega)
  rw [pp_sf_0] at i3
  refine ⟨μ1, ?_, by rw [i2, hr 1 (by decide)], i3, ?_⟩
  · unfold f_X12_findsPlans
    simp only [Option.bind_some]
    rw [hμ]
    rw [show pp_i 0 = (0 : Int32) from rfl] at i1
    rw [i1]
    rfl
  · intro a b hab
    unfold pp_SPW at hab
    rw [Bool.or_eq_false_iff] at hab
    rw [i6 a b hab.1, ← hμ]
    have h2 := hab.1
    have h3 := hab.2
    unfold pp_SP at h2
    simp only [decide_eq_false_iff_not] at h2 h3
    rw [pp_set_n (by omega), pp_set_n (by omega), pp_set_n (by omega), pp_set_n (by omega), pp_set_n (by omega), pp_set_n (by omega)]
