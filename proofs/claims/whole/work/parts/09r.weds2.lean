/-! ===== the reference's weddings ===== -/
def pp_SW (a b : Nat) : Bool := decide (a = 7 ∨ a = 8 ∨ (a = 0 ∧ (b = 18 ∨ b = 19)))
def pp_WR (μ : g_M) (n : Nat) (acc : Nat × (Nat → Nat)) : Prop := ((acc.1 = 0 ∧ μ 0 18 = -1 ∧ μ 0 19 = 0) ∨ ∃ p l : Nat, acc.1 = 1 + 1000 * p + l ∧ l < 1000 ∧ p ≤ 6 ∧ μ 0 18 = pp_i p ∧ μ 0 19 = pp_i l) ∧ (acc.1 = 0 ∨ ∀ i, i < n → μ 8 i = pp_i (acc.2 i))
theorem pp_WR.F {μ μ1 : g_M} {n : Nat} {acc : Nat × (Nat → Nat)} (h : pp_WR μ n acc) (h0 : μ1 0 18 = μ 0 18) (h1 : μ1 0 19 = μ 0 19) (h8 : μ1 8 = μ 8) : pp_WR μ1 n acc := by
  unfold pp_WR
  rw [h0, h1, h8]
  exact h
theorem pp_M_copyB {N : Nat} {F : Int32 → Int32 → Int32 → Int32 → g_M → Option g_M} : ∀ (m fuel k : Nat) (μ : g_M), k + m = 6 → m < fuel → ∃ μ1 : g_M, f_X12_weds_L49 F N fuel (pp_i k) μ = some μ1 ∧ (∀ i, k ≤ i → i < 6 → μ1 8 i = μ 7 i) ∧ (∀ i, i < k → μ1 8 i = μ 8 i) ∧ ∀ a, a ≠ 8 → μ1 a = μ a := by
  intro m
  induction m with
  | zero =>
    intro fuel k μ hk hf
    obtain ⟨f, rfl⟩ := pp_fu hf
    rw [f_X12_weds_L49, show (6 : Int32) = pp_i 6 from rfl, pp_ite (pp_ge (by omega) (by omega)), if_pos (by omega)]
    exact ⟨μ, rfl, fun i h1 h2 => by omega, fun _ _ => rfl, fun _ _ => rfl⟩
  | succ m ih =>
    intro fuel k μ hk hf
    obtain ⟨f, rfl⟩ := pp_fu hf
    rw [f_X12_weds_L49, show (6 : Int32) = pp_i 6 from rfl, pp_ite (pp_ge (by omega) (by omega)), if_neg (by omega), pp_rd (by omega) (by decide), show pp_i k + 1 = pp_i (k + 1) from pp_add k 1]
    simp only [Option.bind_some]
    rw [pp_wr (by omega) (by decide)]
    simp only [Option.bind_some]
    obtain ⟨μ1, i1, i2, i3, i4⟩ := ih f (k + 1) (g_set μ 8 k (μ 7 k)) (by omega) (by omega)
    refine ⟨μ1, i1, fun i h1 h2 => ?_, fun i h1 => ?_, fun a ha => by rw [i4 a ha, pp_rowN ha]⟩
    · by_cases e : i = k
      · subst e
        rw [i3 i (by omega), pp_set_s]
      · rw [i2 i (by omega) h2, pp_rowN (by decide)]
    · rw [i3 i (by omega), pp_set_n (by omega)]
theorem pp_m1_lt {p : Nat} (h : p < 1000) : pp_i p > (-1 : Int32) := by
  show (-1 : Int32) < pp_i p
  rw [Int32.lt_iff_toInt_lt, pp_int (by omega)]
  have : (-1 : Int32).toInt = -1 := rfl
  omega
theorem pp_M_weds {N : Nat} {s : Nat → Int32} (hN : 200 ≤ N) (hI : pp_I s) : ∀ (r f o p l : Nat) (wd : Nat → Bool) (M : Nat → Nat) (acc : Nat × (Nat → Nat)) (μ : g_M), o + r = pp_n s → r < f → μ 1 = s → pp_WR μ (pp_n s) acc → (∀ i, i < pp_n s → (i < o ∨ wd i = true) → μ 7 i = pp_i (M i)) → p ≤ o → l ≤ 22 * p →
    ∃ μ1 : g_M, f_X12_weds N f (pp_i o) (pp_i (pp_mk wd (pp_n s))) (pp_i p) (pp_i l) μ = some μ1 ∧ μ1 1 = s ∧ pp_WR μ1 (pp_n s) (if acc.1 < 1 + 1000 * p + l + pp_mw s r o wd then (1 + 1000 * p + l + pp_mw s r o wd, pp_gm s r o wd M) else acc) ∧ (∀ i, i < pp_n s → (i < o ∨ wd i = true) → μ1 7 i = μ 7 i) ∧ pp_F pp_SW μ μ1 := by
  have hB2 := hI.1.2
  have hO := hI.2.1
  intro r
  induction r with
  | zero =>
    intro f o p l wd M acc μ ho hf h1 hW h7 hp hl
    obtain ⟨f, rfl⟩ := pp_fu hf
    have h0 : μ 1 0 = pp_i (pp_n s) := by rw [h1]; exact hI.1.1
    have hcopy : ∃ μ1 : g_M, f_X12_weds_L49 (f_X12_weds N f) N N 0 (g_set (g_set μ 0 18 (pp_i p)) 0 19 (pp_i l)) = some μ1 ∧ μ1 1 = s ∧ pp_WR μ1 (pp_n s) (1 + 1000 * p + l, M) ∧ (∀ i, i < pp_n s → (i < o ∨ wd i = true) → μ1 7 i = μ 7 i) ∧ pp_F pp_SW μ μ1 := by
      obtain ⟨μ1, i1, i2, i3, i4⟩ := pp_M_copyB (N := N) (F := f_X12_weds N f) 6 N 0 (g_set (g_set μ 0 18 (pp_i p)) 0 19 (pp_i l)) (by omega) (by omega)
      refine ⟨μ1, i1, by rw [i4 1 (by decide), pp_rowN (by decide), pp_rowN (by decide), h1], ⟨Or.inr ⟨p, l, rfl, by omega, by omega, by rw [i4 0 (by decide), pp_set_n (by decide), pp_set_s], by rw [i4 0 (by decide), pp_set_s]⟩, Or.inr (fun i hi => ?_)⟩, fun i hi _ => by rw [i4 7 (by decide), pp_rowN (by decide), pp_rowN (by decide)], ?_⟩
      · rw [i2 i (Nat.zero_le _) (by omega), pp_rowN (by decide), pp_rowN (by decide)]
        exact h7 i hi (Or.inl (by omega))
      · intro a b hab
        unfold pp_SW at hab
        simp only [decide_eq_false_iff_not] at hab
        rw [i4 a (by omega), pp_set_n (by omega), pp_set_n (by omega)]
    rw [f_X12_weds, h0, if_pos (show pp_i o = pp_i (pp_n s) by rw [show o = pp_n s by omega])]
    simp only [Option.bind_some]
    rw [pp_mw, pp_gm, Nat.add_zero]
    obtain ⟨μ1, c1, c2, c3, c4, c5⟩ := hcopy
    rcases hW.1 with ⟨e1, e2, e3⟩ | ⟨p0, l0, e1, e2, e3, e4, e5⟩
    · rw [e2, if_pos (pp_m1_lt (by omega)), if_pos (by omega), c1]
      exact ⟨μ1, rfl, c2, c3, c4, c5⟩
    · rw [e4, e5, pp_ite (pp_gt (by omega) (by omega)), pp_ite (pp_eq (by omega) (by omega)), pp_ite (pp_le (by omega) (by omega))]
      by_cases q1 : p0 < p
      · rw [if_pos q1, if_pos (by omega), c1]
        exact ⟨μ1, rfl, c2, c3, c4, c5⟩
      · rw [if_neg q1]
        by_cases q2 : p = p0
        · rw [if_pos q2]
          by_cases q3 : l ≤ l0
          · rw [if_pos q3, if_neg (by omega)]
            exact ⟨μ, rfl, h1, hW, fun _ _ _ => rfl, pp_F.refl⟩
          · rw [if_neg q3, if_pos (by omega), c1]
            exact ⟨μ1, rfl, c2, c3, c4, c5⟩
        · rw [if_neg q2, if_neg (by omega)]
          exact ⟨μ, rfl, h1, hW, fun _ _ _ => rfl, pp_F.refl⟩
  | succ r ih =>
    intro f o p l wd M acc μ ho hf h1 hW h7 hp hl
    obtain ⟨f, rfl⟩ := pp_fu hf
    have h0 : μ 1 0 = pp_i (pp_n s) := by rw [h1]; exact hI.1.1
    rw [f_X12_weds, h0, pp_ite (pp_eq (by omega) (by omega)), if_neg (by omega), pp_ite (pp_mk_b1 hB2 (by omega)), pp_mw, pp_gm]
    by_cases hwo : wd o = true
    · rw [if_pos hwo, if_pos hwo, if_pos hwo, show pp_i o + 1 = pp_i (o + 1) from pp_add o 1]
      obtain ⟨μ1, i1, i2, i3, i4, i5⟩ := ih f (o + 1) p l wd M acc μ (by omega) (by omega) h1 hW (fun i hi q => h7 i hi (by
        rcases q with q | q
        · by_cases e : i = o
          · subst e; exact Or.inr hwo
          · exact Or.inl (by omega)
        · exact Or.inr q)) (by omega) hl
      rw [i1]
      exact ⟨μ1, rfl, i2, i3, fun i hi q => i4 i hi (q.elim (fun q => Or.inl (by omega)) Or.inr), i5⟩
    · rw [if_neg hwo, if_neg hwo, if_neg hwo, show pp_i o + 1 = pp_i (o + 1) from pp_add o 1]
      simp only [Option.bind_some]
      have loop : ∀ (m fuel k : Nat) (acc : Nat × (Nat → Nat)) (μ : g_M), k + m = pp_n s → m < fuel → o < k → μ 1 = s → pp_WR μ (pp_n s) acc → (∀ i, i < pp_n s → (i < o ∨ wd i = true) → μ 7 i = pp_i (M i)) →
          ∃ μ1 : g_M, f_X12_weds_L103 (f_X12_weds N f) N fuel (pp_i o) (pp_i (pp_mk wd (pp_n s))) (pp_i p) (pp_i l) (pp_i k) μ = some μ1 ∧ μ1 1 = s ∧ pp_WR μ1 (pp_n s) (pp_wf (fun k => !(wd k) && pp_pr s o k) (fun k => 1000 + pp_lg s o k + pp_mw s r (o + 1) (pp_up wd k true)) (fun k => pp_gm s r (o + 1) (pp_up wd k true) (pp_up (pp_up M o k) k o)) (1 + 1000 * p + l) m k acc) ∧ (∀ i, i < pp_n s → (i < o ∨ wd i = true) → μ1 7 i = μ 7 i) ∧ pp_F pp_SW μ μ1 := by
        intro m
        induction m with
        | zero =>
          intro fuel k acc μ hk hfu hok h1 hW h7
          obtain ⟨f2, rfl⟩ := pp_fu hfu
          have h0 : μ 1 0 = pp_i (pp_n s) := by rw [h1]; exact hI.1.1
          rw [f_X12_weds_L103, h0, pp_ite (pp_ge (by omega) (by omega)), if_pos (by omega)]
          exact ⟨μ, rfl, h1, hW, fun _ _ _ => rfl, pp_F.refl⟩
        | succ m ihm =>
          intro fuel k acc μ hk hfu hok h1 hW h7
          obtain ⟨f2, rfl⟩ := pp_fu hfu
          have h0 : μ 1 0 = pp_i (pp_n s) := by rw [h1]; exact hI.1.1
          rw [f_X12_weds_L103, h0, pp_ite (pp_ge (by omega) (by omega)), if_neg (by omega), pp_ite (pp_fr_bit0 (fr := wd) hB2 rfl k (by omega)), pp_M_pair hI h1 (by omega) (by omega), show pp_i k + 1 = pp_i (k + 1) from pp_add k 1, pp_wf]
          simp only [Option.bind_some]
          by_cases c1 : wd k = true
          · rw [if_neg (fun q => q c1), if_neg (show ¬ ((!(wd k) && pp_pr s o k) = true ∧ acc.1 < 1 + 1000 * p + l + (1000 + pp_lg s o k + pp_mw s r (o + 1) (pp_up wd k true))) from fun q => by rw [c1] at q; exact absurd q.1 (by simp))]
            exact ihm f2 (k + 1) acc μ (by omega) (by omega) (by omega) h1 hW h7
          · rw [if_pos c1]
            by_cases c2 : pp_pr s o k = true
            · have hko : ¬ k = o := by omega
              rw [if_pos c2, if_neg (by decide), pp_wr (by omega) (by decide)]
              simp only [Option.bind_some]
              rw [pp_wr (by omega) (by decide)]
              simp only [Option.bind_some]
              generalize hμ10 : g_set (g_set μ 7 o (pp_i k)) 7 k (pp_i o) = μ10
              have z1 : μ10 1 = s := by rw [← hμ10, pp_rowN (by decide), pp_rowN (by decide), h1]
              have z1' : μ10 1 = pp_put s (pp_t s) (pp_w s) (s 3) := z1.trans (pp_self hI.2.2.2)
              have zF : pp_F pp_SW μ μ10 := by
                rw [← hμ10]
                exact (pp_F.set (by simp [pp_SW])).trans (pp_F.set (by simp [pp_SW]))
              obtain ⟨g1, g2, g3⟩ := pp_lg_le hO (show o < pp_n s by omega) (show k < pp_n s by omega) c2
              rw [pp_M_longs (N := 0) z1' (by omega) (by omega), pp_M_longs (N := 0) z1' (by omega) (by omega)]
              simp only [Option.bind_some]
              have hb1 : 2 ^ k < 64 := Nat.pow_lt_pow_right (a := 2) (n := 6) (by decide) (by omega)
              have emask : (pp_i (pp_mk wd (pp_n s)) ||| (1 <<< (pp_i k &&& 31))) = pp_i (pp_mk (pp_up wd k true) (pp_n s)) := by
                rw [show ((1 : Int32) <<< (pp_i k &&& 31)) = pp_i (2 ^ k) from pp_bit_shl ⟨k, by omega⟩, pp_or]
                congr 1
                rw [show 2 ^ k = 2 ^ k ||| 2 ^ k from (Nat.or_self _).symm]
                refine pp_mk_or (by omega) (by omega) (fun x hx => ?_)
                unfold pp_up
                by_cases e : x = k
                · rw [if_pos e, decide_eq_true e, Bool.or_true]
                · rw [if_neg e, decide_eq_false e, Bool.or_false, Bool.or_false]
              rw [emask, g1, g2, pp_add, pp_add, show pp_i p + 1 = pp_i (p + 1) from pp_add p 1, show pp_i o + 1 = pp_i (o + 1) from pp_add o 1, show l + (pp_ws s o k).toNatClampNeg + (pp_ws s k o).toNatClampNeg = l + pp_lg s o k from Nat.add_assoc _ _ _]
              obtain ⟨μ3, i1, i2, i3, i4, i5⟩ := ih f (o + 1) (p + 1) (l + pp_lg s o k) (pp_up wd k true) (pp_up (pp_up M o k) k o) acc μ10 (by omega) (by omega) z1 (hW.F (by rw [← hμ10, pp_rowN (by decide), pp_rowN (by decide)]) (by rw [← hμ10, pp_rowN (by decide), pp_rowN (by decide)]) (by rw [← hμ10, pp_rowN (by decide), pp_rowN (by decide)])) (fun i hi q => by
                rw [← hμ10]
                by_cases e1 : i = k
                · subst e1
                  rw [pp_set_s, pp_up_s]
                · rw [pp_set_n (by omega), pp_up_n e1]
                  by_cases e2 : i = o
                  · subst e2
                    rw [pp_set_s, pp_up_s]
                  · rw [pp_set_n (by omega), pp_up_n e2]
                    refine h7 i hi ?_
                    rcases q with q | q
                    · exact Or.inl (by omega)
                    · rw [pp_up_n e1] at q
                      exact Or.inr q) (by omega) (by omega)
              rw [i1]
              simp only [Option.bind_some]
              have e4 : 1 + 1000 * (p + 1) + (l + pp_lg s o k) + pp_mw s r (o + 1) (pp_up wd k true) = 1 + 1000 * p + l + (1000 + pp_lg s o k + pp_mw s r (o + 1) (pp_up wd k true)) := by omega
              rw [e4] at i3
              have e5 : (if (!(wd k) && pp_pr s o k) = true ∧ acc.1 < 1 + 1000 * p + l + (1000 + pp_lg s o k + pp_mw s r (o + 1) (pp_up wd k true)) then (1 + 1000 * p + l + (1000 + pp_lg s o k + pp_mw s r (o + 1) (pp_up wd k true)), pp_gm s r (o + 1) (pp_up wd k true) (pp_up (pp_up M o k) k o)) else acc) = (if acc.1 < 1 + 1000 * p + l + (1000 + pp_lg s o k + pp_mw s r (o + 1) (pp_up wd k true)) then (1 + 1000 * p + l + (1000 + pp_lg s o k + pp_mw s r (o + 1) (pp_up wd k true)), pp_gm s r (o + 1) (pp_up wd k true) (pp_up (pp_up M o k) k o)) else acc) := by
                refine pp_ite (propext ⟨fun q => q.2, fun q => ⟨?_, q⟩⟩)
                rw [c2, Bool.and_true]
                cases hq : wd k
                · rfl
                · exact absurd hq c1
              rw [e5]
              have hkeep : ∀ i, i < pp_n s → (i < o ∨ wd i = true) → μ3 7 i = μ 7 i := by
                intro i hi q
                have e1 : ¬ i = k := fun e => q.elim (fun q => by omega) (fun q => c1 (by rw [← e]; exact q))
                have e2 : ¬ i = o := fun e => q.elim (fun q => by omega) (fun q => hwo (by rw [← e]; exact q))
                rw [i4 i hi (q.elim (fun q => Or.inl (by omega)) (fun q => Or.inr (by rw [pp_up_n e1]; exact q))), ← hμ10, pp_set_n (by omega), pp_set_n (by omega)]
              obtain ⟨μ4, j1, j2, j3, j4, j5⟩ := ihm f2 (k + 1) _ μ3 (by omega) (by omega) (by omega) i2 i3 (fun i hi q => by rw [hkeep i hi q]; exact h7 i hi q)
              exact ⟨μ4, j1, j2, j3, fun i hi q => by rw [j4 i hi q, hkeep i hi q], (zF.trans i5).trans j5⟩
            · rw [if_neg c2, if_pos rfl, if_neg (show ¬ ((!(wd k) && pp_pr s o k) = true ∧ acc.1 < 1 + 1000 * p + l + (1000 + pp_lg s o k + pp_mw s r (o + 1) (pp_up wd k true))) from fun q => by
                rw [Bool.and_eq_true] at q
                exact c2 q.1.2)]
              exact ihm f2 (k + 1) acc μ (by omega) (by omega) (by omega) h1 hW h7
      obtain ⟨μ2, j1, j2, j3, j4, j5⟩ := loop r N (o + 1) acc μ (by omega) (by omega) (by omega) h1 hW h7
      rw [j1]
      simp only [Option.bind_some]
      rw [pp_wr (by omega) (by decide)]
      simp only [Option.bind_some]
      obtain ⟨μ3, i1, i2, i3, i4, i5⟩ := ih f (o + 1) p l wd (pp_up M o 6) _ (g_set μ2 7 o 6) (by omega) (by omega) (by rw [pp_rowN (by decide), j2]) (j3.F (by rw [pp_rowN (by decide)]) (by rw [pp_rowN (by decide)]) (by rw [pp_rowN (by decide)])) (fun i hi q => by
        by_cases e : i = o
        · subst e
          rw [pp_set_s, pp_up_s]
          rfl
        · rw [pp_set_n (by omega), pp_up_n e]
          have q' : i < o ∨ wd i = true := q.elim (fun q => Or.inl (by omega)) Or.inr
          rw [j4 i hi q']
          exact h7 i hi q') (by omega) hl
      rw [i1]
      refine ⟨μ3, rfl, i2, ?_, fun i hi q => ?_, (j5.trans (pp_F.set (by simp [pp_SW]))).trans i5⟩
      · rw [pp_wf_eq r (o + 1) acc (by omega) (by omega)] at i3
        exact i3
      · have e : ¬ i = o := fun e => q.elim (fun q => by omega) (fun q => hwo (by rw [← e]; exact q))
        rw [i4 i hi (q.elim (fun q => Or.inl (by omega)) Or.inr), pp_set_n (by omega), j4 i hi q]
