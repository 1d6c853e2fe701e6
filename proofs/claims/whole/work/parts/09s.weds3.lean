/-! ===== the class's weddings ===== -/
theorem pp_mask_less {n k : Nat} {wd : Nat → Bool} (hn : n ≤ 6) (hk : k < n) : (pp_i (pp_mk (fun x => !(wd x)) n) &&& ((1 <<< (pp_i k &&& 31)) ^^^ (-1))) = pp_i (pp_mk (fun x => !(pp_up wd k true x)) n) := by
  have b1 : 2 ^ k < 64 := Nat.pow_lt_pow_right (a := 2) (n := 6) (by decide) (by omega)
  have e2 := pp_bit_an ⟨2 ^ k, b1⟩ ⟨pp_mk (fun x => !(wd x)) n, pp_mk_64 hn⟩
  dsimp only at e2
  rw [show ((1 : Int32) <<< (pp_i k &&& 31)) = pp_i (2 ^ k) from pp_bit_shl ⟨k, by omega⟩, pp_not_lit, e2]
  congr 1
  refine pp_mk_less hn b1 (fun x hx => ?_)
  have h6 := Nat.testBit_two_pow (n := k) (m := x)
  rw [Nat.testBit_eq_decide_div_mod_eq, decide_eq_decide] at h6
  have h5 : 2 ^ k / 2 ^ x % 2 < 2 := Nat.mod_lt _ (by decide)
  unfold pp_up
  by_cases e : x = k
  · have h7 := h6.mpr e.symm
    rw [if_pos e, h7]
    cases wd x <;> rfl
  · have h7 : ¬ 2 ^ k / 2 ^ x % 2 = 1 := fun q => e (h6.mp q).symm
    rw [if_neg e, decide_eq_true (show 2 ^ k / 2 ^ x % 2 = 0 by omega), Bool.and_true]
theorem pp_X_mw {N : Nat} {s : Nat → Int32} {μ : g_M} (hN : 200 ≤ N) (hI : pp_I s) (hC : pp_C s μ) : ∀ (r f o : Nat) (wd : Nat → Bool), o + r = pp_n s → r < f →
    f_X2_mostWed N f (pp_i (pp_mk (fun x => !(wd x)) (pp_n s))) (pp_i o) μ = some (pp_i (pp_mw s r o wd)) := by
  have hB2 := hI.1.2
  have hO := hI.2.1
  have h0 : μ 1 11 = pp_i (pp_n s) := hC.1.trans hI.1.1
  intro r
  induction r with
  | zero =>
    intro f o wd ho hf
    obtain ⟨f, rfl⟩ := pp_fu hf
    rw [f_X2_mostWed, h0, pp_ite (pp_lt (by omega) (by omega)), if_neg (by omega)]
    rfl
  | succ r ih =>
    intro f o wd ho hf
    obtain ⟨f, rfl⟩ := pp_fu hf
    rw [f_X2_mostWed, h0, pp_ite (pp_lt (by omega) (by omega)), if_pos (by omega), show pp_i o + 1 = pp_i (o + 1) from pp_add o 1, ih f (o + 1) wd (by omega) (by omega)]
    simp only [Option.bind_some]
    rw [pp_ite (pp_fr_bit0 (fr := fun x => !(wd x)) hB2 rfl o (by omega)), pp_mw]
    by_cases hwo : wd o = true
    · rw [if_pos hwo, if_pos (by rw [hwo]; decide)]
    · have hwf : wd o = false := by
        cases hq : wd o
        · rfl
        · exact absurd hq hwo
      rw [if_neg hwo, if_neg (by rw [hwf]; decide)]
      have loop : ∀ (m fuel k b : Nat), k + m = pp_n s → m < fuel → o < k → b ≤ 1022 * (r + 1) →
          f_X2_mostWed_L34 (f_X2_mostWed N f) N fuel (pp_i (pp_mk (fun x => !(wd x)) (pp_n s))) (pp_i o) (pp_i b) (pp_i k) μ = some (pp_i (pp_mx (fun k => !(wd k) && pp_pr s o k) (fun k => 1000 + pp_lg s o k + pp_mw s r (o + 1) (pp_up wd k true)) m k b)) := by
        intro m
        induction m with
        | zero =>
          intro fuel k b hk hfu hok hb
          obtain ⟨f2, rfl⟩ := pp_fu hfu
          rw [f_X2_mostWed_L34, h0, pp_ite (pp_ge (by omega) (by omega)), if_pos (by omega), pp_mx]
        | succ m ihm =>
          intro fuel k b hk hfu hok hb
          obtain ⟨f2, rfl⟩ := pp_fu hfu
          rw [f_X2_mostWed_L34, h0, pp_ite (pp_ge (by omega) (by omega)), if_neg (by omega), pp_ite (pp_fr_bit0 (fr := fun x => !(wd x)) hB2 rfl k (by omega)), pp_X_pair hB2 hC (by omega) (by omega) (by omega), show pp_i k + 1 = pp_i (k + 1) from pp_add k 1, pp_mx]
          simp only [Option.bind_some]
          by_cases c1 : wd k = true
          · rw [if_pos (by rw [c1]; decide), if_neg (fun q => by rw [c1] at q; exact absurd q.1 (by simp))]
            exact ihm f2 (k + 1) b (by omega) (by omega) (by omega) hb
          · have c1f : wd k = false := by
              cases hq : wd k
              · rfl
              · exact absurd hq c1
            rw [if_neg (by rw [c1f]; decide)]
            by_cases c2 : pp_pr s o k = true
            · have hmw := pp_mw_le hO r (o + 1) (pp_up wd k true) (by omega)
              have hlg := (pp_lg_le hO (show o < pp_n s by omega) (show k < pp_n s by omega) c2).2.2
              rw [if_pos c2, if_neg (by decide), pp_X_wof hB2 hO hC (by omega) (by omega) (by omega) c2, pp_mask_less hB2 (by omega)]
              simp only [Option.bind_some]
              rw [show pp_i o + 1 = pp_i (o + 1) from pp_add o 1, ih f (o + 1) (pp_up wd k true) (by omega) (by omega)]
              simp only [Option.bind_some]
              rw [pp_add, pp_gmax (by omega) (by omega)]
              have e5 : (if (!(wd k) && pp_pr s o k) = true ∧ b < 1000 + pp_lg s o k + pp_mw s r (o + 1) (pp_up wd k true) then 1000 + pp_lg s o k + pp_mw s r (o + 1) (pp_up wd k true) else b) = (if b < 1000 + pp_lg s o k + pp_mw s r (o + 1) (pp_up wd k true) then 1000 + pp_lg s o k + pp_mw s r (o + 1) (pp_up wd k true) else b) := pp_ite (propext ⟨fun q => q.2, fun q => ⟨by rw [c1f, c2]; rfl, q⟩⟩)
              rw [e5]
              have hr : 1 ≤ r := by omega
              by_cases c3 : b < 1000 + pp_lg s o k + pp_mw s r (o + 1) (pp_up wd k true)
              · rw [if_pos c3]
                exact ihm f2 (k + 1) _ (by omega) (by omega) (by omega) (by omega)
              · rw [if_neg c3]
                exact ihm f2 (k + 1) b (by omega) (by omega) (by omega) hb
            · rw [if_neg c2, if_pos rfl, if_neg (fun q => c2 (by
                have := q.1
                rw [Bool.and_eq_true] at this
                exact this.2))]
              exact ihm f2 (k + 1) b (by omega) (by omega) (by omega) hb
      have h1 := pp_mw_le hO r (o + 1) wd (by omega)
      have := loop r N (o + 1) (pp_mw s r (o + 1) wd) (by omega) (by omega) (by omega) (by omega)
      rw [this]
      rfl
theorem pp_X_f1 {N : Nat} {s : Nat → Int32} {μ : g_M} (hN : 200 ≤ N) (hI : pp_I s) (hC : pp_C s μ) {r o : Nat} {wd : Nat → Bool} (ho : o + (r + 1) = pp_n s) (hwo : ¬ wd o = true) :
    f_X2_firstMate N (pp_i (pp_mk (fun x => !(wd x)) (pp_n s))) (pp_i o) μ = some (pp_i (pp_f1 s r o wd)) := by
  have hB2 := hI.1.2
  have hO := hI.2.1
  have h0 : μ 1 11 = pp_i (pp_n s) := hC.1.trans hI.1.1
  have h1 := pp_mw_le hO (r + 1) o wd ho
  have h2 := pp_X_mw hN hI hC (r + 1) 8 o wd ho (by omega)
  unfold f_X2_firstMate
  rw [h2]
  simp only [Option.bind_some]
  rw [pp_mw, if_neg hwo] at h1 ⊢
  unfold pp_f1
  generalize pp_mx (fun k => !(wd k) && pp_pr s o k) (fun k => 1000 + pp_lg s o k + pp_mw s r (o + 1) (pp_up wd k true)) r (o + 1) (pp_mw s r (o + 1) wd) = T at h1 ⊢
  have loop : ∀ (m fuel k : Nat), k + m = pp_n s → m < fuel → o < k →
      (match f_X2_firstMate_L12 N fuel (pp_i (pp_mk (fun x => !(wd x)) (pp_n s))) (pp_i o) (pp_i T) (pp_i k) μ with | none => none | some (.inl q) => some q | some (.inr _) => some 6) = some (pp_i (pp_fm (fun k => !(wd k) && pp_pr s o k) (fun k => 1000 + pp_lg s o k + pp_mw s r (o + 1) (pp_up wd k true)) T m k)) := by
    intro m
    induction m with
    | zero =>
      intro fuel k hk hfu hok
      obtain ⟨f2, rfl⟩ := pp_fu hfu
      rw [f_X2_firstMate_L12, h0, pp_ite (pp_ge (by omega) (by omega)), if_pos (by omega)]
      rfl
    | succ m ihm =>
      intro fuel k hk hfu hok
      obtain ⟨f2, rfl⟩ := pp_fu hfu
      rw [f_X2_firstMate_L12, h0, pp_ite (pp_ge (by omega) (by omega)), if_neg (by omega), pp_ite (pp_fr_bit0 (fr := fun x => !(wd x)) hB2 rfl k (by omega)), pp_X_pair hB2 hC (by omega) (by omega) (by omega), show pp_i k + 1 = pp_i (k + 1) from pp_add k 1, pp_fm]
      simp only [Option.bind_some]
      by_cases c1 : wd k = true
      · rw [if_pos (by rw [c1]; decide), if_neg (fun q => by rw [c1] at q; exact absurd q.1 (by simp))]
        exact ihm f2 (k + 1) (by omega) (by omega) (by omega)
      · have c1f : wd k = false := by
          cases hq : wd k
          · rfl
          · exact absurd hq c1
        rw [if_neg (by rw [c1f]; decide)]
        by_cases c2 : pp_pr s o k = true
        · have hmw := pp_mw_le hO r (o + 1) (pp_up wd k true) (by omega)
          have hlg := (pp_lg_le hO (show o < pp_n s by omega) (show k < pp_n s by omega) c2).2.2
          rw [if_pos c2, if_neg (by decide), pp_X_wof hB2 hO hC (by omega) (by omega) (by omega) c2, pp_mask_less hB2 (by omega)]
          simp only [Option.bind_some]
          rw [show pp_i o + 1 = pp_i (o + 1) from pp_add o 1, pp_X_mw hN hI hC r 8 (o + 1) (pp_up wd k true) (by omega) (by omega)]
          simp only [Option.bind_some]
          rw [pp_add, pp_ite (pp_eq (by omega) (by omega))]
          by_cases c3 : 1000 + pp_lg s o k + pp_mw s r (o + 1) (pp_up wd k true) = T
          · rw [if_pos c3, if_pos ⟨by rw [c1f, c2]; rfl, c3⟩]
          · rw [if_neg c3, if_neg (fun q => c3 q.2)]
            exact ihm f2 (k + 1) (by omega) (by omega) (by omega)
        · rw [if_neg c2, if_pos rfl, if_neg (fun q => c2 (by
            have := q.1
            rw [Bool.and_eq_true] at this
            exact this.2))]
          exact ihm f2 (k + 1) (by omega) (by omega) (by omega)
  have h3 := loop r N (o + 1) (by omega) (by omega) (by omega)
  rw [show pp_i o + 1 = pp_i (o + 1) from pp_add o 1]
  cases hc : f_X2_firstMate_L12 N N (pp_i (pp_mk (fun x => !(wd x)) (pp_n s))) (pp_i o) (pp_i T) (pp_i (o + 1)) μ with
  | none => rw [hc] at h3; cases h3
  | some q =>
    rw [hc] at h3
    cases q with
    | inl q =>
      simp only [Option.bind_some]
      exact h3
    | inr q =>
      simp only [Option.bind_some]
      exact h3
theorem pp_f1_ok {s : Nat → Int32} {r o : Nat} {wd : Nat → Bool} (ho : o + (r + 1) = pp_n s) : pp_f1 s r o wd = 6 ∨ (o < pp_f1 s r o wd ∧ pp_f1 s r o wd < pp_n s ∧ ¬ wd (pp_f1 s r o wd) = true) := by
  unfold pp_f1
  rcases pp_fm_lt (ok := fun k => !(wd k) && pp_pr s o k) (v := fun k => 1000 + pp_lg s o k + pp_mw s r (o + 1) (pp_up wd k true)) (T := pp_mx (fun k => !(wd k) && pp_pr s o k) (fun k => 1000 + pp_lg s o k + pp_mw s r (o + 1) (pp_up wd k true)) r (o + 1) (pp_mw s r (o + 1) wd)) r (o + 1) with h | ⟨h1, h2, h3⟩
  · exact Or.inl h
  · refine Or.inr ⟨h1, by omega, fun q => ?_⟩
    rw [Bool.and_eq_true, q] at h3
    exact absurd h3.1 (by simp)
theorem pp_X_mateL {N : Nat} {s : Nat → Int32} {μ : g_M} {o : Nat} (hN : 200 ≤ N) (hI : pp_I s) (hC : pp_C s μ) (ho : o < pp_n s) : ∀ (m fuel a r : Nat) (wd : Nat → Bool) (M : Nat → Nat), a + m = o + 1 → a ≤ o → a + (r + 1) = pp_n s → m < fuel → ¬ wd o = true →
    (match f_X2_mateOf_L7 N fuel (pp_i o) (pp_i (pp_mk (fun x => !(wd x)) (pp_n s))) (pp_i a) μ with | none => none | some (.inl q) => some q | some (.inr _) => some 6) = some (pp_i (pp_gm s (r + 1) a wd M o)) := by
  have hB2 := hI.1.2
  intro m
  induction m with
  | zero =>
    intro fuel a r wd M ha hao
    omega
  | succ m ih =>
    intro fuel a r wd M ha hao har hfu hwo
    obtain ⟨f, rfl⟩ := pp_fu hfu
    rw [f_X2_mateOf_L7, pp_ite (pp_gt (by omega) (by omega)), if_neg (by omega), pp_ite (pp_fr_bit0 (fr := fun x => !(wd x)) hB2 rfl a (by omega)), show pp_i a + 1 = pp_i (a + 1) from pp_add a 1, pp_gm]
    by_cases c : wd a = true
    · rw [if_pos (by rw [c]; decide), if_pos c]
      have hne : a ≠ o := fun e => hwo (by rw [← e]; exact c)
      obtain ⟨r2, rfl⟩ : ∃ r2, r = r2 + 1 := ⟨r - 1, by omega⟩
      exact ih f (a + 1) r2 wd M (by omega) (by omega) (by omega) (by omega) hwo
    · have cf : wd a = false := by
        cases hq : wd a
        · rfl
        · exact absurd hq c
      rw [if_neg (by rw [cf]; decide), if_neg c, pp_X_f1 hN hI hC har c]
      simp only [Option.bind_some]
      have hk := pp_f1_ok (wd := wd) har
      rw [pp_ite (pp_eq (by omega) (by omega)), pp_ite (pp_eq (by omega) (by omega))]
      by_cases e : a = o
      · rw [if_pos e]
        show some (pp_i (pp_f1 s r a wd)) = _
        congr 2
        by_cases k6 : pp_f1 s r a wd = 6
        · rw [if_pos k6, pp_gm_old r (a + 1) _ _ (Or.inl (by omega)), e, pp_up_s, ← e, k6]
        · rw [if_neg k6, pp_gm_old r (a + 1) _ _ (Or.inl (by omega)), pp_up_n (by omega), ← e, pp_up_s]
      · rw [if_neg e]
        by_cases e2 : pp_f1 s r a wd = o
        · rw [if_pos e2, if_neg (by omega)]
          show some (pp_i a) = _
          congr 2
          rw [pp_gm_old r (a + 1) _ _ (Or.inr (by rw [e2, pp_up_s])), e2, pp_up_s]
        · rw [if_neg e2]
          obtain ⟨r2, rfl⟩ : ∃ r2, r = r2 + 1 := ⟨r - 1, by omega⟩
          by_cases k6 : pp_f1 s (r2 + 1) a wd = 6
          · rw [if_pos k6, k6]
            have e6 := pp_bit_cl ⟨6, by decide⟩ ⟨pp_mk (fun x => !(wd x)) (pp_n s), pp_mk_64 hB2⟩
            have hm : pp_mk (fun x => !(wd x)) (pp_n s) < 64 := pp_mk_64 hB2
            dsimp only at e6
            rw [if_neg (show ¬ pp_mk (fun x => !(wd x)) (pp_n s) / 2 ^ 6 % 2 = 1 by rw [Nat.div_eq_of_lt (show pp_mk (fun x => !(wd x)) (pp_n s) < 2 ^ 6 from hm)]; decide)] at e6
            rw [show (pp_i (pp_mk (fun x => !(wd x)) (pp_n s)) &&& ((1 <<< (pp_i 6 &&& 31)) ^^^ (-1))) = pp_i (pp_mk (fun x => !(wd x)) (pp_n s)) from e6]
            exact ih f (a + 1) r2 wd _ (by omega) (by omega) (by omega) (by omega) hwo
          · have hk2 : a < pp_f1 s (r2 + 1) a wd ∧ pp_f1 s (r2 + 1) a wd < pp_n s := by
              rcases hk with h | h
              · exact absurd h k6
              · exact ⟨h.1, h.2.1⟩
            rw [if_neg k6, pp_mask_less hB2 hk2.2]
            exact ih f (a + 1) r2 _ _ (by omega) (by omega) (by omega) (by omega) (by rw [pp_up_n (fun q => e2 q.symm)]; exact hwo)
