/-! ===== the class's night, whole ===== -/
theorem pp_fr_bit0 {s : Nat → Int32} {fr : Nat → Bool} {x : Int32} (hB2 : pp_n s ≤ 6) (h7 : x = pp_i (pp_mk fr (pp_n s))) : ∀ k, k < pp_n s → (((x >>> (pp_i k &&& 31)) &&& 1) = 0) = ¬ (fr k = true) := by
  intro k hk
  rw [h7, pp_at0 (pp_mk_64 hB2) (by omega), pp_mk_at]
  by_cases h : fr k = true <;> simp [hk, h]
theorem pp_X_choiceL {N : Nat} {s : Nat → Int32} {μ : g_M} {fr : Nat → Bool} {o : Nat} {x2 : Int32} (hB : pp_B s) (hC : pp_C s μ) (hf : ∀ k, k < pp_n s → (((x2 >>> (pp_i k &&& 31)) &&& 1) = 0) = ¬ (fr k = true)) (ho : o < pp_n s) :
    ∀ (m fuel k b : Nat) (x : Int32), k + m = pp_n s → m < fuel → f_X9_choiceOf_L35 N fuel (pp_i o) x2 (pp_i b) x (pp_i k) μ = some (pp_i (pp_cl s fr o m k b x)) := by
  have hB2 := hB.2
  have h0 : μ 1 11 = pp_i (pp_n s) := hC.1.trans hB.1
  intro m
  induction m with
  | zero =>
    intro fuel k b x hk hfu
    obtain ⟨f, rfl⟩ := pp_fu hfu
    rw [f_X9_choiceOf_L35, h0, pp_ite (pp_ge (by omega) (by omega)), if_pos (by omega), pp_cl]
  | succ m ih =>
    intro fuel k b x hk hfu
    obtain ⟨f, rfl⟩ := pp_fu hfu
    have hnx : pp_i k + 1 = pp_i (k + 1) := pp_add k 1
    have ih1 := ih f (k + 1) k (pp_ws s o k) (by omega) (by omega)
    have ih2 := ih f (k + 1) b x (by omega) (by omega)
    rw [f_X9_choiceOf_L35, h0, pp_ite (pp_ge (by omega) (by omega)), if_neg (by omega), pp_ite (pp_eq (by omega) (by omega)), pp_ite (hf k (by omega)), hnx, pp_cl]
    by_cases e : k = o
    · rw [if_pos e, if_neg (fun q => q.1 e), ih2]
    · rw [if_neg e, pp_X_wish hB2 hC ho (by omega) (fun q => e q.symm)]
      by_cases e2 : fr k = true
      · rw [if_neg (fun q => q e2)]
        simp only [Option.bind_some]
        by_cases e3 : pp_ws s o k ≤ x
        · rw [if_pos e3, if_neg (fun q => absurd q.2.2 (Int32.not_lt.mpr e3)), ih2]
        · rw [if_neg e3, if_pos ⟨e, e2, Int32.not_le.mp e3⟩, ih1]
      · rw [if_pos e2, if_neg (fun q => e2 q.2.1), ih2]
theorem pp_X_choice {N : Nat} {s : Nat → Int32} {t : Nat} {μ : g_M} {fr : Nat → Bool} {o : Nat} (hN : 100 ≤ N) (hB : pp_B s) (hC : pp_C s μ) (ht : t ≤ 16) (ho : o < pp_n s) :
    f_X9_choiceOf N (pp_i o) (pp_i (pp_mk fr (pp_n s))) (pp_i t) μ = some (pp_i (pp_co s t fr o)) := by
  have hB2 := hB.2
  have hf := pp_fr_bit0 (fr := fr) hB2 rfl
  unfold f_X9_choiceOf pp_co
  rw [pp_ite (hf o ho), pp_X_will hB2 hC ht ho]
  simp only [Option.bind_some]
  by_cases hfo : fr o = true
  · rw [if_pos hfo, if_neg (fun q => q hfo)]
    by_cases e : pp_wl s t o = 2
    · rw [if_pos e, if_pos e]
      have := pp_X_choiceL (N := N) hB hC hf ho (pp_n s) N 0 6 3 (by omega) (by omega)
      rw [show (0 : Int32) = pp_i 0 from rfl, show (6 : Int32) = pp_i 6 from rfl, this]
      rfl
    · rw [if_neg e, if_neg e]
      have := pp_X_choiceL (N := N) hB hC hf ho (pp_n s) N 0 6 0 (by omega) (by omega)
      rw [show (6 : Int32) = pp_i 6 from rfl]
      rw [show (0 : Int32) = pp_i 0 from rfl] at this ⊢
      rw [this]
      rfl
  · rw [if_neg hfo, if_pos hfo]
    rfl
theorem pp_X_choices {N : Nat} {s : Nat → Int32} {t : Nat} {fr : Nat → Bool} {x4 : Int32} (hN : 200 ≤ N) (hB : pp_B s) (ht : t ≤ 16) : ∀ (m fuel o : Nat) (μ : g_M), o + m = pp_n s → m < fuel → pp_C s μ → (∀ k, k < o → μ 15 k = pp_i (pp_co s t fr k)) →
    ∃ μ1 : g_M, f_X9_after_L20 N fuel (pp_i t) x4 (pp_i (pp_mk fr (pp_n s))) (pp_i o) μ = some μ1 ∧ (∀ k, k < pp_n s → μ1 15 k = pp_i (pp_co s t fr k)) ∧ pp_F pp_Sc μ μ1 := by
  have hB2 := hB.2
  intro m
  induction m with
  | zero =>
    intro fuel o μ ho hf hC hk
    obtain ⟨k, rfl⟩ := pp_fu hf
    have h0 : μ 1 11 = pp_i (pp_n s) := hC.1.trans hB.1
    rw [f_X9_after_L20, h0, pp_ite (pp_ge (by omega) (by omega)), if_pos (by omega)]
    exact ⟨μ, rfl, fun k hk2 => hk k (by omega), pp_F.refl⟩
  | succ m ih =>
    intro fuel o μ ho hf hC hk
    obtain ⟨f, rfl⟩ := pp_fu hf
    have h0 : μ 1 11 = pp_i (pp_n s) := hC.1.trans hB.1
    rw [f_X9_after_L20, h0, pp_ite (pp_ge (by omega) (by omega)), if_neg (by omega), pp_X_choice (by omega) hB hC ht (by omega)]
    simp only [Option.bind_some]
    rw [pp_wr (by omega) (by decide), show pp_i o + 1 = pp_i (o + 1) from pp_add o 1]
    simp only [Option.bind_some]
    have hF : pp_F pp_Sc μ (g_set μ 15 o (pp_i (pp_co s t fr o))) := pp_F.set (by simp [pp_Sc])
    obtain ⟨μ1, i1, i2, i3⟩ := ih f (o + 1) (g_set μ 15 o (pp_i (pp_co s t fr o))) (by omega) (by omega) (hC.F hF) (fun k hk2 => by
      rw [pp_row]
      by_cases e : k = o
      · subst e; rw [pp_up_s]
      · rw [pp_up_n e, hk k (by omega)])
    exact ⟨μ1, i1, i2, hF.trans i3⟩
theorem pp_X_lessL {N : Nat} {s : Nat → Int32} {w : Nat → Nat} {μ : g_M} (hB : pp_B s) (hC : pp_C s μ) (hw : ∀ o, o < pp_n s → w o < 16) : ∀ (m fuel o : Nat), o + m = pp_n s → m < fuel →
    f_X9_oneLess_L4 N fuel (pp_i (pp_pk w (pp_n s))) (pp_i (pp_pk (fun k => if k < o then w k - 1 else w k) (pp_n s))) (pp_i o) μ = some (pp_i (pp_pk (fun k => w k - 1) (pp_n s))) := by
  have hB2 := hB.2
  have h0 : μ 1 11 = pp_i (pp_n s) := hC.1.trans hB.1
  intro m
  induction m with
  | zero =>
    intro fuel o ho hf
    obtain ⟨k, rfl⟩ := pp_fu hf
    rw [f_X9_oneLess_L4, h0, pp_ite (pp_ge (by omega) (by omega)), if_pos (by omega)]
    congr 2
    exact pp_pk_congr (fun k hk => by rw [if_pos (by omega)])
  | succ m ih =>
    intro fuel o ho hf
    obtain ⟨f, rfl⟩ := pp_fu hf
    have hlt := hw o (by omega)
    have hih := ih f (o + 1) (by omega) (by omega)
    rw [f_X9_oneLess_L4, h0, pp_ite (pp_ge (by omega) (by omega)), if_neg (by omega), pp_awp hB2 hw (by omega), pp_ite (pp_e0 (by omega)), show pp_i o + 1 = pp_i (o + 1) from pp_add o 1]
    have hup : pp_pk (fun k => if k < o + 1 then w k - 1 else w k) (pp_n s) = pp_pk (pp_up (fun k => if k < o then w k - 1 else w k) o (w o - 1)) (pp_n s) := by
      refine pp_pk_congr (fun k hk => ?_)
      unfold pp_up
      by_cases e : k = o
      · subst e; rw [if_pos rfl, if_pos (by omega)]
      · rw [if_neg e]
        dsimp only
        by_cases e2 : k < o
        · rw [if_pos e2, if_pos (by omega)]
        · rw [if_neg e2, if_neg (by omega)]
    have h2 := pp_pk_up (w := fun k => if k < o then w k - 1 else w k) (o := o) (v := w o - 1) (n := pp_n s) (by omega)
    rw [if_neg (Nat.lt_irrefl o)] at h2
    rw [hup] at hih
    by_cases c : w o = 0
    · rw [if_pos c]
      rw [c] at h2
      rw [show pp_pk (pp_up (fun k => if k < o then w k - 1 else w k) o (w o - 1)) (pp_n s) = pp_pk (fun k => if k < o then w k - 1 else w k) (pp_n s) by rw [c]; omega] at hih
      exact hih
    · rw [if_neg c]
      have e1 : ((1 : Int32) <<< ((4 * pp_i o) &&& 31)) = pp_i (1 * 16 ^ o) := pp_shl4 ⟨o, by omega⟩ ⟨1, by decide⟩
      have e2 : (w o - 1) * 16 ^ o + 1 * 16 ^ o = w o * 16 ^ o := by
        rw [← Nat.add_mul]
        congr 1
        omega
      rw [e1, pp_sub (by omega)]
      simp only [Option.bind_some]
      rw [show pp_pk (fun k => if k < o then w k - 1 else w k) (pp_n s) - 1 * 16 ^ o = pp_pk (pp_up (fun k => if k < o then w k - 1 else w k) o (w o - 1)) (pp_n s) by omega]
      exact hih
theorem pp_X_less {N : Nat} {s : Nat → Int32} {w : Nat → Nat} {μ : g_M} (hN : 200 ≤ N) (hB : pp_B s) (hC : pp_C s μ) (hw : ∀ o, o < pp_n s → w o < 16) : f_X9_oneLess N (pp_i (pp_pk w (pp_n s))) μ = some (pp_i (pp_pk (fun k => w k - 1) (pp_n s))) := by
  have hB2 := hB.2
  have := pp_X_lessL (N := N) hB hC hw (pp_n s) N 0 (by omega) (by omega)
  unfold f_X9_oneLess
  rw [pp_pk_congr (w := fun k => if k < 0 then w k - 1 else w k) (v := w) (fun k hk => if_neg (Nat.not_lt_zero k)), show pp_i 0 = (0 : Int32) from rfl] at this
  rw [this]
  rfl
theorem pp_X_abs {a b : Nat} (ha : a < 1000) (hb : b < 1000) : g_abs (pp_i a - pp_i b) = pp_i (pp_ap a b) := by
  unfold g_abs pp_ap
  by_cases h : b ≤ a
  · rw [pp_sub h, show (0 : Int32) = pp_i 0 from rfl, pp_ite (pp_le (by omega) (by omega)), if_pos (by omega), if_neg (by omega)]
  · have h1 : pp_i a - pp_i b = -(pp_i (b - a)) := by rw [← pp_sub (show a ≤ b by omega), Int32.neg_sub]
    have h2 : ¬ (0 : Int32) ≤ -(pp_i (b - a)) := by
      rw [Int32.le_iff_toInt_le]
      have h3 := pp_int (a := b - a) (by omega)
      have h4 : (-(pp_i (b - a))).toInt = -((b - a : Nat) : Int) := by
        rw [Int32.toInt_neg, h3, Int.bmod_eq_of_le (by omega) (by omega)]
      rw [h4]
      have h6 : (0 : Int32).toInt = 0 := rfl
      omega
    rw [h1, if_neg h2, if_pos (by omega), Int32.zero_sub, Int32.neg_neg]
/-- the mates so far, in class's second loop: those of whom the lower one lies below o -/
theorem pp_X_offL {N : Nat} {s : Nat → Int32} {t : Nat} {fr : Nat → Bool} {w1 : Nat → Nat} {μ : g_M} (hB : pp_B s) (hO : pp_O s) (hC : pp_C s μ) (hw : ∀ o, o < pp_n s → w1 o < 16) (hfr : ∀ o, o < pp_n s → fr o = true → w1 o = 0) (hk : ∀ k, k < pp_n s → μ 15 k = pp_i (pp_co s t fr k)) (nw : Nat → Nat)
    (hnw : ∀ o, o < pp_n s → nw o = if pp_gn (pp_n s) (pp_co s t fr) o = true then 2 + pp_ap (pp_pl s o) (pp_pl s (pp_co s t fr o)) / 4 else w1 o) :
    ∀ (m fuel o : Nat), o + m = pp_n s → m < fuel →
    f_X9_after_L54 N fuel (pp_i (pp_pk (fun k => if k < o ∨ pp_co s t fr k < o then nw k else w1 k) (pp_n s))) (pp_i o) μ = some (pp_i (pp_pk nw (pp_n s))) := by
  have hB2 := hB.2
  have h0 : μ 1 11 = pp_i (pp_n s) := hC.1.trans hB.1
  intro m
  induction m with
  | zero =>
    intro fuel o ho hf
    obtain ⟨k, rfl⟩ := pp_fu hf
    rw [f_X9_after_L54, h0, pp_ite (pp_ge (by omega) (by omega)), if_pos (by omega)]
    congr 2
    exact pp_pk_congr (fun k hk => by rw [if_pos (Or.inl (by omega))])
  | succ m ih =>
    intro fuel o ho hf
    obtain ⟨f, rfl⟩ := pp_fu hf
    have hih := ih f (o + 1) (by omega) (by omega)
    have hco := @pp_co_le s t o fr
    have q1 : g_rd μ 15 6 (pp_i o) = some (pp_i (pp_co s t fr o)) := by rw [pp_rd (by omega) (by decide), hk o (by omega)]
    rw [f_X9_after_L54, h0, pp_ite (pp_ge (by omega) (by omega)), if_neg (by omega), q1, show pp_i o + 1 = pp_i (o + 1) from pp_add o 1]
    simp only [Option.bind_some]
    rw [pp_ite (pp_le (by omega) (by omega)), pp_ite (pp_ge (by omega) (by omega))]
    -- the row stays the same unless o's mate is above it
    have same : (¬ (o < pp_co s t fr o ∧ pp_co s t fr o < pp_n s ∧ pp_co s t fr (pp_co s t fr o) = o)) → f_X9_after_L54 N f (pp_i (pp_pk (fun k => if k < o ∨ pp_co s t fr k < o then nw k else w1 k) (pp_n s))) (pp_i (o + 1)) μ = some (pp_i (pp_pk nw (pp_n s))) := by
      intro hno
      refine Eq.trans ?_ hih
      congr 2
      refine pp_pk_congr (fun k hk2 => ?_)
      by_cases c : k < o ∨ pp_co s t fr k < o
      · rw [if_pos c, if_pos (by omega)]
      · rw [if_neg c]
        by_cases c2 : k < o + 1 ∨ pp_co s t fr k < o + 1
        · rw [if_pos c2, hnw k hk2, if_neg]
          intro hg
          have hg := of_decide_eq_true hg
          have hck := @pp_co_le s t k fr
          by_cases e : k = o
          · subst e
            exact hno ⟨by omega, hg.2.1, hg.2.2⟩
          · have e2 : pp_co s t fr k = o := by omega
            have hg3 := hg.2.2
            rw [e2] at hg3
            exact hno ⟨by omega, by omega, by rw [hg3]; exact e2⟩
        · rw [if_neg c2]
    by_cases c1 : pp_co s t fr o ≤ o
    · rw [if_pos c1]
      exact same (fun q => by omega)
    · rw [if_neg c1]
      by_cases c2 : pp_n s ≤ pp_co s t fr o
      · rw [if_pos c2]
        exact same (fun q => by omega)
      · rw [if_neg c2]
        have q2 : g_rd μ 15 6 (pp_i (pp_co s t fr o)) = some (pp_i (pp_co s t fr (pp_co s t fr o))) := by rw [pp_rd (by omega) (by decide), hk _ (by omega)]
        have hco2 := @pp_co_le s t (pp_co s t fr o) fr
        rw [q2]
        simp only [Option.bind_some]
        rw [pp_ite (pp_eq (by omega) (by omega))]
        by_cases c3 : pp_co s t fr (pp_co s t fr o) = o
        · rw [if_pos c3]
          have hlt : pp_co s t fr o < pp_n s := by omega
          have ho' : o < pp_n s := by omega
          obtain ⟨p1, p2⟩ := pp_O_pl hO ho'
          obtain ⟨p3, p4⟩ := pp_O_pl hO hlt
          have q3 : g_rd μ 11 6 (pp_i o) = some (pp_i (pp_pl s o)) := by rw [pp_rd (by omega) (by decide), (hC.2.1 o ho').2.2.1, p1]
          have q4 : g_rd μ 11 6 (pp_i (pp_co s t fr o)) = some (pp_i (pp_pl s (pp_co s t fr o))) := by rw [pp_rd (by omega) (by decide), (hC.2.1 _ hlt).2.2.1, p3]
          rw [q3, q4]
          simp only [Option.bind_some]
          have hap := pp_ap_le p2 p4
          have hap2 := pp_ap_le p4 p2
          have hcomm : pp_ap (pp_pl s (pp_co s t fr o)) (pp_pl s o) = pp_ap (pp_pl s o) (pp_pl s (pp_co s t fr o)) := by
            unfold pp_ap
            split <;> split <;> omega
          have g1 : pp_gn (pp_n s) (pp_co s t fr) o = true := decide_eq_true ⟨ho', hlt, c3⟩
          have g2 : pp_gn (pp_n s) (pp_co s t fr) (pp_co s t fr o) = true := decide_eq_true ⟨hlt, by omega, by rw [c3]⟩
          have v1 := hnw o ho'
          rw [if_pos g1] at v1
          have v2 := hnw _ hlt
          rw [if_pos g2, c3, hcomm] at v2
          rw [pp_X_abs (by omega) (by omega)]
          have e9 : (2 + pp_i (pp_ap (pp_pl s o) (pp_pl s (pp_co s t fr o))) / 4 : Int32) = pp_i (nw o) := by
            rw [v1]
            simp (disch := omega) only [pp_lit, pp_div, pp_add]
          have b9 : nw o < 16 := by omega
          rw [e9]
          have s1 : (pp_i (nw o) <<< ((4 * pp_i o) &&& 31)) = pp_i (nw o * 16 ^ o) := pp_shl4 ⟨o, by omega⟩ ⟨nw o, b9⟩
          have s2 : (pp_i (nw o) <<< ((4 * pp_i (pp_co s t fr o)) &&& 31)) = pp_i (nw o * 16 ^ pp_co s t fr o) := pp_shl4 ⟨pp_co s t fr o, by omega⟩ ⟨nw o, b9⟩
          rw [s1, s2, pp_or, pp_or, ← Nat.or_assoc]
          -- neither is away as yet
          have fo : fr o = true := by
            rcases hco with h | h
            · omega
            · exact h.2.2.2
          have fk : fr (pp_co s t fr o) = true := by
            rcases hco with h | h
            · omega
            · exact h.2.2.1
          have z1 : (fun k => if k < o ∨ pp_co s t fr k < o then nw k else w1 k) o = 0 := by
            dsimp only
            rw [if_neg (by omega)]
            exact hfr o ho' fo
          have z2 : pp_up (fun k => if k < o ∨ pp_co s t fr k < o then nw k else w1 k) o (nw o) (pp_co s t fr o) = 0 := by
            rw [pp_up_n (by omega), if_neg (by omega)]
            exact hfr _ hlt fk
          have hb : ∀ k, k < pp_n s → (fun k => if k < o ∨ pp_co s t fr k < o then nw k else w1 k) k < 16 := by
            intro k hk2
            dsimp only
            split
            · rw [hnw k hk2]
              split
              · rename_i hg
                have hg := of_decide_eq_true hg
                have := pp_ap_le (pp_O_pl hO hk2).2 (pp_O_pl hO hg.2.1).2
                omega
              · exact hw k hk2
            · exact hw k hk2
          have hb2 : ∀ k, k < pp_n s → pp_up (fun k => if k < o ∨ pp_co s t fr k < o then nw k else w1 k) o (nw o) k < 16 := by
            intro k hk2
            by_cases e : k = o
            · subst e; rw [pp_up_s]; exact b9
            · rw [pp_up_n e]; exact hb k hk2
          rw [pp_pk_or (w := fun k => if k < o ∨ pp_co s t fr k < o then nw k else w1 k) (o := o) b9 z1 ho' hb, pp_pk_or (w := pp_up (fun k => if k < o ∨ pp_co s t fr k < o then nw k else w1 k) o (nw o)) (o := pp_co s t fr o) b9 z2 hlt hb2]
          refine Eq.trans ?_ hih
          congr 2
          refine pp_pk_congr (fun k hk2 => ?_)
          have hck := @pp_co_le s t k fr
          by_cases e2 : k = pp_co s t fr o
          · rw [e2, pp_up_s, c3, if_pos (Or.inr (by omega)), v2, v1]
          · rw [pp_up_n e2]
            by_cases e1 : k = o
            · subst e1
              rw [pp_up_s, if_pos (Or.inl (by omega))]
            · rw [pp_up_n e1]
              by_cases c : k < o ∨ pp_co s t fr k < o
              · rw [if_pos c, if_pos (by omega)]
              · rw [if_neg c]
                by_cases c4 : k < o + 1 ∨ pp_co s t fr k < o + 1
                · rw [if_pos c4, hnw k hk2, if_neg]
                  intro hg
                  have hg := of_decide_eq_true hg
                  have e5 : pp_co s t fr k = o := by omega
                  have hg3 := hg.2.2
                  rw [e5] at hg3
                  exact e2 hg3.symm
                · rw [if_neg c4]
        · rw [if_neg c3]
          exact same (fun q => c3 q.2.2)
theorem pp_X_after {N : Nat} {s : Nat → Int32} {t c : Nat} {w : Nat → Nat} {μ : g_M} (hN : 200 ≤ N) (hB : pp_B s) (hO : pp_O s) (hC : pp_C s μ) (ht : t ≤ 16) (hc : c < 64) (hw : ∀ o, o < pp_n s → w o < 16) :
    ∃ μ1 : g_M, f_X9_after N (pp_i (pp_pk w (pp_n s))) (pp_i t) (pp_i c) μ = some (pp_i (pp_pk (pp_nw s t w c) (pp_n s)), μ1) ∧ pp_F pp_Sc μ μ1 := by
  have hB2 := hB.2
  have hw' : ∀ o, o < pp_n s → (fun k => w k - 1) o < 16 := fun o ho => by have := hw o ho; dsimp only; omega
  obtain ⟨μ1, i1, i2, i3⟩ := pp_X_choices (N := N) (x4 := pp_i (pp_pk (fun k => w k - 1) (pp_n s))) (fr := pp_fr s t (fun k => w k - 1) c) hN hB ht (pp_n s) N 0 μ (by omega) (by omega) hC (fun k hk => absurd hk (Nat.not_lt_zero k))
  have j := pp_X_offL (N := N) (t := t) (fr := pp_fr s t (fun k => w k - 1) c) hB hO (hC.F i3) hw' (fun o _ h => (of_decide_eq_true h).1) i2 (pp_nw s t w c) (fun o _ => rfl) (pp_n s) N 0 (by omega) (by omega)
  rw [pp_pk_congr (w := fun k => if k < 0 ∨ pp_co s t (pp_fr s t (fun k => w k - 1) c) k < 0 then pp_nw s t w c k else w k - 1) (v := fun k => w k - 1) (fun k hk => if_neg (by omega)), show pp_i 0 = (0 : Int32) from rfl] at j
  rw [show pp_i 0 = (0 : Int32) from rfl] at i1
  refine ⟨μ1, ?_, i3⟩
  unfold f_X9_after
  rw [pp_X_less hN hB hC hw]
  simp only [Option.bind_some]
  rw [pp_X_free hN hB hC ht hc hw']
  simp only [Option.bind_some]
  rw [i1]
  simp only [Option.bind_some]
  rw [j]
  rfl
theorem pp_X_bakes {s : Nat → Int32} {t o : Nat} {μ : g_M} (hB2 : pp_n s ≤ 6) (hO : pp_O s) (hC : pp_C s μ) (ht : t < 1000) (ho : o < pp_n s) : f_X9_bakesOf (pp_i o) (pp_i t) μ = some (pp_bk s t o) := by
  obtain ⟨k, a, p, f, h1, h2, h3, h4, h5, h6, e1, e2, e3, e4⟩ := hO o ho
  obtain ⟨c1, c2, c3, c4⟩ := hC.2.1 o ho
  unfold f_X9_bakesOf pp_bk
  rw [pp_rd (by omega) (by decide), pp_rd (by omega) (by decide), c1, c4, e1, e4]
  simp only [Option.bind_some]
  unfold f_X10_bakes_4 f_X6_bakes_5 f_X1_bakes_6 f_X3_bakes_7 f_X5_bakes_8 f_X6_bakes_6 f_X3_bakes_4 f_X3_bakes_5 f_X3_bakes_6 f_X3_bakes_8
  have hk : k = 1 ∨ k = 2 ∨ k = 3 ∨ k = 4 ∨ k = 5 := by omega
  rcases hk with rfl | rfl | rfl | rfl | rfl
  · rfl
  · rw [if_neg (show ¬ pp_i 2 = (1 : Int32) by decide), if_pos (show pp_i 2 = (2 : Int32) from rfl), if_neg (show ¬ pp_i 2 = (1 : Int32) by decide), if_pos (show pp_i 2 = (2 : Int32) from rfl), Int32.mul_comm]
  · rw [if_neg (show ¬ pp_i 3 = (1 : Int32) by decide), if_neg (show ¬ pp_i 3 = (2 : Int32) by decide), if_pos (show pp_i 3 = (3 : Int32) from rfl), if_neg (show ¬ pp_i 3 = (1 : Int32) by decide), if_neg (show ¬ pp_i 3 = (2 : Int32) by decide), if_pos (show pp_i 3 = (3 : Int32) from rfl), Int32.mul_comm]
  · rfl
  · rw [if_neg (show ¬ pp_i 5 = (1 : Int32) by decide), if_neg (show ¬ pp_i 5 = (2 : Int32) by decide), if_neg (show ¬ pp_i 5 = (3 : Int32) by decide), if_neg (show ¬ pp_i 5 = (4 : Int32) by decide), if_pos (show pp_i 5 = (5 : Int32) from rfl), if_neg (show ¬ pp_i 5 = (1 : Int32) by decide), if_neg (show ¬ pp_i 5 = (2 : Int32) by decide), if_neg (show ¬ pp_i 5 = (3 : Int32) by decide), if_pos (show pp_i 5 = (5 : Int32) from rfl), pp_rem2 ht, pp_ite (pp_e0 (by omega))]
    by_cases q : t % 2 = 0
    · rw [if_pos q, if_neg (by omega)]
    · rw [if_neg q, if_pos (by omega)]
theorem pp_X_worthL {N : Nat} {s : Nat → Int32} {t : Nat} {w : Nat → Nat} {μ : g_M} (hB : pp_B s) (hO : pp_O s) (hC : pp_C s μ) (ht : t < 1000) (hw : ∀ o, o < pp_n s → w o < 16) : ∀ (m fuel o : Nat) (x : Int32), o + m = pp_n s → m < fuel →
    f_X9_worthOf_L5 N fuel (pp_i (pp_pk w (pp_n s))) (pp_i t) x (pp_i o) μ = some (pp_sum (pp_bk s t) (fun o => decide (w o = 0)) m o x) := by
  have hB2 := hB.2
  have h0 : μ 1 11 = pp_i (pp_n s) := hC.1.trans hB.1
  intro m
  induction m with
  | zero =>
    intro fuel o x ho hf
    obtain ⟨k, rfl⟩ := pp_fu hf
    rw [f_X9_worthOf_L5, h0, pp_ite (pp_ge (by omega) (by omega)), if_pos (by omega), pp_sum]
  | succ m ih =>
    intro fuel o x ho hf
    obtain ⟨f, rfl⟩ := pp_fu hf
    have hlt := hw o (by omega)
    rw [f_X9_worthOf_L5, h0, pp_ite (pp_ge (by omega) (by omega)), if_neg (by omega), pp_awp hB2 hw (by omega), pp_ite (pp_e0 (by omega)), pp_X_bakes hB2 hO hC ht (by omega), show pp_i o + 1 = pp_i (o + 1) from pp_add o 1, pp_sum]
    simp only [Option.bind_some]
    rw [ih f (o + 1) _ (by omega) (by omega), ih f (o + 1) _ (by omega) (by omega)]
    by_cases c : w o = 0
    · rw [if_pos c, if_pos (decide_eq_true c)]
    · rw [if_neg c, if_neg (by simpa using c)]
theorem pp_X_worth {N : Nat} {s : Nat → Int32} {t : Nat} {w : Nat → Nat} {μ : g_M} (hN : 200 ≤ N) (hB : pp_B s) (hO : pp_O s) (hC : pp_C s μ) (ht : t < 1000) (hw : ∀ o, o < pp_n s → w o < 16) : f_X9_worthOf N (pp_i (pp_pk w (pp_n s))) (pp_i t) μ = some (pp_wo s t w) := by
  have hB2 := hB.2
  have := pp_X_worthL (N := N) hB hO hC ht hw (pp_n s) N 0 0 (by omega) (by omega)
  unfold f_X9_worthOf
  rw [show pp_i 0 = (0 : Int32) from rfl] at this
  rw [this]
  rfl
