/-! ===== the reference's night, whole ===== -/
theorem pp_at1 {m o : Nat} (hm : m < 64) (ho : o < 7) : ((((pp_i m) >>> (pp_i o &&& 31)) &&& 1) = 1) = (m / 2 ^ o % 2 = 1) := by
  have h : (((pp_i m) >>> (pp_i o &&& 31)) &&& 1) = pp_i (m / 2 ^ o % 2) := pp_bit_at ⟨o, ho⟩ ⟨m, hm⟩
  have h2 : m / 2 ^ o % 2 < 2 := Nat.mod_lt _ (by decide)
  rw [h, show (1 : Int32) = pp_i 1 from rfl, pp_eq (by omega) (by omega)]
theorem pp_at0 {m o : Nat} (hm : m < 64) (ho : o < 7) : ((((pp_i m) >>> (pp_i o &&& 31)) &&& 1) = 0) = ¬ (m / 2 ^ o % 2 = 1) := by
  have h : (((pp_i m) >>> (pp_i o &&& 31)) &&& 1) = pp_i (m / 2 ^ o % 2) := pp_bit_at ⟨o, ho⟩ ⟨m, hm⟩
  have h2 : m / 2 ^ o % 2 < 2 := Nat.mod_lt _ (by decide)
  rw [h, show (0 : Int32) = pp_i 0 from rfl, pp_eq (by omega) (by omega)]
  exact propext ⟨fun q => by omega, fun q => by omega⟩
theorem pp_mk_64 {p : Nat → Bool} {n : Nat} (h : n ≤ 6) : pp_mk p n < 64 := by
  have h1 := pp_mk_lt p n
  have h2 : 2 ^ n ≤ 2 ^ 6 := Nat.pow_le_pow_right (by decide) h
  omega
theorem pp_mk_tb {p : Nat → Bool} {n j : Nat} : (pp_mk p n).testBit j = decide (j < n ∧ p j = true) := by
  rw [Nat.testBit_eq_decide_div_mod_eq, pp_mk_at]
  by_cases h : j < n ∧ p j = true
  · rw [if_pos h]; simp [h]
  · rw [if_neg h]; simp [h]
theorem pp_mk_or {p q : Nat → Bool} {n o k : Nat} (ho : o < n) (hk : k < n) (h : ∀ x, x < n → q x = (p x || decide (x = o) || decide (x = k))) : pp_mk p n ||| (2 ^ o ||| 2 ^ k) = pp_mk q n := by
  apply Nat.eq_of_testBit_eq
  intro j
  rw [Nat.testBit_or, Nat.testBit_or, Nat.testBit_two_pow, Nat.testBit_two_pow, pp_mk_tb, pp_mk_tb]
  by_cases hj : j < n
  · rw [h j hj]
    have d1 : decide (o = j) = decide (j = o) := by rw [decide_eq_decide]; exact eq_comm
    have d2 : decide (k = j) = decide (j = k) := by rw [decide_eq_decide]; exact eq_comm
    rw [d1, d2]
    generalize decide (j = o) = q1
    generalize decide (j = k) = q2
    generalize p j = q3
    cases q1 <;> cases q2 <;> cases q3 <;> simp [hj]
  · have e1 : ¬ o = j := by omega
    have e2 : ¬ k = j := by omega
    simp [hj, e1, e2]
theorem pp_mk_or1 {p : Nat → Bool} {o : Nat} (ho : o < 6) : (pp_i (pp_mk p o) ||| (1 <<< (pp_i o &&& 31))) = pp_i (pp_mk p o + 2 ^ o) := by
  have h := pp_mk_lt p o
  have h2 : pp_mk p o < 64 := pp_mk_64 (by omega)
  have h3 : (pp_i (pp_mk p o) ||| (1 <<< (pp_i o &&& 31))) = pp_i (pp_mk p o ||| 2 ^ o) := pp_bit_or ⟨o, ho⟩ ⟨pp_mk p o, h2⟩
  rw [h3]
  congr 1
  have := Nat.two_pow_add_eq_or_of_lt h 1
  rw [Nat.mul_one] at this
  rw [Nat.or_comm, ← this, Nat.add_comm]
theorem pp_or0 {m : Nat} (hm : m < 64) : (pp_i m ||| 0) = pp_i m := (pp_bit_oo ⟨0, by decide⟩ ⟨m, hm⟩).trans (by rw [Nat.or_zero])
/-- OVENS of s that can be read -/
def pp_O (s : Nat → Int32) : Prop := ∀ o, o < pp_n s → ∃ k a p f : Nat, 1 ≤ k ∧ k ≤ 5 ∧ a ≤ 9 ∧ p ≤ 15 ∧ 1 ≤ f ∧ f ≤ 9 ∧ s (8 + 5 * o + 0) = pp_i k ∧ s (8 + 5 * o + 1) = pp_i a ∧ s (8 + 5 * o + 2) = pp_i p ∧ s (8 + 5 * o + 3) = pp_i f
def pp_S57 (a b : Nat) : Bool := decide (a = 5 ∨ (a = 0 ∧ b = 7))
theorem pp_M_looksL {N : Nat} {s : Nat → Int32} {t : Nat} {w : Nat → Nat} {sc : Int32} {c : Nat} (hN : 200 ≤ N) (hB : pp_B s) (hR : pp_R s) (hc : c < 64) (hw : ∀ o, o < pp_n s → w o < 16) : ∀ (m fuel o : Nat) (μ : g_M), o + m = pp_n s → m < fuel → μ 1 = pp_put s t w sc → (∀ k, k < o → μ 5 k = pp_wl s t k) → μ 0 7 = pp_i (pp_mk (pp_fr s t w c) o) →
    ∃ μ1 : g_M, f_X12_looks_L7 N fuel (pp_i c) (pp_i o) μ = some μ1 ∧ (∀ k, k < pp_n s → μ1 5 k = pp_wl s t k) ∧ μ1 0 7 = pp_i (pp_mk (pp_fr s t w c) (pp_n s)) ∧ pp_F pp_S57 μ μ1 := by
  obtain ⟨hB1, hB2⟩ := hB
  intro m
  induction m with
  | zero =>
    intro fuel o μ ho hf h1 h5 h7
    obtain ⟨k, rfl⟩ := pp_fu hf
    have h0 : μ 1 0 = pp_i (pp_n s) := by rw [h1, pp_put_0, hB1]
    have e : o = pp_n s := by omega
    rw [f_X12_looks_L7, h0, pp_ite (pp_ge (by omega) (by omega)), if_pos (by omega)]
    subst e
    exact ⟨μ, rfl, h5, h7, pp_F.refl⟩
  | succ m ih =>
    intro fuel o μ ho hf h1 h5 h7
    obtain ⟨f, rfl⟩ := pp_fu hf
    have h0 : μ 1 0 = pp_i (pp_n s) := by rw [h1, pp_put_0, hB1]
    have hwl := pp_M_will hN hB2 hR h1 (show o < 6 by omega)
    have hlt := hw o (by omega)
    rw [f_X12_looks_L7, h0, pp_ite (pp_ge (by omega) (by omega)), if_neg (by omega), hwl, show pp_i o + 1 = pp_i (o + 1) from pp_add o 1]
    simp only [Option.bind_some]
    rw [pp_wr (by omega) (by decide)]
    simp only [Option.bind_some]
    generalize hμ5 : g_set μ 5 o (pp_wl s t o) = μ5
    have r1 : μ5 1 = pp_put s t w sc := by rw [← hμ5, pp_rowN (by decide), h1]
    have r0 : μ5 0 = μ 0 := by rw [← hμ5, pp_rowN (by decide)]
    have r5 : μ5 5 = pp_up (μ 5) o (pp_wl s t o) := by rw [← hμ5, pp_row]
    have rF : pp_F pp_S57 μ μ5 := by rw [← hμ5]; exact pp_F.set (by simp [pp_S57])
    have q4 : f_X12_its (pp_i o) 4 μ5 = some (pp_i (w o)) := by
      rw [show (4 : Int32) = pp_i 4 from rfl, pp_M_its (by omega), r1, pp_put_w (by omega)]
    have q5 : g_rd μ5 5 6 (pp_i o) = some (pp_wl s t o) := by rw [pp_rd (by omega) (by decide), r5, pp_up_s]
    rw [q4, q5, r0, h7]
    simp only [Option.bind_some]
    have key : ∀ v : Nat, v = pp_mk (pp_fr s t w c) (o + 1) → ∃ μ1 : g_M, f_X12_looks_L7 N f (pp_i c) (pp_i (o + 1)) (g_set μ5 0 7 (pp_i v)) = some μ1 ∧ (∀ k, k < pp_n s → μ1 5 k = pp_wl s t k) ∧ μ1 0 7 = pp_i (pp_mk (pp_fr s t w c) (pp_n s)) ∧ pp_F pp_S57 μ μ1 := by
      intro v hv
      have e1 : g_set μ5 0 7 (pp_i v) 1 = pp_put s t w sc := by rw [pp_rowN (by decide), r1]
      have e5 : ∀ k, k < o + 1 → g_set μ5 0 7 (pp_i v) 5 k = pp_wl s t k := by
        intro k hk
        rw [pp_rowN (by decide), r5]
        by_cases e : k = o
        · subst e; rw [pp_up_s]
        · rw [pp_up_n e, h5 k (by omega)]
      have e7 : g_set μ5 0 7 (pp_i v) 0 7 = pp_i (pp_mk (pp_fr s t w c) (o + 1)) := by rw [pp_set_s, hv]
      obtain ⟨μ1, i1, i2, i3, i4⟩ := ih f (o + 1) _ (by omega) (by omega) e1 e5 e7
      exact ⟨μ1, i1, i2, i3, (rF.trans (pp_F.set (by simp [pp_S57]))).trans i4⟩
    have hml : pp_mk (pp_fr s t w c) o < 64 := pp_mk_64 (by omega)
    have hor := pp_mk_or1 (p := pp_fr s t w c) (show o < 6 by omega)
    have hor0 := pp_or0 hml
    have hfr : pp_fr s t w c o = decide (w o = 0 ∧ c / 2 ^ o % 2 = 0 ∧ ¬ pp_wl s t o = 1) := rfl
    rw [pp_ite (pp_e0 (by omega)), pp_ite (pp_at0 hc (by omega)), hor, hor0]
    by_cases c1 : w o = 0
    · rw [if_pos c1]
      by_cases c2 : c / 2 ^ o % 2 = 1
      · rw [if_neg (fun q => q c2)]
        exact key _ (by rw [pp_mk, hfr, if_neg (by simp [c2]), Nat.add_zero])
      · rw [if_pos c2]
        by_cases c3 : pp_wl s t o = 1
        · rw [if_pos c3]
          exact key _ (by rw [pp_mk, hfr, if_neg (by simp [c3]), Nat.add_zero])
        · rw [if_neg c3]
          have c2' : c / 2 ^ o % 2 = 0 := by omega
          exact key _ (by rw [pp_mk, hfr, if_pos (by simp [c1, c2', c3])])
    · rw [if_neg c1]
      exact key _ (by rw [pp_mk, hfr, if_neg (by simp [c1]), Nat.add_zero])
theorem pp_M_looks {N : Nat} {s : Nat → Int32} {t : Nat} {w : Nat → Nat} {sc : Int32} {c : Nat} {μ : g_M} (hN : 200 ≤ N) (hB : pp_B s) (hR : pp_R s) (hc : c < 64) (hw : ∀ o, o < pp_n s → w o < 16) (h1 : μ 1 = pp_put s t w sc) :
    ∃ μ1 : g_M, f_X12_looks N (pp_i c) μ = some μ1 ∧ (∀ k, k < pp_n s → μ1 5 k = pp_wl s t k) ∧ μ1 0 7 = pp_i (pp_mk (pp_fr s t w c) (pp_n s)) ∧ pp_F pp_S57 μ μ1 := by
  have hB2 := hB.2
  obtain ⟨μ1, i1, i2, i3, i4⟩ := pp_M_looksL hN hB hR hc hw (pp_n s) N 0 (g_set μ 0 7 0) (by omega) (by omega) (by rw [pp_rowN (by decide), h1]) (fun k hk => absurd hk (Nat.not_lt_zero k)) (by rw [pp_set_s]; rfl)
  refine ⟨μ1, ?_, i2, i3, pp_F.trans (pp_F.set (by decide)) i4⟩
  unfold f_X12_looks
  simp only [Option.bind_some]
  rw [show (0 : Int32) = pp_i 0 from rfl] at i1 ⊢
  rw [i1]
  rfl
theorem pp_fr_bit {s : Nat → Int32} {fr : Nat → Bool} {x : Int32} (hB2 : pp_n s ≤ 6) (h7 : x = pp_i (pp_mk fr (pp_n s))) : ∀ k, k < pp_n s → (((x >>> (pp_i k &&& 31)) &&& 1) = 1) = (fr k = true) := by
  intro k hk
  rw [h7, pp_at1 (pp_mk_64 hB2) (by omega), pp_mk_at]
  by_cases h : fr k = true <;> simp [hk, h]
theorem pp_mk_b1 {p : Nat → Bool} {n o : Nat} (hn : n ≤ 6) (ho : o < n) : ((((pp_i (pp_mk p n)) >>> (pp_i o &&& 31)) &&& 1) = 1) = (p o = true) := by
  rw [pp_at1 (pp_mk_64 hn) (by omega), pp_mk_at]
  by_cases h : p o = true <;> simp [ho, h]
def pp_S15 (a b : Nat) : Bool := decide (a = 0 ∧ b = 15)
/-- who went off, of those whose mates lie below o too -/
def pp_gb (n : Nat) (co : Nat → Nat) (o x : Nat) : Bool := pp_gn n co x && decide (x < o ∧ co x < o)
theorem pp_M_went {N : Nat} {s : Nat → Int32} {t : Nat} {w : Nat → Nat} {sc : Int32} {fr : Nat → Bool} (hN : 200 ≤ N) (hB : pp_B s) : ∀ (m fuel o : Nat) (μ : g_M), o + m = pp_n s → m < fuel → μ 1 = pp_put s t w sc → (∀ k, k < pp_n s → μ 5 k = pp_wl s t k) → μ 0 7 = pp_i (pp_mk fr (pp_n s)) → μ 0 15 = pp_i (pp_mk (pp_gb (pp_n s) (pp_co s t fr) o) 6) →
    ∃ μ1 : g_M, f_X12_goesBy_L60 N fuel (pp_i o) μ = some μ1 ∧ μ1 0 15 = pp_i (pp_mk (pp_gn (pp_n s) (pp_co s t fr)) 6) ∧ pp_F pp_S15 μ μ1 := by
  have hB2 := hB.2
  intro m
  induction m with
  | zero =>
    intro fuel o μ ho hf h1 h5 h7 h15
    obtain ⟨k, rfl⟩ := pp_fu hf
    have h0 : μ 1 0 = pp_i (pp_n s) := by rw [h1, pp_put_0, hB.1]
    rw [f_X12_goesBy_L60, h0, pp_ite (pp_ge (by omega) (by omega)), if_pos (by omega)]
    refine ⟨μ, rfl, ?_, pp_F.refl⟩
    rw [h15]
    congr 1
    refine pp_mk_congr (fun x hx => ?_)
    unfold pp_gb pp_gn
    by_cases q : x < pp_n s ∧ pp_co s t fr x < pp_n s ∧ pp_co s t fr (pp_co s t fr x) = x
    · have q2 : x < o ∧ pp_co s t fr x < o := ⟨by omega, by omega⟩
      rw [decide_eq_true q, decide_eq_true q2]; rfl
    · rw [decide_eq_false q]; rfl
  | succ m ih =>
    intro fuel o μ ho hf h1 h5 h7 h15
    obtain ⟨f, rfl⟩ := pp_fu hf
    have h0 : μ 1 0 = pp_i (pp_n s) := by rw [h1, pp_put_0, hB.1]
    have hbit := pp_fr_bit hB2 h7
    have hch : ∀ x, x < pp_n s → f_X12_choice N (pp_i x) μ = some (pp_i (pp_co s t fr x)) := fun x hx => pp_M_choice (by omega) hB h1 hbit (h5 x hx) hx
    have hml : pp_mk (pp_gb (pp_n s) (pp_co s t fr) o) 6 < 64 := pp_mk_64 (by omega)
    have key : ∀ v : Nat, v = pp_mk (pp_gb (pp_n s) (pp_co s t fr) (o + 1)) 6 → ∃ μ1 : g_M, f_X12_goesBy_L60 N f (pp_i (o + 1)) (g_set μ 0 15 (pp_i v)) = some μ1 ∧ μ1 0 15 = pp_i (pp_mk (pp_gn (pp_n s) (pp_co s t fr)) 6) ∧ pp_F pp_S15 μ μ1 := by
      intro v hv
      obtain ⟨μ1, i1, i2, i3⟩ := ih f (o + 1) (g_set μ 0 15 (pp_i v)) (by omega) (by omega) (by rw [pp_rowN (by decide), h1]) (fun k hk => by rw [pp_rowN (by decide), h5 k hk]) (by rw [pp_set_n (by decide), h7]) (by rw [pp_set_s, hv])
      exact ⟨μ1, i1, i2, pp_F.trans (pp_F.set (by decide)) i3⟩
    rw [f_X12_goesBy_L60, h0, pp_ite (pp_ge (by omega) (by omega)), if_neg (by omega), hch o (by omega), show pp_i o + 1 = pp_i (o + 1) from pp_add o 1, h15]
    simp only [Option.bind_some]
    have hco := @pp_co_le s t o fr
    have hk7 : pp_co s t fr o < 7 := by omega
    rw [pp_ite (pp_ge (by omega) (by omega)), pp_or0 hml]
    by_cases c1 : o ≤ pp_co s t fr o
    · rw [if_pos c1]
      refine key _ (pp_mk_congr (fun x hx => ?_))
      unfold pp_gb pp_gn
      by_cases q : x < pp_n s ∧ pp_co s t fr x < pp_n s ∧ pp_co s t fr (pp_co s t fr x) = x
      · rw [decide_eq_true q]
        simp only [Bool.true_and, decide_eq_decide]
        constructor
        · intro q2; omega
        · intro q2
          have hx2 := @pp_co_le s t x fr
          refine ⟨?_, ?_⟩
          · rcases Nat.lt_or_ge x o with h | h
            · exact h
            · have e : x = o := by omega
              subst e; omega
          · rcases Nat.lt_or_ge (pp_co s t fr x) o with h | h
            · exact h
            · have e : pp_co s t fr x = o := by omega
              rw [e] at q; omega
      · rw [decide_eq_false q]; rfl
    · rw [if_neg c1, hch _ (by omega)]
      simp only [Option.bind_some]
      have hk2 := @pp_co_le s t (pp_co s t fr o) fr
      rw [pp_ite (pp_eq (by omega) (by omega))]
      by_cases c2 : pp_co s t fr (pp_co s t fr o) = o
      · rw [if_pos c2]
        have e1 : ((1 : Int32) <<< (pp_i o &&& 31)) = pp_i (2 ^ o) := pp_bit_shl ⟨o, by omega⟩
        have e2 : ((1 : Int32) <<< (pp_i (pp_co s t fr o) &&& 31)) = pp_i (2 ^ pp_co s t fr o) := pp_bit_shl ⟨pp_co s t fr o, by omega⟩
        have b1 : 2 ^ o < 64 := Nat.pow_lt_pow_right (a := 2) (n := 6) (by decide) (by omega)
        have b2 : 2 ^ pp_co s t fr o < 64 := Nat.pow_lt_pow_right (a := 2) (n := 6) (by decide) (by omega)
        have e3 : (pp_i (2 ^ o) ||| pp_i (2 ^ pp_co s t fr o)) = pp_i (2 ^ o ||| 2 ^ pp_co s t fr o) := pp_bit_oo ⟨_, b2⟩ ⟨_, b1⟩
        have b3 : 2 ^ o ||| 2 ^ pp_co s t fr o < 64 := Nat.or_lt_two_pow (n := 6) b1 b2
        have e4 : (pp_i (pp_mk (pp_gb (pp_n s) (pp_co s t fr) o) 6) ||| pp_i (2 ^ o ||| 2 ^ pp_co s t fr o)) = pp_i (pp_mk (pp_gb (pp_n s) (pp_co s t fr) o) 6 ||| (2 ^ o ||| 2 ^ pp_co s t fr o)) := pp_bit_oo ⟨_, b3⟩ ⟨_, hml⟩
        rw [e1, e2, e3, e4]
        refine key _ (pp_mk_or (by omega) (by omega) (fun x hx => ?_))
        unfold pp_gb pp_gn
        by_cases q : x < pp_n s ∧ pp_co s t fr x < pp_n s ∧ pp_co s t fr (pp_co s t fr x) = x
        · rw [decide_eq_true q]
          simp only [Bool.true_and]
          by_cases x1 : x = o
          · subst x1
            have : pp_co s t fr x < x + 1 := by omega
            simp [this]
          · by_cases x2 : x = pp_co s t fr o
            · have h2 : pp_co s t fr x = o := by rw [x2]; exact c2
              have hA : x < o + 1 ∧ pp_co s t fr x < o + 1 := ⟨by omega, by omega⟩
              rw [decide_eq_true hA, decide_eq_true x2, Bool.or_true]
            · have h2 : ¬ pp_co s t fr x = o := fun q2 => x2 (by rw [← q2]; exact q.2.2.symm)
              rw [decide_eq_false x1, decide_eq_false x2, Bool.or_false, Bool.or_false, decide_eq_decide]
              omega
        · rw [decide_eq_false q]
          have x1 : ¬ x = o := fun e => q (by subst e; exact ⟨by omega, by omega, c2⟩)
          have x2 : ¬ x = pp_co s t fr o := fun e => q (by rw [e, c2]; exact ⟨by omega, by omega, rfl⟩)
          simp [x1, x2]
      · rw [if_neg c2]
        refine key _ (pp_mk_congr (fun x hx => ?_))
        unfold pp_gb pp_gn
        by_cases q : x < pp_n s ∧ pp_co s t fr x < pp_n s ∧ pp_co s t fr (pp_co s t fr x) = x
        · rw [decide_eq_true q]
          simp only [Bool.true_and, decide_eq_decide]
          have x1 : ¬ x = o := fun e => by subst e; exact c2 q.2.2
          have x2 : ¬ pp_co s t fr x = o := fun e => by
            have h9 := q.2.2
            rw [e] at h9
            rw [h9] at c2
            exact c2 e
          omega
        · rw [decide_eq_false q]; rfl
theorem pp_M_ap {a b : Nat} (ha : a < 1000) (hb : b < 1000) : f_X12_apart (pp_i a) (pp_i b) = pp_i (pp_ap a b) := by
  unfold f_X12_apart pp_ap
  rw [pp_ite (pp_ge (by omega) (by omega))]
  by_cases h : b ≤ a
  · rw [if_pos h, if_neg (by omega), pp_sub h]
  · rw [if_neg h, if_pos (by omega), pp_sub (by omega)]
theorem pp_ap_le {a b k : Nat} (ha : a ≤ k) (hb : b ≤ k) : pp_ap a b ≤ k := by
  unfold pp_ap
  split <;> omega
theorem pp_O_pl {s : Nat → Int32} (hO : pp_O s) {o : Nat} (h : o < pp_n s) : s (8 + 5 * o + 2) = pp_i (pp_pl s o) ∧ pp_pl s o ≤ 15 := by
  obtain ⟨k, a, p, f, h1, h2, h3, h4, h5, h6, e1, e2, e3, e4⟩ := hO o h
  unfold pp_pl
  rw [e3, pp_nat (by omega)]
  exact ⟨rfl, h4⟩
theorem pp_M_put {N : Nat} {s : Nat → Int32} {t : Nat} {w0 : Nat → Nat} {sc : Int32} {fr : Nat → Bool} (hN : 200 ≤ N) (hB : pp_B s) (hO : pp_O s) (nw : Nat → Nat) (hnw : ∀ o, o < pp_n s → nw o = if pp_gn (pp_n s) (pp_co s t fr) o = true then 2 + pp_ap (pp_pl s o) (pp_pl s (pp_co s t fr o)) / 4 else w0 o) :
    ∀ (m fuel o : Nat) (μ : g_M), o + m = pp_n s → m < fuel → μ 1 = pp_put s t (fun k => if k < o then nw k else w0 k) sc → (∀ k, k < pp_n s → μ 5 k = pp_wl s t k) → μ 0 7 = pp_i (pp_mk fr (pp_n s)) → μ 0 15 = pp_i (pp_mk (pp_gn (pp_n s) (pp_co s t fr)) 6) →
    f_X12_goesBy_L118 N fuel (pp_i o) μ = some (pp_rw μ 1 (pp_put s t nw sc)) := by
  have hB2 := hB.2
  intro m
  induction m with
  | zero =>
    intro fuel o μ ho hf h1 h5 h7 h15
    obtain ⟨k, rfl⟩ := pp_fu hf
    have h0 : μ 1 0 = pp_i (pp_n s) := by rw [h1, pp_put_0, hB.1]
    rw [f_X12_goesBy_L118, h0, pp_ite (pp_ge (by omega) (by omega)), if_pos (by omega), pp_rw_id]
    rw [h1]
    exact pp_put_congr (fun k hk => by rw [if_pos (by omega)])
  | succ m ih =>
    intro fuel o μ ho hf h1 h5 h7 h15
    obtain ⟨f, rfl⟩ := pp_fu hf
    have h0 : μ 1 0 = pp_i (pp_n s) := by rw [h1, pp_put_0, hB.1]
    have hbit := pp_fr_bit hB2 h7
    have hch : ∀ x, x < pp_n s → f_X12_choice N (pp_i x) μ = some (pp_i (pp_co s t fr x)) := fun x hx => pp_M_choice (by omega) hB h1 hbit (h5 x hx) hx
    rw [f_X12_goesBy_L118, h0, pp_ite (pp_ge (by omega) (by omega)), if_neg (by omega), h15, pp_ite (pp_mk_b1 (by omega) (by omega)), show pp_i o + 1 = pp_i (o + 1) from pp_add o 1]
    have hw1 : ∀ v, v = nw o → pp_put s t (pp_up (fun k => if k < o then nw k else w0 k) o v) sc = pp_put s t (fun k => if k < o + 1 then nw k else w0 k) sc := by
      intro v hv
      refine pp_put_congr (fun k hk => ?_)
      unfold pp_up
      by_cases e : k = o
      · subst e; rw [if_pos rfl, if_pos (by omega), hv]
      · rw [if_neg e]
        dsimp only
        by_cases e2 : k < o
        · rw [if_pos e2, if_pos (by omega)]
        · rw [if_neg e2, if_neg (by omega)]
    by_cases hg : pp_gn (pp_n s) (pp_co s t fr) o = true
    · rw [if_pos hg, hch o (by omega)]
      simp only [Option.bind_some]
      have hco : pp_co s t fr o < pp_n s := (of_decide_eq_true hg).2.1
      obtain ⟨p1, p2⟩ := pp_O_pl hO (show o < pp_n s by omega)
      obtain ⟨p3, p4⟩ := pp_O_pl hO hco
      have q1 : f_X12_its (pp_i o) 2 μ = some (pp_i (pp_pl s o)) := by
        rw [show (2 : Int32) = pp_i 2 from rfl, pp_M_its (by omega), h1, pp_put_x (by omega), p1]
      have q2 : f_X12_its (pp_i (pp_co s t fr o)) 2 μ = some (pp_i (pp_pl s (pp_co s t fr o))) := by
        rw [show (2 : Int32) = pp_i 2 from rfl, pp_M_its (by omega), h1, pp_put_x (by omega), p3]
      rw [q1, q2]
      simp only [Option.bind_some]
      have hap := pp_ap_le p2 p4
      have hv := hnw o (by omega)
      rw [if_pos hg] at hv
      have e8 : (8 + 5 * pp_i o + 4 : Int32) = pp_i (8 + 5 * o + 4) := by
        simp only [pp_lit, pp_add, pp_mul]
      have e9 : (2 + pp_i (pp_ap (pp_pl s o) (pp_pl s (pp_co s t fr o))) / 4 : Int32) = pp_i (nw o) := by
        rw [hv]
        simp (disch := omega) only [pp_lit, pp_div, pp_add]
      rw [pp_M_ap (by omega) (by omega), e9, e8, pp_wr (by omega) (by decide)]
      simp only [Option.bind_some]
      have hih := ih f (o + 1) (g_set μ 1 (8 + 5 * o + 4) (pp_i (nw o))) (by omega) (by omega) (by rw [pp_row, h1, pp_put_set (by omega), hw1 _ rfl]) (fun k hk => by rw [pp_rowN (by decide), h5 k hk]) (by rw [pp_rowN (by decide), h7]) (by rw [pp_rowN (by decide), h15])
      rw [hih, pp_set_rw, pp_rw_rw]
    · rw [if_neg hg]
      have hv := hnw o (by omega)
      rw [if_neg hg] at hv
      refine ih f (o + 1) μ (by omega) (by omega) ?_ h5 h7 h15
      rw [h1, ← hw1 (w0 o) hv.symm]
      refine pp_put_congr (fun k hk => ?_)
      unfold pp_up
      by_cases e : k = o
      · subst e; rw [if_neg (by omega), if_pos rfl]
      · rw [if_neg e]
theorem pp_rem2 {t : Nat} (h : t < 1000) : g_rem (pp_i t) 2 = pp_i (t % 2) := by
  unfold g_rem
  simp (disch := omega) only [pp_lit, pp_div, pp_mul]
  rw [pp_sub (by omega)]
  congr 1
  omega
theorem pp_M_bakes {s : Nat → Int32} {t : Nat} {w : Nat → Nat} {sc : Int32} {μ : g_M} {o : Nat} (h1 : μ 1 = pp_put s t w sc) (ht : t < 1000) (ho : o < 6) : f_X12_bakes (pp_i o) μ = some (pp_bk s t o) := by
  have e1 : ∀ i, i < 4 → f_X12_its (pp_i o) (pp_i i) μ = some (s (8 + 5 * o + i)) := by
    intro i hi
    rw [pp_M_its (by omega), h1, pp_put_x hi]
  have q0 : f_X12_its (pp_i o) 0 μ = some (s (8 + 5 * o + 0)) := e1 0 (by omega)
  have q3 : f_X12_its (pp_i o) 3 μ = some (s (8 + 5 * o + 3)) := e1 3 (by omega)
  unfold f_X12_bakes pp_bk
  rw [q0, q3, h1, pp_put_1, pp_rem2 ht]
  simp only [Option.bind_some]
  rw [pp_ite (pp_e1 (by omega))]
  generalize s (8 + 5 * o + 0) = k
  by_cases c1 : k = 1
  · rw [if_pos c1, if_pos c1]
  rw [if_neg c1, if_neg c1]
  by_cases c2 : k = 2
  · rw [if_pos c2, if_pos c2]
  rw [if_neg c2, if_neg c2]
  by_cases c3 : k = 3
  · rw [if_pos c3, if_pos c3]
  rw [if_neg c3, if_neg c3]
  by_cases c4 : k = 4
  · rw [if_pos c4, if_neg (by rw [c4]; decide)]
  rw [if_neg c4]
  by_cases c5 : k = 5
  · rw [if_pos c5, if_pos c5]
    split <;> rfl
  rw [if_neg c5, if_neg c5]
theorem pp_M_sum {N : Nat} {s : Nat → Int32} {t : Nat} {w : Nat → Nat} {sc : Int32} {μ : g_M} (hB : pp_B s) (ht : t < 1000) (hw : ∀ o, o < pp_n s → w o < 16) (h1 : μ 1 = pp_put s t w sc) : ∀ (m fuel o : Nat) (x : Int32), o + m = pp_n s → m < fuel →
    f_X12_goesBy_L186 N fuel x (pp_i o) μ = some (pp_sum (pp_bk s t) (fun o => decide (w o = 0)) m o x) := by
  have hB2 := hB.2
  have h0 : μ 1 0 = pp_i (pp_n s) := by rw [h1, pp_put_0, hB.1]
  intro m
  induction m with
  | zero =>
    intro fuel o x ho hf
    obtain ⟨k, rfl⟩ := pp_fu hf
    rw [f_X12_goesBy_L186, h0, pp_ite (pp_ge (by omega) (by omega)), if_pos (by omega), pp_sum]
  | succ m ih =>
    intro fuel o x ho hf
    obtain ⟨f, rfl⟩ := pp_fu hf
    have hlt := hw o (by omega)
    have q4 : f_X12_its (pp_i o) 4 μ = some (pp_i (w o)) := by
      rw [show (4 : Int32) = pp_i 4 from rfl, pp_M_its (by omega), h1, pp_put_w (by omega)]
    rw [f_X12_goesBy_L186, h0, pp_ite (pp_ge (by omega) (by omega)), if_neg (by omega), q4, pp_M_bakes h1 ht (by omega), show pp_i o + 1 = pp_i (o + 1) from pp_add o 1, pp_sum]
    simp only [Option.bind_some]
    rw [pp_ite (pp_e0 (by omega)), ih f (o + 1) _ (by omega) (by omega), ih f (o + 1) _ (by omega) (by omega)]
    by_cases c : w o = 0
    · rw [if_pos c, if_pos (decide_eq_true c)]
    · rw [if_neg c, if_neg (by simpa using c), Int32.add_zero]
/-- what a night writes, of the reference's cells -/
def pp_SG (a b : Nat) : Bool := decide (a = 1 ∨ a = 5 ∨ (a = 0 ∧ b = 7) ∨ (a = 0 ∧ b = 15))
/-- who goes off -/
def pp_go (s : Nat → Int32) (t : Nat) (w : Nat → Nat) (c : Nat) (o : Nat) : Bool := pp_gn (pp_n s) (pp_co s t (pp_fr s t (fun k => w k - 1) c)) o
theorem pp_nw_lt {s : Nat → Int32} {t : Nat} {w : Nat → Nat} {c o : Nat} (hO : pp_O s) (ho : o < pp_n s) (hw : w o < 16) : pp_nw s t w c o < 16 := by
  unfold pp_nw
  split
  · rename_i h
    have h2 := (of_decide_eq_true h).2.1
    have := pp_ap_le (pp_O_pl hO ho).2 (pp_O_pl hO h2).2
    omega
  · omega
theorem pp_M_go {N : Nat} {s : Nat → Int32} {t : Nat} {w : Nat → Nat} {sc : Int32} {c : Nat} {μ : g_M} (hN : 200 ≤ N) (hB : pp_B s) (hR : pp_R s) (hO : pp_O s) (hc : c < 64) (ht : t < 1000) (hw : ∀ o, o < pp_n s → w o < 16) (h1 : μ 1 = pp_put s t w sc) :
    ∃ μ1 : g_M, f_X12_goesBy N (pp_i c) μ = some (pp_wo s t (pp_nw s t w c), μ1) ∧ μ1 1 = pp_put s (t + 1) (pp_nw s t w c) (sc + pp_wo s t (pp_nw s t w c)) ∧ μ1 0 15 = pp_i (pp_mk (pp_go s t w c) 6) ∧ pp_F pp_SG μ μ1 := by
  have hB2 := hB.2
  have hw' : ∀ o, o < pp_n s → w o - 1 < 16 := fun o ho => by have := hw o ho; omega
  have e1 := pp_M_less (N := N) (c := pp_i c) hB hw (pp_n s) N 0 μ (by omega) (by omega) (h1.trans (pp_put_congr (fun k _ => by rw [if_neg (Nat.not_lt_zero k)])))
  obtain ⟨μ2, l1, l2, l3, l4⟩ := pp_M_looks hN hB hR hc hw' (pp_rw_s (μ := μ) (a := 1) (f := pp_put s t (fun k => w k - 1) sc))
  have l5 : μ2 1 = pp_put s t (fun k => w k - 1) sc := (l4.row (fun b => by simp [pp_S57])).trans pp_rw_s
  obtain ⟨μ3, m1, m2, m3⟩ := pp_M_went (N := N) (sc := sc) (fr := pp_fr s t (fun k => w k - 1) c) hN hB (pp_n s) N 0 (g_set μ2 0 15 0) (by omega) (by omega) (by rw [pp_rowN (by decide), l5]) (fun k hk => by rw [pp_rowN (by decide), l2 k hk]) (by rw [pp_set_n (by decide), l3]) (by
    rw [pp_set_s]
    have : pp_mk (pp_gb (pp_n s) (pp_co s t (pp_fr s t (fun k => w k - 1) c)) 0) 6 = 0 := by
      have h9 : pp_mk (pp_gb (pp_n s) (pp_co s t (pp_fr s t (fun k => w k - 1) c)) 0) 6 = pp_mk (fun _ => false) 6 := pp_mk_congr (fun x _ => by simp [pp_gb])
      rw [h9]; rfl
    rw [this]; rfl)
  have m4 : μ3 1 = pp_put s t (fun k => w k - 1) sc := (m3.row (fun b => by simp [pp_S15])).trans (by rw [pp_rowN (by decide), l5])
  have m5 : μ3 5 = μ2 5 := (m3.row (fun b => by simp [pp_S15])).trans (by rw [pp_rowN (by decide)])
  have m7 : μ3 0 7 = μ2 0 7 := (m3 0 7 (by decide)).trans (by rw [pp_set_n (by decide)])
  have n1 := pp_M_put hN hB hO (pp_nw s t w c) (fun o ho => rfl) (pp_n s) N 0 μ3 (by omega) (by omega) (m4.trans (pp_put_congr (fun k _ => by rw [if_neg (Nat.not_lt_zero k)]))) (fun k hk => by rw [m5, l2 k hk]) (by rw [m7, l3]) m2
  have n2 := pp_M_sum (N := N) hB ht (fun o ho => pp_nw_lt (c := c) hO ho (hw o ho)) (pp_rw_s (μ := μ3) (a := 1) (f := pp_put s t (pp_nw s t w c) sc)) (pp_n s) N 0 0 (by omega) (by omega)
  rw [show pp_i 0 = (0 : Int32) from rfl] at e1 m1 n1 n2
  unfold f_X12_goesBy
  rw [e1]
  simp only [Option.bind_some]
  rw [l1]
  simp only [Option.bind_some]
  rw [m1]
  simp only [Option.bind_some]
  rw [n1]
  simp only [Option.bind_some]
  rw [n2]
  simp only [Option.bind_some]
  have hwo : pp_sum (pp_bk s t) (fun o => decide (pp_nw s t w c o = 0)) (pp_n s) 0 0 = pp_wo s t (pp_nw s t w c) := rfl
  rw [hwo, pp_rw_s, pp_put_1, show pp_i t + 1 = pp_i (t + 1) from pp_add t 1]
  refine ⟨_, rfl, ?_, ?_, ?_⟩
  · rw [pp_row, pp_row, pp_rw_s, pp_put_t, pp_put_c, pp_put_3]
  · rw [pp_set_n (by decide), pp_set_n (by decide), pp_rw_n (by decide), m2]
    rfl
  · intro a b hab
    unfold pp_SG at hab
    simp only [decide_eq_false_iff_not, not_or, not_and] at hab
    obtain ⟨a1, a5, a7, a15⟩ := hab
    rw [pp_set_n (fun q => a1 q.1), pp_set_n (fun q => a1 q.1), pp_rw_n a1, m3 a b (by simp [pp_S15]; exact a15), pp_set_n (fun q => a15 q.1 q.2), l4 a b (by simp [pp_S57]; exact ⟨a5, a7⟩), pp_rw_n a1]
