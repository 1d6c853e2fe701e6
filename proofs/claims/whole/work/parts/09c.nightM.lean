/-! ===== the reference's night ===== -/
/-- row a another -/
def pp_rw (μ : g_M) (a : Nat) (f : Nat → Int32) : g_M := fun i => if i = a then f else μ i
theorem pp_rw_s {μ : g_M} {a : Nat} {f : Nat → Int32} : pp_rw μ a f a = f := if_pos rfl
theorem pp_rw_n {μ : g_M} {a i : Nat} {f : Nat → Int32} (h : i ≠ a) : pp_rw μ a f i = μ i := if_neg h
theorem pp_rw_rw {μ : g_M} {a : Nat} {f g : Nat → Int32} : pp_rw (pp_rw μ a f) a g = pp_rw μ a g := by
  funext i
  unfold pp_rw
  by_cases h : i = a
  · rw [if_pos h, if_pos h]
  · rw [if_neg h, if_neg h, if_neg h]
theorem pp_rw_sw {μ : g_M} {a b : Nat} {f g : Nat → Int32} (h : a ≠ b) : pp_rw (pp_rw μ a f) b g = pp_rw (pp_rw μ b g) a f := by
  funext i
  unfold pp_rw
  by_cases h1 : i = a
  · subst h1
    rw [if_neg h, if_pos rfl, if_pos rfl]
  · rw [if_neg h1, if_neg h1]
theorem pp_rw_id {μ : g_M} {a : Nat} {f : Nat → Int32} (h : μ a = f) : pp_rw μ a f = μ := by
  funext i
  unfold pp_rw
  by_cases h1 : i = a
  · rw [if_pos h1, h1, h]
  · rw [if_neg h1]
theorem pp_set_rw {μ : g_M} {a b : Nat} {v : Int32} : g_set μ a b v = pp_rw μ a (pp_up (μ a) b v) := by
  funext i
  unfold pp_rw
  by_cases h : i = a
  · subst h
    rw [if_pos rfl, pp_row]
  · rw [if_neg h, pp_rowN h]
/-- fuel that is there -/
theorem pp_fu {m N : Nat} (h : m < N) : ∃ k, N = k + 1 := ⟨N - 1, by omega⟩
/-- a town's row that can be read -/
def pp_B (s : Nat → Int32) : Prop := s 0 = pp_i (pp_n s) ∧ pp_n s ≤ 6
theorem pp_put_pn {s : Nat → Int32} {t : Nat} {w : Nat → Nat} {sc : Int32} : pp_n (pp_put s t w sc) = pp_n s := rfl
theorem pp_M_its {μ : g_M} {o i : Nat} (h : 8 + 5 * o + i < 544) : f_X12_its (pp_i o) (pp_i i) μ = some (μ 1 (8 + 5 * o + i)) := by
  unfold f_X12_its
  simp (disch := omega) only [pp_lit, pp_add, pp_mul, pp_rd, Option.bind_some]
theorem pp_M_less {N : Nat} {s : Nat → Int32} {t : Nat} {w0 : Nat → Nat} {sc c : Int32} (hB : pp_B s) (hw : ∀ o, o < pp_n s → w0 o < 16) : ∀ (m fuel o : Nat) (μ : g_M), o + m = pp_n s → m < fuel → μ 1 = pp_put s t (fun k => if k < o then w0 k - 1 else w0 k) sc →
    f_X12_goesBy_L2 N fuel c (pp_i o) μ = some (pp_rw μ 1 (pp_put s t (fun k => w0 k - 1) sc)) := by
  obtain ⟨hB1, hB2⟩ := hB
  intro m
  induction m with
  | zero =>
    intro fuel o μ ho hf h1
    obtain ⟨k, rfl⟩ := pp_fu hf
    have h0 : μ 1 0 = pp_i (pp_n s) := by rw [h1, pp_put_0, hB1]
    rw [f_X12_goesBy_L2, h0, pp_ite (pp_ge (by omega) (by omega)), if_pos (by omega), pp_rw_id]
    rw [h1]
    exact pp_put_congr (fun k hk => by rw [if_pos (by omega)])
  | succ m ih =>
    intro fuel o μ ho hf h1
    obtain ⟨k, rfl⟩ := pp_fu hf
    have h0 : μ 1 0 = pp_i (pp_n s) := by rw [h1, pp_put_0, hB1]
    have h4 : μ 1 (8 + 5 * o + 4) = pp_i (w0 o) := by rw [h1, pp_put_w (by omega), if_neg (Nat.lt_irrefl o)]
    have hlt := hw o (by omega)
    have hset : g_set μ 1 (8 + 5 * o + 4) (pp_i (w0 o - 1)) = pp_rw μ 1 (pp_put s t (fun k => if k < o + 1 then w0 k - 1 else w0 k) sc) := by
      rw [pp_set_rw, h1, pp_put_set (by omega)]
      congr 1
      refine pp_put_congr (fun k hk => ?_)
      unfold pp_up
      by_cases e : k = o
      · subst e
        rw [if_pos rfl, if_pos (by omega)]
      · rw [if_neg e]
        dsimp only
        by_cases e2 : k < o
        · rw [if_pos e2, if_pos (by omega)]
        · rw [if_neg e2, if_neg (by omega)]
    have hih := ih k (o + 1) (pp_rw μ 1 (pp_put s t (fun k => if k < o + 1 then w0 k - 1 else w0 k) sc)) (by omega) (by omega) pp_rw_s
    rw [pp_rw_rw] at hih
    have hits : f_X12_its (pp_i o) 4 μ = some (pp_i (w0 o)) := by rw [← h4]; exact pp_M_its (i := 4) (by omega)
    rw [f_X12_goesBy_L2, h0, pp_ite (pp_ge (by omega) (by omega)), if_neg (by omega), hits]
    simp (disch := omega) only [pp_lit, pp_add, pp_mul, pp_rd, h4, Option.bind_some, pp_le]
    by_cases e : w0 o ≤ 0
    · have e0 : w0 o = 0 := by omega
      rw [if_pos e]
      rw [e0] at hset ⊢
      simp (disch := omega) only [pp_sub, pp_wr, Option.bind_some]
      rw [hset]
      exact hih
    · rw [if_neg e]
      simp (disch := omega) only [pp_sub, pp_wr, Option.bind_some]
      rw [hset]
      exact hih
theorem pp_M_longs {N : Nat} {s : Nat → Int32} {t : Nat} {w : Nat → Nat} {sc : Int32} {μ : g_M} {o k : Nat} (h1 : μ 1 = pp_put s t w sc) (ho : o < 6) (hk : k < 6) : f_X12_longs (pp_i o) (pp_i k) μ = some (pp_ws s o k) := by
  have e1 : ∀ a i, a < 6 → i < 4 → f_X12_its (pp_i a) (pp_i i) μ = some (s (8 + 5 * a + i)) := by
    intro a i ha hi
    rw [pp_M_its (by omega), h1, pp_put_x hi]
  unfold f_X12_longs pp_ws
  simp (disch := omega) only [pp_lit, e1, Option.bind_some, pp_le]
  by_cases e : k ≤ o
  · rw [if_pos e, if_neg (by omega)]
  · rw [if_neg e, if_pos (by omega)]
theorem pp_M_choiceL {N : Nat} {s : Nat → Int32} {t : Nat} {w : Nat → Nat} {sc : Int32} {μ : g_M} {fr : Nat → Bool} {o : Nat} (hB : pp_B s) (h1 : μ 1 = pp_put s t w sc) (hf : ∀ k, k < pp_n s → ((((μ 0 7) >>> (pp_i k &&& 31)) &&& 1) = 1) = (fr k = true)) (ho : o < pp_n s) (hfo : fr o = true) :
    ∀ (m fuel k b : Nat) (x : Int32), k + m = pp_n s → m < fuel → f_X12_choice_L22 N fuel (pp_i o) (pp_i b) x (pp_i k) μ = some (pp_i (pp_cl s fr o m k b x)) := by
  obtain ⟨hB1, hB2⟩ := hB
  have h0 : μ 1 0 = pp_i (pp_n s) := by rw [h1, pp_put_0, hB1]
  intro m
  induction m with
  | zero =>
    intro fuel k b x hk hfu
    obtain ⟨f, rfl⟩ := pp_fu hfu
    rw [f_X12_choice_L22, h0, pp_ite (pp_ge (by omega) (by omega)), if_pos (by omega), pp_cl]
  | succ m ih =>
    intro fuel k b x hk hfu
    obtain ⟨f, rfl⟩ := pp_fu hfu
    have hl := pp_M_longs (N := N) h1 (show o < 6 by omega) (show k < 6 by omega)
    have hnx : pp_i k + 1 = pp_i (k + 1) := pp_add k 1
    have ih1 := ih f (k + 1) k (pp_ws s o k) (by omega) (by omega)
    have ih2 := ih f (k + 1) b x (by omega) (by omega)
    rw [f_X12_choice_L22, h0, pp_ite (pp_ge (by omega) (by omega)), if_neg (by omega), if_pos ((hf o ho).mpr hfo), pp_ite (hf k (by omega)), pp_ite (pp_eq (by omega) (by omega)), hl, hnx, pp_cl]
    by_cases e : k = o
    · rw [if_pos e, if_neg (fun q => q.1 e), ih2]
    · rw [if_neg e]
      by_cases e2 : fr k = true
      · rw [if_pos e2]
        simp only [Option.bind_some]
        by_cases e3 : pp_ws s o k ≤ x
        · rw [if_pos e3, if_neg (fun q => absurd q.2.2 (Int32.not_lt.mpr e3)), ih2]
        · rw [if_neg e3, if_pos ⟨e, e2, Int32.not_le.mp e3⟩, ih1]
      · rw [if_neg e2, if_neg (fun q => e2 q.2.1), ih2]
theorem pp_M_choice {N : Nat} {s : Nat → Int32} {t : Nat} {w : Nat → Nat} {sc : Int32} {μ : g_M} {fr : Nat → Bool} {o : Nat} (hN : 100 ≤ N) (hB : pp_B s) (h1 : μ 1 = pp_put s t w sc) (hf : ∀ k, k < pp_n s → ((((μ 0 7) >>> (pp_i k &&& 31)) &&& 1) = 1) = (fr k = true)) (h5 : μ 5 o = pp_wl s t o) (ho : o < pp_n s) :
    f_X12_choice N (pp_i o) μ = some (pp_i (pp_co s t fr o)) := by
  have h0 : μ 1 0 = pp_i (pp_n s) := by rw [h1, pp_put_0, hB.1]
  have hB2 := hB.2
  unfold f_X12_choice pp_co
  rw [pp_rd (by omega) (by decide), h5]
  simp only [Option.bind_some]
  by_cases hfo : fr o = true
  · rw [if_pos hfo]
    by_cases e : pp_wl s t o = 2
    · rw [if_pos e, if_pos e]
      have := pp_M_choiceL (N := N) hB h1 hf ho hfo (pp_n s) N 0 6 3 (by omega) (by omega)
      rw [show (0 : Int32) = pp_i 0 from rfl, show (6 : Int32) = pp_i 6 from rfl, this]
      rfl
    · rw [if_neg e, if_neg e]
      have := pp_M_choiceL (N := N) hB h1 hf ho hfo (pp_n s) N 0 6 0 (by omega) (by omega)
      rw [show (6 : Int32) = pp_i 6 from rfl]
      rw [show (0 : Int32) = pp_i 0 from rfl] at this ⊢
      rw [this]
      rfl
  · rw [if_neg hfo]
    have hz : ∀ x : Int32, f_X12_choice_L22 N N (pp_i o) 6 x 0 μ = some 6 := by
      intro x
      obtain ⟨f, rfl⟩ := pp_fu (show 0 < N by omega)
      rw [f_X12_choice_L22, h0, show (0 : Int32) = pp_i 0 from rfl, pp_ite (pp_ge (by omega) (by omega)), if_neg (by omega), if_neg (fun q => hfo ((hf o ho).mp q))]
    rw [hz, hz]
    simp only [Option.bind_some, ite_self]
    rfl
/-- RULES of s that can be read -/
def pp_R (s : Nat → Int32) : Prop := ∃ R S : Nat, R ≤ 8 ∧ S ≤ 150 ∧ s 5 = pp_i R ∧ s 7 = pp_i S ∧ ∀ r, r < R → ∃ b e k d : Nat, b ≤ e ∧ e ≤ S ∧ k ≤ 5 ∧ d ≤ 2 ∧ s (38 + 4 * r) = pp_i k ∧ s (38 + 4 * r + 1) = pp_i d ∧ s (38 + 4 * r + 2) = pp_i b ∧ s (38 + 4 * r + 3) = pp_i e
theorem pp_M_val {s : Nat → Int32} {t : Nat} {w : Nat → Nat} {sc : Int32} {μ : g_M} {o : Nat} {v : Int32} (h1 : μ 1 = pp_put s t w sc) (ho : o < 6) : f_X12_valueOf v (pp_i o) μ = some (pp_vl s t o v) := by
  have e1 : ∀ i, i < 4 → f_X12_its (pp_i o) (pp_i i) μ = some (s (8 + 5 * o + i)) := by
    intro i hi
    rw [pp_M_its (by omega), h1, pp_put_x hi]
  have q1 : f_X12_its (pp_i o) 1 μ = some (s (8 + 5 * o + 1)) := e1 1 (by omega)
  have q2 : f_X12_its (pp_i o) 2 μ = some (s (8 + 5 * o + 2)) := e1 2 (by omega)
  have q3 : f_X12_its (pp_i o) 3 μ = some (s (8 + 5 * o + 3)) := e1 3 (by omega)
  unfold f_X12_valueOf pp_vl
  rw [q1, q2, q3, h1, pp_put_1]
  simp only [Option.bind_some]
  split
  · rfl
  split
  · rfl
  split
  · rfl
  split
  · rfl
  split <;> rfl
theorem pp_M_run {N : Nat} {s : Nat → Int32} {t : Nat} {w : Nat → Nat} {sc : Int32} {μ : g_M} {o r e : Nat} (hB : pp_n s ≤ 6) (h1 : μ 1 = pp_put s t w sc) (ho : o < 6) (hr : r < 8) (he : s (38 + 4 * r + 3) = pp_i e) (he2 : e ≤ 150) :
    ∀ (m fuel k : Nat) (x : Int64), k + m = e → m < fuel → f_X12_holds_L17 N fuel (pp_i r) (pp_i o) x (pp_i k) μ = some (pp_run s t o m k x) := by
  have hs : ∀ j, 38 ≤ j → μ 1 j = s j := fun j hj => by rw [h1, pp_put_hi hB hj]
  intro m
  induction m with
  | zero =>
    intro fuel k x hk hfu
    obtain ⟨f, rfl⟩ := pp_fu hfu
    rw [f_X12_holds_L17]
    simp (disch := omega) only [pp_lit, pp_add, pp_mul, pp_rd, Option.bind_some, hs, he, pp_ge]
    rw [if_pos (by omega), pp_run]
  | succ m ih =>
    intro fuel k x hk hfu
    obtain ⟨f, rfl⟩ := pp_fu hfu
    have ih1 := fun x => ih f (k + 1) x (by omega) (by omega)
    have hv := fun v => pp_M_val (v := v) h1 ho
    have e1 : g_rd μ 1 544 (38 + 4 * pp_i r + 3) = some (pp_i e) := by
      simp (disch := omega) only [pp_lit, pp_add, pp_mul, pp_rd, hs, he]
    have e2 : g_rd μ 1 544 (94 + 3 * pp_i k) = some (s (94 + 3 * k)) := by
      simp (disch := omega) only [pp_lit, pp_add, pp_mul, pp_rd, hs]
    have e3 : g_rd μ 1 544 (94 + 3 * pp_i k + 1) = some (s (94 + 3 * k + 1)) := by
      simp (disch := omega) only [pp_lit, pp_add, pp_mul, pp_rd, hs]
    have e4 : g_rd μ 1 544 (94 + 3 * pp_i k + 2) = some (s (94 + 3 * k + 2)) := by
      simp (disch := omega) only [pp_lit, pp_add, pp_mul, pp_rd, hs]
    have e5 : pp_i k + 1 = pp_i (k + 1) := pp_add k 1
    rw [f_X12_holds_L17, e1, e2, e3, e4, e5]
    simp only [Option.bind_some, hv, ih1]
    rw [pp_ite (pp_ge (by omega) (by omega)), if_neg (by omega), pp_run, pp_st1, pp_cmp]
    generalize s (94 + 3 * k) = q
    by_cases c1 : q ≥ 3
    · have c1' : ¬ q < 3 := Int32.not_lt.mpr c1
      rw [if_pos c1, if_neg c1']
      by_cases c2 : q = 3
      · rw [if_pos c2, if_pos c2]
      · rw [if_neg c2, if_neg c2]
        by_cases c3 : q = 4
        · rw [if_pos c3, if_pos c3]
          split <;> rfl
        · rw [if_neg c3, if_neg c3]
    · have c1' : q < 3 := Int32.not_le.mp c1
      rw [if_neg c1, if_pos c1']
      by_cases c2 : q = 0
      · rw [if_pos c2, if_pos c2]
        split
        · rename_i c4
          rw [if_neg (by simpa using c4)]
        · rename_i c4
          rw [if_pos (by simpa using c4)]
      · rw [if_neg c2, if_neg c2]
        by_cases c3 : q = 1
        · rw [if_pos c3, if_pos c3]
          split
          · rename_i c4
            rw [if_pos (by simpa using c4)]
          · rename_i c4
            rw [if_neg (by simpa using c4)]
        · rw [if_neg c3, if_neg c3]
          split
          · rename_i c4
            rw [if_neg (by simpa using c4)]
          · rename_i c4
            rw [if_pos (by simpa using c4)]
theorem pp_M_hold {N : Nat} {s : Nat → Int32} {t : Nat} {w : Nat → Nat} {sc : Int32} {μ : g_M} {o r b e : Nat} (hN : 200 ≤ N) (hB : pp_n s ≤ 6) (h1 : μ 1 = pp_put s t w sc) (ho : o < 6) (hr : r < 8) (hb : s (38 + 4 * r + 2) = pp_i b) (he : s (38 + 4 * r + 3) = pp_i e) (hbe : b ≤ e) (he2 : e ≤ 150) :
    f_X12_holds N (pp_i r) (pp_i o) μ = some (if pp_hd s t o r = true then 1 else 0) := by
  have e1 : g_rd μ 1 544 (38 + 4 * pp_i r + 2) = some (pp_i b) := by
    simp (disch := omega) only [pp_lit, pp_add, pp_mul, pp_rd]
    rw [h1, pp_put_hi hB (by omega), hb]
  have h2 := pp_M_run (N := N) hB h1 ho hr he he2 (e - b) N b 1 (by omega) (by omega)
  unfold f_X12_holds pp_hd
  rw [e1, hb, he, pp_nat (by omega), pp_nat (by omega)]
  simp only [Option.bind_some, h2]
  split
  · rename_i c
    rw [if_pos (by simpa using c)]
  · rename_i c
    rw [if_neg (by simpa using c)]
theorem pp_M_willL {N : Nat} {s : Nat → Int32} {t : Nat} {w : Nat → Nat} {sc : Int32} {μ : g_M} {o R S : Nat} (hN : 200 ≤ N) (hB : pp_n s ≤ 6) (h1 : μ 1 = pp_put s t w sc) (ho : o < 6) (hR : R ≤ 8) (hS : S ≤ 150) (h5 : s 5 = pp_i R)
    (hr : ∀ r, r < R → ∃ b e k d : Nat, b ≤ e ∧ e ≤ S ∧ k ≤ 5 ∧ d ≤ 2 ∧ s (38 + 4 * r) = pp_i k ∧ s (38 + 4 * r + 1) = pp_i d ∧ s (38 + 4 * r + 2) = pp_i b ∧ s (38 + 4 * r + 3) = pp_i e) :
    ∀ (m fuel r : Nat), r + m = R → m < fuel → (match f_X12_will_L2 N fuel (pp_i o) (pp_i r) μ with | none => none | some (.inl q) => some q | some (.inr _) => some 0) = some (pp_wlL s t o m r) := by
  have h0 : μ 1 5 = pp_i R := by rw [h1, pp_put_n (by omega) (by omega) (by omega), h5]
  have hs : ∀ j, 38 ≤ j → μ 1 j = s j := fun j hj => by rw [h1, pp_put_hi hB hj]
  intro m
  induction m with
  | zero =>
    intro fuel r hk hfu
    obtain ⟨f, rfl⟩ := pp_fu hfu
    rw [f_X12_will_L2, h0, pp_ite (pp_ge (by omega) (by omega)), if_pos (by omega), pp_wlL]
  | succ m ih =>
    intro fuel r hk hfu
    obtain ⟨f, rfl⟩ := pp_fu hfu
    have ih1 := ih f (r + 1) (by omega) (by omega)
    obtain ⟨b, e, k, d, hbe, heS, hk5, hd2, g1, g2, g3, g4⟩ := hr r (by omega)
    have hh := pp_M_hold (N := N) (t := t) hN hB h1 ho (show r < 8 by omega) g3 g4 hbe (by omega)
    have q0 : f_X12_its (pp_i o) 0 μ = some (s (8 + 5 * o + 0)) := by
      rw [show (0 : Int32) = pp_i 0 from rfl, pp_M_its (by omega), h1, pp_put_x (by omega)]
    have e1 : g_rd μ 1 544 (38 + 4 * pp_i r) = some (s (38 + 4 * r)) := by
      simp (disch := omega) only [pp_lit, pp_add, pp_mul, pp_rd, hs]
    have e2 : g_rd μ 1 544 (38 + 4 * pp_i r + 1) = some (s (38 + 4 * r + 1)) := by
      simp (disch := omega) only [pp_lit, pp_add, pp_mul, pp_rd, hs]
    have e5 : pp_i r + 1 = pp_i (r + 1) := pp_add r 1
    rw [f_X12_will_L2, h0, pp_ite (pp_ge (by omega) (by omega)), if_neg (by omega), q0, e1, e2, hh, e5, pp_wlL]
    simp only [Option.bind_some]
    by_cases c1 : f_X12_isUnder (s (8 + 5 * o + 0)) (s (38 + 4 * r)) = 0
    · rw [if_pos c1, if_neg (fun q => q.1 c1)]
      exact ih1
    · rw [if_neg c1]
      by_cases c2 : pp_hd s t o r = true
      · rw [if_pos c2, if_neg (by decide), if_pos ⟨c1, c2⟩]
      · rw [if_neg c2, if_pos rfl, if_neg (fun q => c2 q.2)]
        exact ih1
theorem pp_M_will {N : Nat} {s : Nat → Int32} {t : Nat} {w : Nat → Nat} {sc : Int32} {μ : g_M} {o : Nat} (hN : 200 ≤ N) (hB : pp_n s ≤ 6) (hR : pp_R s) (h1 : μ 1 = pp_put s t w sc) (ho : o < 6) : f_X12_will N (pp_i o) μ = some (pp_wl s t o) := by
  obtain ⟨R, S, hR8, hS, h5, h7, hr⟩ := hR
  have h := pp_M_willL (N := N) (t := t) hN hB h1 ho hR8 hS h5 hr R N 0 (by omega) (by omega)
  unfold f_X12_will pp_wl
  rw [h5, pp_nat (by omega)]
  rw [show (0 : Int32) = pp_i 0 from rfl]
  cases hc : f_X12_will_L2 N N (pp_i o) (pp_i 0) μ with
  | none => rw [hc] at h; cases h
  | some q =>
    rw [hc] at h
    cases q with
    | inl q => exact h
    | inr q => exact h
