/-! ===== plans: what all of them come to ===== -/
def pp_sumN (f : Nat → Nat) (p : Nat → Bool) : Nat → Nat → Nat → Nat
  | 0, _, x => x
  | m + 1, k, x => pp_sumN f p m (k + 1) (if p k = true then x + f k else x)
theorem pp_sum_N {g : Nat → Int32} {f : Nat → Nat} {p : Nat → Bool} {n : Nat} (h : ∀ k, k < n → g k = pp_i (f k)) : ∀ (m k x : Nat), k + m = n → pp_sum g p m k (pp_i x) = pp_i (pp_sumN f p m k x)
  | 0, _, _, _ => rfl
  | m + 1, k, x, hk => by
    rw [pp_sum, pp_sumN]
    by_cases hp : p k = true
    · rw [if_pos hp, if_pos hp, h k (by omega), pp_add]
      exact pp_sum_N h m (k + 1) _ (by omega)
    · rw [if_neg hp, if_neg hp]
      exact pp_sum_N h m (k + 1) _ (by omega)
theorem pp_sumN_le {f : Nat → Nat} {p : Nat → Bool} {n b : Nat} (h : ∀ k, k < n → f k ≤ b) : ∀ (m k x : Nat), k + m = n → pp_sumN f p m k x ≤ x + b * m
  | 0, _, _, _ => by rw [pp_sumN]; omega
  | m + 1, k, x, hk => by
    rw [pp_sumN, Nat.mul_succ]
    have h1 := pp_sumN_le (p := p) h m (k + 1) (if p k = true then x + f k else x) (by omega)
    have h2 := h k (by omega)
    by_cases hp : p k = true
    · rw [if_pos hp] at h1 ⊢; omega
    · rw [if_neg hp] at h1 ⊢; omega
def pp_bkN (s : Nat → Int32) (t o : Nat) : Nat := (pp_bk s t o).toNatClampNeg
theorem pp_bk_N {s : Nat → Int32} {t o : Nat} (hO : pp_O s) (ho : o < pp_n s) : pp_bk s t o = pp_i (pp_bkN s t o) ∧ pp_bkN s t o ≤ 19 := by
  have key : ∀ b : Nat, b ≤ 19 → pp_bk s t o = pp_i b → pp_bk s t o = pp_i (pp_bkN s t o) ∧ pp_bkN s t o ≤ 19 := by
    intro b hb e
    unfold pp_bkN
    rw [e, pp_nat (by omega)]
    exact ⟨rfl, hb⟩
  obtain ⟨k, a, p, f, h1, h2, h3, h4, h5, h6, e1, e2, e3, e4⟩ := hO o ho
  have hd : pp_i f / 2 = pp_i (f / 2) := pp_div (b := 2) (by omega) (by omega)
  have hm : 2 * pp_i f = pp_i (2 * f) := pp_mul 2 f
  have hm1 : 2 * pp_i f + 1 = pp_i (2 * f + 1) := by rw [hm]; exact pp_add _ 1
  have hk : k = 1 ∨ k = 2 ∨ k = 3 ∨ k = 4 ∨ k = 5 := by omega
  by_cases q : t % 2 = 1
  · rcases hk with rfl | rfl | rfl | rfl | rfl
    · exact key (f / 2) (by omega) (by unfold pp_bk; rw [e1, e4, if_pos (show pp_i 1 = (1 : Int32) from rfl), hd])
    · exact key (2 * f) (by omega) (by unfold pp_bk; rw [e1, e4, if_neg (show ¬ pp_i 2 = (1 : Int32) by decide), if_pos (show pp_i 2 = (2 : Int32) from rfl), hm])
    · exact key (2 * f + 1) (by omega) (by unfold pp_bk; rw [e1, e4, if_neg (show ¬ pp_i 3 = (1 : Int32) by decide), if_neg (show ¬ pp_i 3 = (2 : Int32) by decide), if_pos (show pp_i 3 = (3 : Int32) from rfl), hm1])
    · exact key f (by omega) (by unfold pp_bk; rw [e1, e4, if_neg (show ¬ pp_i 4 = (1 : Int32) by decide), if_neg (show ¬ pp_i 4 = (2 : Int32) by decide), if_neg (show ¬ pp_i 4 = (3 : Int32) by decide), if_neg (show ¬ pp_i 4 = (5 : Int32) by decide)])
    · exact key 0 (by omega) (by unfold pp_bk; rw [e1, e4, if_neg (show ¬ pp_i 5 = (1 : Int32) by decide), if_neg (show ¬ pp_i 5 = (2 : Int32) by decide), if_neg (show ¬ pp_i 5 = (3 : Int32) by decide), if_pos (show pp_i 5 = (5 : Int32) from rfl), if_pos q]; rfl)
  · rcases hk with rfl | rfl | rfl | rfl | rfl
    · exact key (f / 2) (by omega) (by unfold pp_bk; rw [e1, e4, if_pos (show pp_i 1 = (1 : Int32) from rfl), hd])
    · exact key (2 * f) (by omega) (by unfold pp_bk; rw [e1, e4, if_neg (show ¬ pp_i 2 = (1 : Int32) by decide), if_pos (show pp_i 2 = (2 : Int32) from rfl), hm])
    · exact key (2 * f + 1) (by omega) (by unfold pp_bk; rw [e1, e4, if_neg (show ¬ pp_i 3 = (1 : Int32) by decide), if_neg (show ¬ pp_i 3 = (2 : Int32) by decide), if_pos (show pp_i 3 = (3 : Int32) from rfl), hm1])
    · exact key f (by omega) (by unfold pp_bk; rw [e1, e4, if_neg (show ¬ pp_i 4 = (1 : Int32) by decide), if_neg (show ¬ pp_i 4 = (2 : Int32) by decide), if_neg (show ¬ pp_i 4 = (3 : Int32) by decide), if_neg (show ¬ pp_i 4 = (5 : Int32) by decide)])
    · exact key f (by omega) (by unfold pp_bk; rw [e1, e4, if_neg (show ¬ pp_i 5 = (1 : Int32) by decide), if_neg (show ¬ pp_i 5 = (2 : Int32) by decide), if_neg (show ¬ pp_i 5 = (3 : Int32) by decide), if_pos (show pp_i 5 = (5 : Int32) from rfl), if_neg q])
def pp_woN (s : Nat → Int32) (t : Nat) (w : Nat → Nat) : Nat := pp_sumN (pp_bkN s t) (fun o => decide (w o = 0)) (pp_n s) 0 0
theorem pp_wo_N {s : Nat → Int32} {t : Nat} {w : Nat → Nat} (hB2 : pp_n s ≤ 6) (hO : pp_O s) : pp_wo s t w = pp_i (pp_woN s t w) ∧ pp_woN s t w ≤ 114 := by
  refine ⟨pp_sum_N (fun k hk => (pp_bk_N hO hk).1) (pp_n s) 0 0 (by omega), ?_⟩
  have := pp_sumN_le (p := fun o => decide (w o = 0)) (n := pp_n s) (b := 19) (fun k hk => (pp_bk_N (t := t) hO hk).2) (pp_n s) 0 0 (by omega)
  unfold pp_woN
  omega
/-- who is chained by an act -/
def pp_cc (a : Nat) : Nat := if a = 0 then 0 else 2 ^ (a - 1)
theorem pp_cc_64 {a : Nat} (h : a ≤ 6) : pp_cc a < 64 := by
  unfold pp_cc
  split
  · decide
  · exact Nat.pow_lt_pow_right (a := 2) (n := 6) (by decide) (by omega)
theorem pp_X_chain {a : Nat} (h : a ≤ 6) : f_X11_chainOf (pp_i a) = pp_i (pp_cc a) := by
  unfold f_X11_chainOf pp_cc
  rw [show (0 : Int32) = pp_i 0 from rfl, pp_ite (pp_gt (by omega) (by omega))]
  by_cases e : a = 0
  · rw [if_neg (by omega), if_pos e]
  · rw [if_pos (by omega), if_neg e, show (1 : Int32) = pp_i 1 from rfl, pp_sub (by omega)]
    exact pp_bit_shl ⟨a - 1, by omega⟩
/-- WORTH and 1, how many, the first's acts, fewest acts, homes -/
abbrev pp_PA : Type := Nat × Nat × List Nat × Nat × Nat
def pp_mg (a b : pp_PA) : pp_PA := (if a.1 < b.1 then b.1 else a.1, if a.1 < b.1 then b.2.1 else if a.1 = b.1 then a.2.1 + b.2.1 else a.2.1, if a.1 < b.1 then b.2.2.1 else a.2.2.1, if b.2.2.2.1 < a.2.2.2.1 then b.2.2.2.1 else a.2.2.2.1, a.2.2.2.2 ||| b.2.2.2.2)
def pp_sf (x c : Nat) (p : List Nat) (a : pp_PA) : pp_PA := (a.1 + x, a.2.1, p ++ a.2.2.1, c + a.2.2.2.1, a.2.2.2.2)
def pp_fo (g : Nat → pp_PA) : Nat → Nat → pp_PA → pp_PA
  | 0, _, acc => acc
  | m + 1, k, acc => pp_fo g m (k + 1) (pp_mg acc (g k))
def pp_z0 : pp_PA := (0, 0, [], 1000, 0)
theorem pp_mg_as (a b c : pp_PA) : pp_mg (pp_mg a b) c = pp_mg a (pp_mg b c) := by
  obtain ⟨a1, a2, a3, a4, a5⟩ := a
  obtain ⟨b1, b2, b3, b4, b5⟩ := b
  obtain ⟨c1, c2, c3, c4, c5⟩ := c
  unfold pp_mg
  dsimp only
  refine Prod.ext ?_ (Prod.ext ?_ (Prod.ext ?_ (Prod.ext ?_ ?_)))
  · dsimp only
    (repeat' split) <;> omega
  · dsimp only
    (repeat' split) <;> omega
  · dsimp only
    (repeat' split) <;> first | rfl | omega
  · dsimp only
    (repeat' split) <;> omega
  · dsimp only
    exact Nat.or_assoc _ _ _
theorem pp_sf_mg (x c : Nat) (p : List Nat) (a b : pp_PA) : pp_sf x c p (pp_mg a b) = pp_mg (pp_sf x c p a) (pp_sf x c p b) := by
  obtain ⟨a1, a2, a3, a4, a5⟩ := a
  obtain ⟨b1, b2, b3, b4, b5⟩ := b
  unfold pp_mg pp_sf
  dsimp only
  refine Prod.ext ?_ (Prod.ext ?_ (Prod.ext ?_ (Prod.ext ?_ ?_)))
  · dsimp only
    (repeat' split) <;> omega
  · dsimp only
    (repeat' split) <;> omega
  · dsimp only
    (repeat' split) <;> first | rfl | omega
  · dsimp only
    (repeat' split) <;> omega
  · rfl
theorem pp_sf_sf (x c x2 c2 : Nat) (p p2 : List Nat) (a : pp_PA) : pp_sf x c p (pp_sf x2 c2 p2 a) = pp_sf (x + x2) (c + c2) (p ++ p2) a := by
  unfold pp_sf
  dsimp only
  rw [List.append_assoc, Nat.add_assoc c, show a.1 + x2 + x = a.1 + (x + x2) by omega]
theorem pp_mg_z {b : pp_PA} (h1 : 1 ≤ b.1) (h2 : b.2.2.2.1 ≤ 1000) : pp_mg pp_z0 b = b := by
  obtain ⟨b1, b2, b3, b4, b5⟩ := b
  unfold pp_mg pp_z0
  dsimp only at h1 h2 ⊢
  rw [if_pos (by omega), if_pos (by omega), if_pos (by omega), Nat.zero_or]
  refine Prod.ext rfl (Prod.ext rfl (Prod.ext rfl (Prod.ext ?_ rfl)))
  dsimp only
  split <;> omega
theorem pp_mg_g2 {a b : pp_PA} : b.1 ≤ (pp_mg a b).1 := by
  unfold pp_mg
  dsimp only
  split <;> omega
theorem pp_fo_sf {g : Nat → pp_PA} {x c : Nat} {p : List Nat} : ∀ (m k : Nat) (acc b : pp_PA), pp_fo (fun a => pp_sf x c p (g a)) m k (pp_mg acc (pp_sf x c p b)) = pp_mg acc (pp_sf x c p (pp_fo g m k b))
  | 0, _, _, _ => rfl
  | m + 1, k, acc, b => by rw [pp_fo, pp_fo, pp_mg_as, ← pp_sf_mg, pp_fo_sf m (k + 1) acc]
theorem pp_fo_ge {g : Nat → pp_PA} : ∀ (m k : Nat) (acc : pp_PA), acc.1 ≤ (pp_fo g m k acc).1
  | 0, _, _ => Nat.le_refl _
  | m + 1, k, acc => by
    rw [pp_fo]
    refine Nat.le_trans ?_ (pp_fo_ge m (k + 1) _)
    unfold pp_mg
    dsimp only
    split <;> omega
theorem pp_fo_le {g : Nat → pp_PA} {b : Nat} {n : Nat} (h : ∀ k, k < n → (g k).1 ≤ b) : ∀ (m k : Nat) (acc : pp_PA), k + m = n → acc.1 ≤ b → (pp_fo g m k acc).1 ≤ b
  | 0, _, _, _, h2 => h2
  | m + 1, k, acc, hk, h2 => by
    rw [pp_fo]
    refine pp_fo_le h m (k + 1) _ (by omega) ?_
    have := h k (by omega)
    unfold pp_mg
    dsimp only
    split <;> omega
theorem pp_fo_fa {g : Nat → pp_PA} {b : Nat} : ∀ (m k : Nat) (acc : pp_PA), acc.2.2.2.1 ≤ b → (pp_fo g m k acc).2.2.2.1 ≤ b
  | 0, _, _, h2 => h2
  | m + 1, k, acc, h2 => by
    rw [pp_fo]
    refine pp_fo_fa m (k + 1) _ ?_
    unfold pp_mg
    dsimp only
    split <;> omega
theorem pp_fo_hm {g : Nat → pp_PA} {n : Nat} (h : ∀ k, k < n → (g k).2.2.2.2 < 64) : ∀ (m k : Nat) (acc : pp_PA), k + m = n → acc.2.2.2.2 < 64 → (pp_fo g m k acc).2.2.2.2 < 64
  | 0, _, _, _, h2 => h2
  | m + 1, k, acc, hk, h2 => by
    rw [pp_fo]
    exact pp_fo_hm h m (k + 1) _ (by omega) (Nat.or_lt_two_pow (n := 6) h2 (h k (by omega)))
theorem pp_fo_ln {g : Nat → pp_PA} {b : Nat} {n : Nat} (h : ∀ k, k < n → (g k).2.2.1.length = b ∧ 1 ≤ (g k).1) : ∀ (m k : Nat) (acc : pp_PA), k + m = n → (acc.1 = 0 ∨ acc.2.2.1.length = b) → ((pp_fo g m k acc).1 = 0 ∨ (pp_fo g m k acc).2.2.1.length = b)
  | 0, _, _, _, h2 => h2
  | m + 1, k, acc, hk, h2 => by
    rw [pp_fo]
    refine pp_fo_ln h m (k + 1) _ (by omega) ?_
    have h3 := h k (by omega)
    unfold pp_mg
    dsimp only
    by_cases c : acc.1 < (g k).1
    · rw [if_pos c, if_pos c]
      exact Or.inr h3.1
    · rw [if_neg c, if_neg c]
      exact h2
/-- a plan's end -/
def pp_lf (n wd : Nat) (w : Nat → Nat) : pp_PA := (1, 1, [], if wd &&& pp_hm n w = wd then 0 else 1000, pp_hm n w)
/-- what all plans of m come to, from t and w on -/
def pp_S (s : Nat → Int32) (wd : Nat) : Nat → Nat → (Nat → Nat) → pp_PA
  | 0, _, w => pp_lf (pp_n s) wd w
  | m + 1, t, w => if t < pp_e s then pp_fo (fun a => pp_sf (pp_woN s t (pp_nw s t w (pp_cc a))) (if a = 0 then 0 else 1) [a] (pp_S s wd m (t + 1) (pp_nw s t w (pp_cc a)))) (pp_n s + 1) 0 pp_z0 else pp_lf (pp_n s) wd w
theorem pp_S_over {s : Nat → Int32} {wd m t : Nat} {w : Nat → Nat} (h : ¬ t < pp_e s) : pp_S s wd m t w = pp_lf (pp_n s) wd w := by
  cases m with
  | zero => rfl
  | succ m => rw [pp_S, if_neg h]
theorem pp_S_ok {s : Nat → Int32} {wd : Nat} (hB2 : pp_n s ≤ 6) (hO : pp_O s) : ∀ (m t : Nat) (w : Nat → Nat), 1 ≤ (pp_S s wd m t w).1 ∧ (pp_S s wd m t w).1 ≤ 1 + 114 * m ∧ (pp_S s wd m t w).2.2.2.1 ≤ 1000 ∧ (pp_S s wd m t w).2.2.2.2 < 64 ∧ (pp_S s wd m t w).2.2.1.length = (if pp_e s - t < m then pp_e s - t else m) := by
  have leaf : ∀ (m t : Nat) (w : Nat → Nat), (¬ t < pp_e s ∨ m = 0) → 1 ≤ (pp_lf (pp_n s) wd w).1 ∧ (pp_lf (pp_n s) wd w).1 ≤ 1 + 114 * m ∧ (pp_lf (pp_n s) wd w).2.2.2.1 ≤ 1000 ∧ (pp_lf (pp_n s) wd w).2.2.2.2 < 64 ∧ (pp_lf (pp_n s) wd w).2.2.1.length = (if pp_e s - t < m then pp_e s - t else m) := by
    intro m t w h
    refine ⟨Nat.le_refl _, Nat.le_add_right _ _, ?_, pp_mk_64 hB2, ?_⟩
    · unfold pp_lf
      dsimp only
      split <;> omega
    · show 0 = _
      split <;> omega
  intro m
  induction m with
  | zero => exact fun t w => leaf 0 t w (Or.inr rfl)
  | succ m ih =>
    intro t w
    rw [pp_S]
    by_cases h : t < pp_e s
    · rw [if_pos h]
      have hg : ∀ a, a < pp_n s + 1 → 1 ≤ (pp_sf (pp_woN s t (pp_nw s t w (pp_cc a))) (if a = 0 then 0 else 1) [a] (pp_S s wd m (t + 1) (pp_nw s t w (pp_cc a)))).1 ∧ (pp_sf (pp_woN s t (pp_nw s t w (pp_cc a))) (if a = 0 then 0 else 1) [a] (pp_S s wd m (t + 1) (pp_nw s t w (pp_cc a)))).1 ≤ 1 + 114 * (m + 1) ∧ (pp_sf (pp_woN s t (pp_nw s t w (pp_cc a))) (if a = 0 then 0 else 1) [a] (pp_S s wd m (t + 1) (pp_nw s t w (pp_cc a)))).2.2.2.2 < 64 ∧ (pp_sf (pp_woN s t (pp_nw s t w (pp_cc a))) (if a = 0 then 0 else 1) [a] (pp_S s wd m (t + 1) (pp_nw s t w (pp_cc a)))).2.2.1.length = (if pp_e s - t < m + 1 then pp_e s - t else m + 1) := by
        intro a ha
        obtain ⟨i1, i2, i3, i4, i5⟩ := ih (t + 1) (pp_nw s t w (pp_cc a))
        have hw := (pp_wo_N (t := t) (w := pp_nw s t w (pp_cc a)) hB2 hO).2
        unfold pp_sf
        dsimp only
        refine ⟨by omega, by omega, i4, ?_⟩
        rw [List.length_append, i5, List.length_singleton]
        (repeat' split) <;> omega
      have h1 := pp_fo_ge (g := fun a => pp_sf (pp_woN s t (pp_nw s t w (pp_cc a))) (if a = 0 then 0 else 1) [a] (pp_S s wd m (t + 1) (pp_nw s t w (pp_cc a)))) (pp_n s) 1 (pp_mg pp_z0 (pp_sf (pp_woN s t (pp_nw s t w (pp_cc 0))) (if 0 = 0 then 0 else 1) [0] (pp_S s wd m (t + 1) (pp_nw s t w (pp_cc 0)))))
      have h2 := (hg 0 (by omega)).1
      have h3 : 1 ≤ (pp_mg pp_z0 (pp_sf (pp_woN s t (pp_nw s t w (pp_cc 0))) (if 0 = 0 then 0 else 1) [0] (pp_S s wd m (t + 1) (pp_nw s t w (pp_cc 0))))).1 := Nat.le_trans h2 pp_mg_g2
      have h4 : 1 ≤ (pp_fo (fun a => pp_sf (pp_woN s t (pp_nw s t w (pp_cc a))) (if a = 0 then 0 else 1) [a] (pp_S s wd m (t + 1) (pp_nw s t w (pp_cc a)))) (pp_n s + 1) 0 pp_z0).1 := by
        rw [pp_fo]
        exact Nat.le_trans h3 h1
      refine ⟨h4, pp_fo_le (n := pp_n s + 1) (fun k hk => (hg k hk).2.1) (pp_n s + 1) 0 pp_z0 (by omega) (Nat.zero_le _), pp_fo_fa _ _ _ (Nat.le_refl 1000), pp_fo_hm (n := pp_n s + 1) (fun k hk => (hg k hk).2.2.1) (pp_n s + 1) 0 pp_z0 (by omega) (by decide), ?_⟩
      rcases pp_fo_ln (n := pp_n s + 1) (fun k hk => ⟨(hg k hk).2.2.2, (hg k hk).1⟩) (pp_n s + 1) 0 pp_z0 (by omega) (Or.inl rfl) with h5 | h5
      · omega
      · exact h5
    · rw [if_neg h]
      exact leaf (m + 1) t w (Or.inl h)
