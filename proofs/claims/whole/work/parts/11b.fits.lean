/-! ===== what fits the reports ===== -/
def pp_fa (s : Nat → Int32) (x w ex : Nat) : Nat → Nat → Bool
  | 0, _ => true
  | m + 1, i => (decide (i = ex) || pp_so s i x w) && pp_fa s x w ex m (i + 1)
theorem pp_X_fitsL {N : Nat} {s : Nat → Int32} {μ : g_M} {c x w ex : Nat} (h : pp_Rp s μ c) (hx : x ≤ 15) (hw : w ≤ 9) (he : ex ≤ 6) : ∀ (m n i : Nat), i + m = c → m < n → f_X9_fits_L3 N n (pp_i x) (pp_i w) (pp_i ex) (pp_i i) μ = some (if pp_fa s x w ex m i = true then .inr () else .inl 0)
  | 0, n, i, hi, hn => by
    obtain ⟨n, rfl⟩ : ∃ k, n = k + 1 := ⟨n - 1, by omega⟩
    have hc := h.1
    rw [f_X9_fits_L3, h.2.2.1, pp_ite (pp_ge (by omega) (by omega)), if_pos (by omega)]
    rfl
  | m + 1, n, i, hi, hn => by
    obtain ⟨n, rfl⟩ : ∃ k, n = k + 1 := ⟨n - 1, by omega⟩
    have hc := h.1
    have ih := pp_X_fitsL (N := N) h hx hw he m n (i + 1) (by omega) (by omega)
    rw [f_X9_fits_L3, h.2.2.1, pp_ite (pp_ge (by omega) (by omega)), if_neg (by omega), show pp_i i + 1 = pp_i (i + 1) from pp_add i 1, pp_fa]
    by_cases c1 : i = ex
    · rw [if_pos (by rw [c1]), ih, decide_eq_true c1, Bool.true_or, Bool.true_and]
    · rw [if_neg (fun q => c1 (pp_inj (by omega) (by omega) q)), pp_X_so h (by omega) hx hw, decide_eq_false c1, Bool.false_or]
      simp only [Option.bind_some]
      cases hb : pp_so s i x w with
      | true => rw [if_pos rfl, if_neg (by decide), ih, Bool.true_and]
      | false =>
        rw [if_pos (show (if false = true then (1 : Int32) else 0) = 0 from rfl), Bool.false_and]
        rfl
theorem pp_X_fits {N : Nat} {s : Nat → Int32} {μ : g_M} {c x w ex : Nat} (hN : 200 ≤ N) (h : pp_Rp s μ c) (hx : x ≤ 15) (hw : w ≤ 9) (he : ex ≤ 6) : f_X9_fits N (pp_i x) (pp_i w) (pp_i ex) μ = some (if pp_fa s x w ex c 0 = true then 1 else 0) := by
  have hc := h.1
  have hL : f_X9_fits_L3 N N (pp_i x) (pp_i w) (pp_i ex) 0 μ = _ := pp_X_fitsL (N := N) h hx hw he c N 0 (by omega) (by omega)
  unfold f_X9_fits
  rw [hL]
  cases pp_fa s x w ex c 0 <;> rfl
theorem pp_M_fitL {N : Nat} {s : Nat → Int32} {μX μ : g_M} {c x w ex : Nat} {e : Int32} (h : pp_Rp s μX c) (hs : μ 1 = s) (hx : x ≤ 15) (hw : w ≤ 9) (he : ∀ i, i < 6 → (pp_i i = e) = (i = ex)) : ∀ (m n i : Nat) (v : Bool), i + m = c → m < n → f_X12_isFit_L6 N n (pp_i x) (pp_i w) e (if v = true then 1 else 0) (pp_i i) μ = some (if (v && pp_fa s x w ex m i) = true then 1 else 0)
  | 0, n, i, v, hi, hn => by
    obtain ⟨n, rfl⟩ : ∃ k, n = k + 1 := ⟨n - 1, by omega⟩
    have hc := h.1
    rw [f_X12_isFit_L6, hs, h.2.1, pp_ite (pp_ge (by omega) (by omega)), if_pos (by omega), pp_fa, Bool.and_true]
  | m + 1, n, i, v, hi, hn => by
    obtain ⟨n, rfl⟩ : ∃ k, n = k + 1 := ⟨n - 1, by omega⟩
    have hc := h.1
    have ih := fun v => pp_M_fitL (N := N) h hs hx hw he m n (i + 1) v (by omega) (by omega)
    have v1 : ((if v = true then (1 : Int32) else 0) &&& 1) = if v = true then 1 else 0 := by cases v <;> decide
    have v0 : ((if v = true then (1 : Int32) else 0) &&& 0) = if false = true then 1 else 0 := by cases v <;> decide
    rw [f_X12_isFit_L6, hs, h.2.1, pp_ite (pp_ge (by omega) (by omega)), if_neg (by omega), show pp_i i + 1 = pp_i (i + 1) from pp_add i 1, pp_fa, v1, v0]
    simp only [Option.bind_some]
    rw [pp_ite (he i (by omega))]
    by_cases c1 : i = ex
    · rw [if_pos c1, ih v, decide_eq_true c1, Bool.true_or, Bool.true_and]
    · rw [if_neg c1, decide_eq_false c1, Bool.false_or]
      rw [show (70 : Int32) + 4 * pp_i i = pp_i (70 + 4 * i) from by rw [show (4 : Int32) * pp_i i = pp_i (4 * i) from pp_mul 4 i]; exact pp_add 70 _]
      rw [show pp_i (70 + 4 * i) + 1 = pp_i (70 + 4 * i + 1) from pp_add _ 1, show pp_i (70 + 4 * i) + 2 = pp_i (70 + 4 * i + 2) from pp_add _ 2, show pp_i (70 + 4 * i) + 3 = pp_i (70 + 4 * i + 3) from pp_add _ 3, pp_rd (by omega) (by decide), pp_rd (by omega) (by decide), pp_rd (by omega) (by decide), pp_rd (by omega) (by decide), hs]
      simp only [Option.bind_some]
      rw [pp_M_in, pp_X_btw]
      cases hb : pp_so s i x w with
      | true =>
        have hb' := of_decide_eq_true hb
        rw [if_pos hb', if_neg (by decide), ih v, Bool.true_and]
      | false =>
        have hb' := of_decide_eq_false hb
        rw [if_neg hb', if_pos rfl, ih false, Bool.false_and, Bool.and_false]
theorem pp_M_fit {N : Nat} {s : Nat → Int32} {μX μ : g_M} {c x w ex : Nat} {e : Int32} (hN : 200 ≤ N) (h : pp_Rp s μX c) (hs : μ 1 = s) (hx : x ≤ 15) (hw : w ≤ 9) (he : ∀ i, i < 6 → (pp_i i = e) = (i = ex)) : f_X12_isFit N (pp_i x) (pp_i w) e μ = some (if pp_fa s x w ex c 0 = true then 1 else 0) := by
  have hc := h.1
  have hL : f_X12_isFit_L6 N N (pp_i x) (pp_i w) e 1 0 μ = _ := pp_M_fitL (N := N) h hs hx hw he c N 0 true (by omega) (by omega)
  unfold f_X12_isFit
  rw [hL, Bool.true_and]
  cases pp_fa s x w ex c 0 <;> rfl
