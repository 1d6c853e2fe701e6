/-! ===== span, liar ===== -/
def pp_fq (s : Nat → Int32) (ex c k : Nat) : Bool := pp_fa s (k / 10) (k % 10) ex c 0
def pp_fct (f : Nat → Bool) : Nat → Nat → Nat
  | 0, _ => 0
  | m + 1, k => (if f k = true then 1 else 0) + pp_fct f m (k + 1)
def pp_fst (f : Nat → Bool) : Nat → Nat → Nat
  | 0, k => k
  | m + 1, k => if f k = true then k else pp_fst f m (k + 1)
theorem pp_fct_le {f : Nat → Bool} : ∀ (m k : Nat), pp_fct f m k ≤ m ∧ k ≤ pp_fst f m k ∧ pp_fst f m k ≤ k + m ∧ ((pp_fct f m k = 0) = (pp_fst f m k = k + m))
  | 0, k => ⟨Nat.le_refl 0, Nat.le_refl k, Nat.le_refl k, propext ⟨fun _ => rfl, fun _ => rfl⟩⟩
  | m + 1, k => by
    obtain ⟨h1, h2, h3, h4⟩ := pp_fct_le (f := f) m (k + 1)
    rw [pp_fct, pp_fst]
    by_cases c : f k = true
    · rw [if_pos c, if_pos c]
      exact ⟨by omega, Nat.le_refl k, by omega, propext ⟨fun q => by omega, fun q => by omega⟩⟩
    · rw [if_neg c, if_neg c, Nat.zero_add]
      refine ⟨by omega, by omega, by omega, ?_⟩
      rw [h4]
      exact propext ⟨fun q => by omega, fun q => by omega⟩
theorem pp_X_ftL {N : Nat} {s : Nat → Int32} {μ : g_M} {c ex : Nat} (hN : 200 ≤ N) (h : pp_Rp s μ c) (he : ex ≤ 6) : ∀ (m n k t : Nat), k + m = 160 → m < n → f_X9_fitting_L4 N n (pp_i ex) (pp_i t) (pp_i k) μ = some (pp_i (t + pp_fct (pp_fq s ex c) m k))
  | 0, n, k, t, hk, hn => by
    obtain ⟨n, rfl⟩ : ∃ i, n = i + 1 := ⟨n - 1, by omega⟩
    rw [f_X9_fitting_L4, if_pos (show pp_i k ≥ (160 : Int32) by rw [show k = 160 by omega]; decide)]
    rfl
  | m + 1, n, k, t, hk, hn => by
    obtain ⟨n, rfl⟩ : ∃ i, n = i + 1 := ⟨n - 1, by omega⟩
    have ih := fun t => pp_X_ftL hN h he m n (k + 1) t (by omega) (by omega)
    have hge : (pp_i k ≥ (160 : Int32)) = (160 ≤ k) := pp_ge (b := 160) (by omega) (by omega)
    rw [f_X9_fitting_L4, if_neg (by rw [hge]; omega), show pp_i k / 10 = pp_i (k / 10) from pp_div (b := 10) (by omega) (by omega), show g_rem (pp_i k) 10 = pp_i (k % 10) from pp_rem (b := 10) (by omega) (by omega), pp_X_fits hN h (by omega) (by omega) he, show pp_i k + 1 = pp_i (k + 1) from pp_add k 1, show pp_i t + 1 = pp_i (t + 1) from pp_add t 1, ih, ih, pp_fct]
    simp only [Option.bind_some]
    show _ = some (pp_i (t + ((if pp_fa s (k / 10) (k % 10) ex c 0 = true then 1 else 0) + _)))
    cases hb : pp_fa s (k / 10) (k % 10) ex c 0 with
    | true => rw [if_pos rfl, if_pos rfl, if_neg (by decide), Nat.add_assoc]
    | false => rw [if_pos (show (if false = true then (1 : Int32) else 0) = 0 from rfl), if_neg (show ¬ (false = true) by decide), Nat.zero_add]
theorem pp_X_ffL {N : Nat} {s : Nat → Int32} {μ : g_M} {c ex : Nat} (hN : 200 ≤ N) (h : pp_Rp s μ c) (he : ex ≤ 6) : ∀ (m n k : Nat), k + m = 160 → m < n → f_X9_firstFitting_L2 N n (pp_i ex) (pp_i k) μ = some (if pp_fst (pp_fq s ex c) m k < 160 then .inl (pp_i (pp_fst (pp_fq s ex c) m k)) else .inr ())
  | 0, n, k, hk, hn => by
    obtain ⟨n, rfl⟩ : ∃ i, n = i + 1 := ⟨n - 1, by omega⟩
    rw [f_X9_firstFitting_L2, if_pos (show pp_i k ≥ (160 : Int32) by rw [show k = 160 by omega]; decide), pp_fst, if_neg (by omega)]
  | m + 1, n, k, hk, hn => by
    obtain ⟨n, rfl⟩ : ∃ i, n = i + 1 := ⟨n - 1, by omega⟩
    have ih := pp_X_ffL hN h he m n (k + 1) (by omega) (by omega)
    have hge : (pp_i k ≥ (160 : Int32)) = (160 ≤ k) := pp_ge (b := 160) (by omega) (by omega)
    rw [f_X9_firstFitting_L2, if_neg (by rw [hge]; omega), show pp_i k / 10 = pp_i (k / 10) from pp_div (b := 10) (by omega) (by omega), show g_rem (pp_i k) 10 = pp_i (k % 10) from pp_rem (b := 10) (by omega) (by omega), pp_X_fits hN h (by omega) (by omega) he, show pp_i k + 1 = pp_i (k + 1) from pp_add k 1, ih, pp_fst]
    simp only [Option.bind_some]
    rw [show pp_fq s ex c k = pp_fa s (k / 10) (k % 10) ex c 0 from rfl]
    cases hb : pp_fa s (k / 10) (k % 10) ex c 0 with
    | true => rw [if_pos rfl, if_neg (by decide), if_pos rfl, if_pos (by omega)]
    | false => rw [if_pos (show (if false = true then (1 : Int32) else 0) = 0 from rfl), if_neg (show ¬ (false = true) by decide)]
def pp_Sf (a b : Nat) : Bool := decide (a = 0 ∧ (b = 29 ∨ b = 30))
theorem pp_M_ffL {N : Nat} {s : Nat → Int32} {μX : g_M} {c ex : Nat} {e : Int32} (hN : 200 ≤ N) (h : pp_Rp s μX c) (he : ∀ i, i < 6 → (pp_i i = e) = (i = ex)) : ∀ (m n k t : Nat) (μ : g_M), k + m = 160 → m < n → μ 1 = s → μ 0 29 = pp_i t → t ≤ k →
    ∃ μ1 : g_M, f_X12_findsFits_L13 N n e (pp_i k) μ = some μ1 ∧ μ1 0 29 = pp_i (t + pp_fct (pp_fq s ex c) m k) ∧ μ1 0 30 = (if t = 0 ∧ pp_fst (pp_fq s ex c) m k < 160 then pp_i (pp_fst (pp_fq s ex c) m k) else μ 0 30) ∧ pp_F pp_Sf μ μ1
  | 0, n, k, t, μ, hk, hn, hs, h29, ht => by
    obtain ⟨n, rfl⟩ : ∃ i, n = i + 1 := ⟨n - 1, by omega⟩
    refine ⟨μ, ?_, h29, ?_, pp_F.refl⟩
    · rw [f_X12_findsFits_L13, if_pos (show pp_i k ≥ (160 : Int32) by rw [show k = 160 by omega]; decide)]
    · rw [pp_fst, if_neg (by omega)]
  | m + 1, n, k, t, μ, hk, hn, hs, h29, ht => by
    obtain ⟨n, rfl⟩ : ∃ i, n = i + 1 := ⟨n - 1, by omega⟩
    have hge : (pp_i k ≥ (160 : Int32)) = (160 ≤ k) := pp_ge (b := 160) (by omega) (by omega)
    have h0 : f_X12_findsFits_L13 N (n + 1) e (pp_i k) μ = if pp_fq s ex c k = true then (if t = 0 then f_X12_findsFits_L13 N n e (pp_i (k + 1)) (g_set (g_set μ 0 30 (pp_i k)) 0 29 (pp_i (t + 1))) else f_X12_findsFits_L13 N n e (pp_i (k + 1)) (g_set (g_set μ 0 30 (μ 0 30)) 0 29 (pp_i (t + 1)))) else f_X12_findsFits_L13 N n e (pp_i (k + 1)) μ := by
      rw [f_X12_findsFits_L13, if_neg (by rw [hge]; omega), show pp_i k / 10 = pp_i (k / 10) from pp_div (b := 10) (by omega) (by omega), show g_rem (pp_i k) 10 = pp_i (k % 10) from pp_rem (b := 10) (by omega) (by omega), pp_M_fit hN h hs (by omega) (by omega) he, show pp_i k + 1 = pp_i (k + 1) from pp_add k 1]
      simp only [Option.bind_some]
      rw [pp_set_n (show ¬ ((0 : Nat) = 0 ∧ 29 = 30) by decide), pp_set_n (show ¬ ((0 : Nat) = 0 ∧ 29 = 30) by decide), h29, show pp_i t + 1 = pp_i (t + 1) from pp_add t 1, pp_ite (pp_e0 (by omega)), show pp_fq s ex c k = pp_fa s (k / 10) (k % 10) ex c 0 from rfl]
      cases hb : pp_fa s (k / 10) (k % 10) ex c 0 with
      | true => rw [if_pos rfl, if_neg (by decide), if_pos rfl]
      | false => rw [if_pos (show (if false = true then (1 : Int32) else 0) = 0 from rfl), if_neg (show ¬ (false = true) by decide)]
    rw [h0, pp_fct, pp_fst]
    by_cases hb : pp_fq s ex c k = true
    · rw [if_pos hb, if_pos hb, if_pos hb]
      by_cases t0 : t = 0
      · rw [if_pos t0]
        obtain ⟨μ1, i1, i2, i3, i4⟩ := pp_M_ffL hN h he m n (k + 1) (t + 1) (g_set (g_set μ 0 30 (pp_i k)) 0 29 (pp_i (t + 1))) (by omega) (by omega) (by rw [pp_rowN (by decide), pp_rowN (by decide)]; exact hs) pp_set_s (by omega)
        refine ⟨μ1, i1, by rw [i2, Nat.add_assoc], ?_, ((pp_F.set (by decide)).trans (pp_F.set (by decide))).trans i4⟩
        rw [i3, if_neg (by omega), if_pos ⟨t0, by omega⟩, pp_set_n (by decide), pp_set_s]
      · rw [if_neg t0]
        obtain ⟨μ1, i1, i2, i3, i4⟩ := pp_M_ffL hN h he m n (k + 1) (t + 1) (g_set (g_set μ 0 30 (μ 0 30)) 0 29 (pp_i (t + 1))) (by omega) (by omega) (by rw [pp_rowN (by decide), pp_rowN (by decide)]; exact hs) pp_set_s (by omega)
        refine ⟨μ1, i1, by rw [i2, Nat.add_assoc], ?_, ((pp_F.set (by decide)).trans (pp_F.set (by decide))).trans i4⟩
        rw [i3, if_neg (by omega), if_neg (by omega), pp_set_n (by decide), pp_set_s]
    · rw [if_neg hb, if_neg hb, if_neg hb, Nat.zero_add]
      exact pp_M_ffL hN h he m n (k + 1) t μ (by omega) (by omega) hs h29 (by omega)
