/-! ===== WILL, by the class ===== -/
def pp_rn (q : Nat → Int32) (c : Nat → Bool) : Nat → Nat → Nat → Nat
  | 0, _, x => x
  | m + 1, k, x => pp_rn q c m (k + 1) (pp_ns (q k) (c k) x)
/-- all that stands below 2 ^ 20 -/
def pp_ok (q : Nat → Int32) (c : Nat → Bool) : Nat → Nat → Nat → Prop
  | 0, _, x => x < 2 ^ 20
  | m + 1, k, x => x < 2 ^ 20 ∧ pp_ok q c m (k + 1) (pp_ns (q k) (c k) x)
theorem pp_rn_app {q : Nat → Int32} {c : Nat → Bool} : ∀ (a b k x : Nat), pp_rn q c (a + b) k x = pp_rn q c b (k + a) (pp_rn q c a k x)
  | 0, b, k, x => by rw [Nat.zero_add]; rfl
  | a + 1, b, k, x => by rw [show a + 1 + b = (a + b) + 1 by omega, pp_rn, pp_rn, pp_rn_app a b, show k + 1 + a = k + (a + 1) by omega]
theorem pp_ok_app {q : Nat → Int32} {c : Nat → Bool} : ∀ (a b k x : Nat), pp_ok q c a k x → pp_ok q c b (k + a) (pp_rn q c a k x) → pp_ok q c (a + b) k x
  | 0, b, k, x, _, h2 => by rw [Nat.zero_add]; exact h2
  | a + 1, b, k, x, h1, h2 => by
    rw [show a + 1 + b = (a + b) + 1 by omega, pp_ok]
    rw [pp_ok] at h1
    rw [show k + (a + 1) = k + 1 + a by omega] at h2
    exact ⟨h1.1, pp_ok_app a b (k + 1) _ h1.2 h2⟩
theorem pp_ok_hd {q : Nat → Int32} {c : Nat → Bool} {m k x : Nat} (h : pp_ok q c m k x) : x < 2 ^ 20 := by
  cases m with
  | zero => exact h
  | succ m => exact h.1
theorem pp_ok_end {q : Nat → Int32} {c : Nat → Bool} : ∀ {m k x : Nat}, pp_ok q c m k x → pp_rn q c m k x < 2 ^ 20
  | 0, _, _, h => h
  | m + 1, _, _, h => pp_ok_end (m := m) h.2
/-- a part of the steps that leaves one answer more; it needs h bits at most -/
def pp_gd (q : Nat → Int32) (h b m : Nat) : Prop := h ≤ 19 ∧ ∀ (c : Nat → Bool) (x : Nat), x < 2 ^ (20 - h) → pp_ok q c m b x ∧ ∃ v : Nat, v < 2 ∧ pp_rn q c m b x = 2 * x + v
theorem pp_gd_mono {q : Nat → Int32} {h h2 b m : Nat} (hg : pp_gd q h b m) (hh : h ≤ h2) (h19 : h2 ≤ 19) : pp_gd q h2 b m :=
  ⟨h19, fun c x hx => hg.2 c x (Nat.lt_of_lt_of_le hx (Nat.pow_le_pow_right (by decide) (by omega)))⟩
theorem pp_gd_cmp {q : Nat → Int32} {b : Nat} (hq : q b < 3) : pp_gd q 1 b 1 := by
  refine ⟨by decide, fun c x hx => ?_⟩
  have hx : x < 2 ^ 19 := hx
  have e : pp_ns (q b) (c b) x = 2 * x + (if c b = true then 1 else 0) := if_pos hq
  have hv : (if c b = true then 1 else 0) < 2 := by split <;> decide
  refine ⟨⟨by omega, ?_⟩, ⟨_, hv, e⟩⟩
  rw [e]
  show _ < 2 ^ 20
  omega
theorem pp_gd_not {q : Nat → Int32} {h b m : Nat} (hg : pp_gd q h b m) (hq : q (b + m) = 3) : pp_gd q h b (m + 1) := by
  refine ⟨hg.1, fun c x hx => ?_⟩
  obtain ⟨h1, v, hv, e⟩ := hg.2 c x hx
  have hb : 2 * x + v < 2 ^ 20 := by
    have := pp_ok_end h1
    rw [e] at this
    exact this
  have e2 : pp_ns (q (b + m)) (c (b + m)) (2 * x + v) = 2 * x + (1 - v) := by
    unfold pp_ns
    rw [if_neg (by rw [hq]; decide), if_pos hq]
    split <;> omega
  refine ⟨pp_ok_app m 1 b x h1 ?_, 1 - v, by omega, ?_⟩
  · rw [e]
    refine ⟨hb, ?_⟩
    rw [e2]
    show _ < 2 ^ 20
    have : 2 ^ 20 % 2 = 0 := rfl
    omega
  · rw [pp_rn_app m 1, e]
    exact e2
theorem pp_gd_two {q : Nat → Int32} {h1 h2 h b m1 m2 : Nat} (g1 : pp_gd q h1 b m1) (g2 : pp_gd q h2 (b + m1) m2) (hh1 : h1 ≤ h) (hh2 : h2 + 1 ≤ h) (hh : h ≤ 19) (hq : ¬ q (b + m1 + m2) < 3) (hq3 : ¬ q (b + m1 + m2) = 3) : pp_gd q h b (m1 + m2 + 1) := by
  refine ⟨hh, fun c x hx => ?_⟩
  obtain ⟨a1, v1, hv1, e1⟩ := g1.2 c x (Nat.lt_of_lt_of_le hx (Nat.pow_le_pow_right (by decide) (by omega)))
  have hx2 : 2 * x + v1 < 2 ^ (20 - h2) := by
    have h3 : 2 ^ (20 - h) * 2 ≤ 2 ^ (20 - h2) := by
      rw [← Nat.pow_succ]
      exact Nat.pow_le_pow_right (by decide) (by omega)
    omega
  obtain ⟨a2, v2, hv2, e2⟩ := g2.2 c (2 * x + v1) hx2
  have hb2 : 2 * (2 * x + v1) + v2 < 2 ^ 20 := by
    have := pp_ok_end a2
    rw [e2] at this
    exact this
  have a3 : pp_ok q c (m1 + m2) b x := pp_ok_app m1 m2 b x a1 (by rw [e1]; exact a2)
  have e3 : pp_rn q c (m1 + m2) b x = 2 * (2 * x + v1) + v2 := by rw [pp_rn_app, e1, e2]
  have e4 : ∃ v : Nat, v < 2 ∧ pp_ns (q (b + (m1 + m2))) (c (b + (m1 + m2))) (2 * (2 * x + v1) + v2) = 2 * x + v := by
    rw [← Nat.add_assoc]
    unfold pp_ns
    rw [if_neg hq, if_neg hq3]
    by_cases c4 : q (b + m1 + m2) = 4
    · rw [if_pos c4]
      by_cases c5 : (2 * (2 * x + v1) + v2) % 2 = 1
      · rw [if_pos c5]
        exact ⟨v1, hv1, by omega⟩
      · rw [if_neg c5]
        exact ⟨0, by decide, by omega⟩
    · rw [if_neg c4]
      by_cases c5 : (2 * (2 * x + v1) + v2) % 2 = 1 ∧ (2 * (2 * x + v1) + v2) / 2 % 2 = 0
      · rw [if_pos c5]
        exact ⟨1, by decide, by omega⟩
      · rw [if_neg c5]
        exact ⟨v1, hv1, by omega⟩
  obtain ⟨v, hv, e5⟩ := e4
  refine ⟨pp_ok_app (m1 + m2) 1 b x a3 ?_, v, hv, ?_⟩
  · rw [e3]
    refine ⟨hb2, ?_⟩
    rw [e5]
    show _ < 2 ^ 20
    omega
  · rw [pp_rn_app (m1 + m2) 1, e3]
    exact e5

/-- the steps' sorts -/
def pp_q (s : Nat → Int32) (k : Nat) : Int32 := s (94 + 3 * k)
/-- RULES of s and those of the class at r -/
def pp_RR (μ : g_M) (r L : Nat) (s : Nat → Int32) : Prop := ∃ R S : Nat, R ≤ 8 ∧ S ≤ 150 ∧ s 5 = pp_i R ∧ s 7 = pp_i S ∧ 3 * S ≤ L ∧ L ≤ 1000 ∧ μ r 4 = pp_i R ∧
  (∀ i, i < R → ∃ b e k d : Nat, b ≤ e ∧ e ≤ S ∧ k ≤ 5 ∧ d ≤ 2 ∧ s (38 + 4 * i) = pp_i k ∧ s (38 + 4 * i + 1) = pp_i d ∧ s (38 + 4 * i + 2) = pp_i b ∧ s (38 + 4 * i + 3) = pp_i e ∧ μ (r + 1) i = pp_i k ∧ μ (r + 2) i = pp_i d ∧ μ (r + 3) i = pp_i e ∧ (b = e ∨ pp_gd (pp_q s) 9 b (e - b)) ∧ (i = 0 → b = 0) ∧ (∀ j, i = j + 1 → s (38 + 4 * j + 3) = pp_i b)) ∧
  (∀ k, k < S → μ (r + 4) (3 * k) = s (94 + 3 * k) ∧ μ (r + 4) (3 * k + 1) = s (94 + 3 * k + 1) ∧ μ (r + 4) (3 * k + 2) = s (94 + 3 * k + 2) ∧ ∃ a b : Nat, a ≤ 10004 ∧ b ≤ 10004 ∧ s (94 + 3 * k + 1) = pp_i a ∧ s (94 + 3 * k + 2) = pp_i b)
theorem pp_RR.R {μ : g_M} {r L : Nat} {s : Nat → Int32} (h : pp_RR μ r L s) : pp_R s := by
  obtain ⟨R, S, h1, h2, h3, h4, h5, h6, h7, h8, h9⟩ := h
  refine ⟨R, S, h1, h2, h3, h4, fun i hi => ?_⟩
  obtain ⟨b, e, k, d, g1, g2, g3, g4, g5, g6, g7, g8, g9, g10, g11, g12⟩ := h8 i hi
  exact ⟨b, e, k, d, g1, g2, g3, g4, g5, g6, g7, g8⟩
/-- the facts that conditions look at -/
def pp_FX (μ : g_M) (s : Nat → Int32) (t o : Nat) : Prop := μ 16 0 = pp_i t ∧ μ 16 1 = s (8 + 5 * o + 1) ∧ μ 16 2 = s (8 + 5 * o + 2) ∧ μ 16 3 = s (8 + 5 * o + 3) ∧ μ 16 4 = pp_i o
theorem pp_X_val {μ : g_M} {s : Nat → Int32} {t o a : Nat} (hF : pp_FX μ s t o) (ha : a ≤ 10004) : f_X7_valueOf_16 (pp_i a) μ = some (pp_vl s t o (pp_i a)) := by
  obtain ⟨f0, f1, f2, f3, f4⟩ := hF
  unfold f_X7_valueOf_16 pp_vl
  rw [show (10000 : Int32) = pp_i 10000 from rfl, pp_ite (pp_lt (by omega) (by omega))]
  by_cases c : a < 10000
  · have hne : ∀ j : Nat, j < 5 → ¬ (pp_i a - pp_i 10000 = pp_i j) := by
      intro j hj e
      have e2 : pp_i a = pp_i (j + 10000) := by rw [← pp_add, ← e, Int32.sub_add_cancel]
      have := pp_inj (by omega) (by omega) e2
      omega
    rw [if_pos c, if_neg (show ¬ (pp_i a - pp_i 10000 = (0 : Int32)) from hne 0 (by decide)), if_neg (show ¬ (pp_i a - pp_i 10000 = (1 : Int32)) from hne 1 (by decide)), if_neg (show ¬ (pp_i a - pp_i 10000 = (2 : Int32)) from hne 2 (by decide)), if_neg (show ¬ (pp_i a - pp_i 10000 = (3 : Int32)) from hne 3 (by decide)), if_neg (show ¬ (pp_i a - pp_i 10000 = (4 : Int32)) from hne 4 (by decide))]
  · rw [if_neg c, pp_sub (by omega), show Int32.ofNat 5 = pp_i 5 from rfl, pp_ite (pp_ge (by omega) (by omega)), if_neg (by omega), pp_rd (by omega) (by decide)]
    simp only [Option.bind_some]
    have hj : a = 10000 ∨ a = 10001 ∨ a = 10002 ∨ a = 10003 ∨ a = 10004 := by omega
    rcases hj with rfl | rfl | rfl | rfl | rfl
    · rw [show (10000 - 10000 : Nat) = 0 from rfl, f0]; rfl
    · rw [show (10001 - 10000 : Nat) = 1 from rfl, f1]; rfl
    · rw [show (10002 - 10000 : Nat) = 2 from rfl, f2]; rfl
    · rw [show (10003 - 10000 : Nat) = 3 from rfl, f3]; rfl
    · rw [show (10004 - 10000 : Nat) = 4 from rfl, f4]; rfl
/-- what a comparison answers -/
def pp_cp (s : Nat → Int32) (t o k : Nat) : Bool := pp_cmp (s (94 + 3 * k)) (pp_vl s t o (s (94 + 3 * k + 1))) (pp_vl s t o (s (94 + 3 * k + 2)))
theorem pp_X_cmp {μ : g_M} {r L : Nat} {s : Nat → Int32} {t o k S : Nat} (hF : pp_FX μ s t o) (hk : k < S) (hS : S ≤ 150) (hL : 3 * S ≤ L) (hL2 : L ≤ 1000)
    (h9 : ∀ k, k < S → μ (r + 4) (3 * k) = s (94 + 3 * k) ∧ μ (r + 4) (3 * k + 1) = s (94 + 3 * k + 1) ∧ μ (r + 4) (3 * k + 2) = s (94 + 3 * k + 2) ∧ ∃ a b : Nat, a ≤ 10004 ∧ b ≤ 10004 ∧ s (94 + 3 * k + 1) = pp_i a ∧ s (94 + 3 * k + 2) = pp_i b) :
    f_X7_compares_16 r L (pp_i k) μ = some (if pp_cp s t o k = true then 1 else 0) := by
  obtain ⟨e0, e1, e2, a, b, ha, hb, ea, eb⟩ := h9 k hk
  have i0 : (pp_i k * 3 : Int32) = pp_i (3 * k) := by rw [show (3 : Int32) = pp_i 3 from rfl, pp_mul, Nat.mul_comm]
  unfold f_X7_compares_16 pp_cp pp_cmp
  rw [i0, show (1 : Int32) = pp_i 1 from rfl, show (2 : Int32) = pp_i 2 from rfl, pp_add, pp_add, pp_rd (by omega) (by omega), e1, ea]
  simp only [Option.bind_some]
  rw [pp_X_val hF ha]
  simp only [Option.bind_some]
  rw [pp_rd (by omega) (by omega), e2, eb]
  simp only [Option.bind_some]
  rw [pp_X_val hF hb]
  simp only [Option.bind_some]
  rw [pp_rd (by omega) (by omega), e0]
  simp only [Option.bind_some]
  generalize s (94 + 3 * k) = q
  generalize pp_vl s t o (pp_i a) = x
  generalize pp_vl s t o (pp_i b) = y
  rw [show pp_i 1 = (1 : Int32) from rfl]
  by_cases c1 : q = 0
  · rw [if_pos c1, if_pos c1]
    by_cases c : x < y
    · rw [if_neg (Int32.not_le.mpr c), if_pos (decide_eq_true c)]
    · rw [if_pos (Int32.not_lt.mp c), if_neg (by simpa using c)]
  · rw [if_neg c1, if_neg c1]
    by_cases c2 : q = 1
    · rw [if_pos c2, if_pos c2]
      by_cases c : x = y
      · rw [if_pos c, if_pos (decide_eq_true c)]
      · rw [if_neg c, if_neg (by simpa using c)]
    · rw [if_neg c2, if_neg c2]
      by_cases c : y < x
      · rw [if_neg (Int32.not_le.mpr c), if_pos (decide_eq_true c)]
      · rw [if_pos (Int32.not_lt.mp c), if_neg (by simpa using c)]
theorem pp_run_n {s : Nat → Int32} {t o : Nat} : ∀ (m k x : Nat), pp_ok (pp_q s) (pp_cp s t o) m k x → pp_run s t o m k (pp_l x) = pp_l (pp_rn (pp_q s) (pp_cp s t o) m k x)
  | 0, _, _, _ => rfl
  | m + 1, k, x, h => by
    rw [pp_run, pp_rn, ← pp_run_n m (k + 1) _ h.2, ← pp_st1_n h.1]
    rfl
theorem pp_X_runL {N : Nat} {μ : g_M} {r L : Nat} {s : Nat → Int32} {t o S i e : Nat} (hF : pp_FX μ s t o) (hS : S ≤ 150) (hL : 3 * S ≤ L) (hL2 : L ≤ 1000) (hi : i < 8) (he : e ≤ S) (h3 : μ (r + 3) i = pp_i e)
    (h9 : ∀ k, k < S → μ (r + 4) (3 * k) = s (94 + 3 * k) ∧ μ (r + 4) (3 * k + 1) = s (94 + 3 * k + 1) ∧ μ (r + 4) (3 * k + 2) = s (94 + 3 * k + 2) ∧ ∃ a b : Nat, a ≤ 10004 ∧ b ≤ 10004 ∧ s (94 + 3 * k + 1) = pp_i a ∧ s (94 + 3 * k + 2) = pp_i b) :
    ∀ (m fuel k x : Nat), k + m = e → m < fuel → pp_ok (pp_q s) (pp_cp s t o) m k x → f_X7_holds_16_L20 N r L fuel (pp_i i) (pp_i x) (pp_i k) μ = some (pp_i (pp_rn (pp_q s) (pp_cp s t o) m k x)) := by
  intro m
  induction m with
  | zero =>
    intro fuel k x hk hf hok
    obtain ⟨f, rfl⟩ := pp_fu hf
    rw [f_X7_holds_16_L20, pp_rd (by omega) (by decide), h3]
    simp only [Option.bind_some]
    rw [pp_ite (pp_ge (by omega) (by omega)), if_pos (by omega)]
    rfl
  | succ m ih =>
    intro fuel k x hk hf hok
    obtain ⟨f, rfl⟩ := pp_fu hf
    have hst := pp_xs_n (q := pp_q s k) (c := pp_cp s t o k) hok.1
    have hih := ih f (k + 1) _ (by omega) (by omega) hok.2
    rw [← hst] at hih
    have i0 : (pp_i k * 3 : Int32) = pp_i (3 * k) := by rw [show (3 : Int32) = pp_i 3 from rfl, pp_mul, Nat.mul_comm]
    rw [f_X7_holds_16_L20, pp_rd (by omega) (by decide), h3]
    simp only [Option.bind_some]
    rw [pp_ite (pp_ge (by omega) (by omega)), if_neg (by omega), i0, pp_rd (by omega) (by omega), (h9 k (by omega)).1, pp_X_cmp hF (show k < S by omega) hS hL hL2 h9, show pp_i k + 1 = pp_i (k + 1) from pp_add k 1]
    simp only [Option.bind_some]
    rw [pp_rn, ← hih]
    unfold pp_xs pp_q
    generalize s (94 + 3 * k) = q
    by_cases c1 : q > 2
    · rw [if_pos c1, if_pos c1]
      by_cases c2 : q = 3
      · rw [if_pos c2, if_pos c2]
      · rw [if_neg c2, if_neg c2]
        by_cases c3 : q = 4
        · rw [if_pos c3, if_pos c3]
        · rw [if_neg c3, if_neg c3]
    · rw [if_neg c1, if_neg c1]
      by_cases c2 : pp_cp s t o k = true
      · rw [if_pos c2, if_neg (by decide)]
      · rw [if_neg c2, if_pos rfl]
theorem pp_X_holds {N : Nat} {μ : g_M} {r L : Nat} {s : Nat → Int32} {t o i : Nat} (hN : 200 ≤ N) (hRR : pp_RR μ r L s) (hF : pp_FX μ s t o) (hi : pp_i i < s 5) (hi8 : i < 8) : f_X7_holds_16 N r L (pp_i i) μ = some (if pp_hd s t o i = true then 1 else 0) := by
  obtain ⟨R, S, h1, h2, h3, h4, h5, h6, h7, h8, h9⟩ := hRR
  rw [h3, pp_lt (by omega) (by omega)] at hi
  obtain ⟨b, e, k, d, g1, g2, g3, g4, g5, g6, g7, g8, g9, g10, g11, g12, g13, g14⟩ := h8 i hi
  have hok : pp_ok (pp_q s) (pp_cp s t o) (e - b) b 1 ∧ pp_rn (pp_q s) (pp_cp s t o) (e - b) b 1 < 2 ^ 20 := by
    rcases g12 with h | h
    · rw [h, Nat.sub_self]
      exact ⟨by show 1 < 2 ^ 20; decide, by show 1 < 2 ^ 20; decide⟩
    · have := (h.2 (pp_cp s t o) 1 (by decide)).1
      exact ⟨this, pp_ok_end this⟩
  have hx := pp_X_runL (N := N) hF h2 h5 h6 hi8 g2 g11 h9 (e - b) N b 1 (by omega) (by omega) hok.1
  have hm := pp_run_n (e - b) b 1 hok.1
  generalize pp_rn (pp_q s) (pp_cp s t o) (e - b) b 1 = z at hx hm hok
  have hz := hok.2
  have hand : ((pp_i z &&& 1) = (0 : Int32)) = (z % 2 = 0) := by
    rw [show (1 : Int32) = pp_i 1 from rfl, pp_and, pp_and1, show (0 : Int32) = pp_i 0 from rfl, pp_eq (by omega) (by omega)]
  have hrem : g_lrm (pp_l z) 2 = pp_l (z % 2) := by
    unfold g_lrm
    rw [show (2 : Int64) = pp_l 2 from rfl, pp_ldiv (by omega) (by omega), pp_lmul, pp_lsub (by omega)]
    congr 1
    omega
  have hd : pp_hd s t o i = decide (z % 2 = 1) := by
    unfold pp_hd
    rw [g7, g8, pp_nat (by omega), pp_nat (by omega), show (1 : Int64) = pp_l 1 from rfl, hm, hrem, decide_eq_decide, pp_lcmp (by omega) (by omega)]
  rw [hd]
  unfold f_X7_holds_16
  rw [pp_ite (pp_e0 (by omega))]
  have fin : (if (pp_i z &&& 1) = 0 then some (0 : Int32) else some 1) = some (if decide (z % 2 = 1) = true then 1 else 0) := by
    rw [pp_ite hand]
    by_cases c : z % 2 = 0
    · rw [if_pos c, if_neg (by simp; omega)]
    · rw [if_neg c, if_pos (by simp; omega)]
  by_cases c0 : i = 0
  · rw [if_pos c0]
    have hb := g13 c0
    rw [hb] at hx
    rw [show (1 : Int32) = pp_i 1 from rfl, show (0 : Int32) = pp_i 0 from rfl, hx]
    simp only [Option.bind_some]
    exact fin
  · rw [if_neg c0]
    obtain ⟨j, rfl⟩ : ∃ j, i = j + 1 := ⟨i - 1, by omega⟩
    obtain ⟨b2, e2, k2, d2, u1, u2, u3, u4, u5, u6, u7, u8, u9, u10, u11, u12⟩ := h8 j (by omega)
    have hb : pp_i e2 = pp_i b := by rw [← u8]; exact g14 j rfl
    rw [show pp_i (j + 1) - 1 = pp_i j from pp_sub (b := 1) (by omega), pp_rd (by omega) (by decide), u11, hb]
    simp only [Option.bind_some]
    rw [show (1 : Int32) = pp_i 1 from rfl, hx]
    simp only [Option.bind_some]
    exact fin
theorem pp_under_c : ∀ k : Fin 6, ∀ a : Fin 6, (f_X11_isBetween (pp_i k.val) 0 5 = 1) ∧ g_ln (pp_i k.val) = some (g_LN k.val) ∧ (((g_LN k.val) >>> (pp_i a.val &&& 31)) &&& 1 = 0 ∨ ((g_LN k.val) >>> (pp_i a.val &&& 31)) &&& 1 = 1) ∧ ((((g_LN k.val) >>> (pp_i a.val &&& 31)) &&& 1 = 0) ↔ f_X12_isUnder (pp_i k.val) (pp_i a.val) = 0) ∧ (f_X12_isUnder (pp_i k.val) (pp_i a.val) = 0 ∨ f_X12_isUnder (pp_i k.val) (pp_i a.val) = 1) := by decide +kernel
theorem pp_X_under {μ : g_M} {k a : Nat} (hk : k < 6) (ha : a < 6) : f_X11_isUnder (pp_i k) (pp_i a) μ = some (f_X12_isUnder (pp_i k) (pp_i a)) := by
  obtain ⟨h1, h2, h3, h4, h5⟩ := pp_under_c ⟨k, hk⟩ ⟨a, ha⟩
  dsimp only at h1 h2 h3 h4 h5
  unfold f_X11_isUnder
  rw [h1, if_neg (by decide), h2]
  simp only [Option.bind_some]
  by_cases c : ((g_LN k) >>> (pp_i a &&& 31)) &&& 1 = 0
  · rw [if_pos c, h4.mp c]
  · rw [if_neg c]
    rcases h5 with h | h
    · exact absurd (h4.mpr h) c
    · rw [h]
theorem pp_X_tells {N : Nat} {μ : g_M} {r L : Nat} {s : Nat → Int32} {t o k : Nat} (hN : 200 ≤ N) (hRR : pp_RR μ r L s) (hF : pp_FX μ s t o) (hk : k < 6) (hko : s (8 + 5 * o + 0) = pp_i k) : f_X7_tellsOf_16 N r L (pp_i k) μ = some (pp_wl s t o) := by
  have hRR0 := hRR
  obtain ⟨R, S, h1, h2, h3, h4, h5, h6, h7, h8, h9⟩ := hRR
  have loop : ∀ (m fuel i : Nat), i + m = R → m < fuel → (match f_X7_tellsOf_16_L2 N r L fuel (pp_i k) (pp_i i) μ with | none => none | some (.inl q) => some q | some (.inr _) => some 0) = some (pp_wlL s t o m i) := by
    intro m
    induction m with
    | zero =>
      intro fuel i hi hf
      obtain ⟨f, rfl⟩ := pp_fu hf
      rw [f_X7_tellsOf_16_L2, h7, pp_ite (pp_ge (by omega) (by omega)), if_pos (by omega), pp_wlL]
    | succ m ih =>
      intro fuel i hi hf
      obtain ⟨f, rfl⟩ := pp_fu hf
      have ih1 := ih f (i + 1) (by omega) (by omega)
      obtain ⟨b, e, k2, d, g1, g2, g3, g4, g5, g6, g7, g8, g9, g10, g11, g12⟩ := h8 i (by omega)
      rw [f_X7_tellsOf_16_L2, h7, pp_ite (pp_ge (by omega) (by omega)), if_neg (by omega), pp_rd (by omega) (by decide), g9, show pp_i i + 1 = pp_i (i + 1) from pp_add i 1, pp_wlL, hko, g5, g6]
      simp only [Option.bind_some]
      rw [pp_X_under hk (by omega)]
      simp only [Option.bind_some]
      by_cases c1 : f_X12_isUnder (pp_i k) (pp_i k2) = 0
      · rw [if_pos c1, if_neg (fun q => q.1 c1)]
        exact ih1
      · rw [if_neg c1, pp_X_holds hN hRR0 hF (by rw [h3, pp_lt (by omega) (by omega)]; omega) (by omega)]
        simp only [Option.bind_some]
        by_cases c2 : pp_hd s t o i = true
        · rw [if_pos c2, if_neg (by decide), if_pos ⟨c1, c2⟩, pp_rd (by omega) (by decide), g10]
          rfl
        · rw [if_neg c2, if_pos rfl, if_neg (fun q => c2 q.2)]
          exact ih1
  have h := loop R N 0 (by omega) (by omega)
  unfold f_X7_tellsOf_16 pp_wl
  rw [h3, pp_nat (by omega), show (0 : Int32) = pp_i 0 from rfl]
  cases hc : f_X7_tellsOf_16_L2 N r L N (pp_i k) (pp_i 0) μ with
  | none => rw [hc] at h; cases h
  | some q =>
    rw [hc] at h
    cases q with
    | inl q => exact h
    | inr q => exact h
