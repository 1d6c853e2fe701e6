/-! ===== the two objects hold the same ===== -/
def pp_rk (t : Nat) : Prop := t = 18 ∨ t = 40 ∨ 63 ≤ t
def pp_TW (s : Nat → Int32) (μ μr : g_M) (t L : Nat) : Prop := pp_I s ∧ pp_D s μ ∧ pp_RR μr t L s ∧ ∃ c : Nat, pp_Rp s μ c
/-- the kept town, as if it were the town -/
def pp_sv (μ : g_M) : g_M := fun a => μ (a + 22)
def pp_KP (μX μM : g_M) (u Lu : Nat) : Prop := (μX 0 12 = 0 ∧ μM 0 2 = 0) ∨ (μX 0 12 = 1 ∧ μM 0 2 = 1 ∧ pp_TW (μM 2) (pp_sv μX) μX u Lu)
def pp_TA (μX μM : g_M) : Prop := ∃ (l : Nat) (b : Nat → Nat), pp_TB (μX 46) l b ∧ pp_TB (μM 4) l b ∧ pp_BZ l b ∧ μX 45 6 = pp_i l ∧ μM 0 5 = pp_i l
def pp_RW (μX μM : g_M) : Prop := ∃ c : Nat, c ≤ 4 ∧ μX 0 11 = pp_i c ∧ μM 0 32 = pp_i c ∧ ∀ j, j < 3 * c → μX 52 j = μM 11 j
def pp_SH (μX μM : g_M) : Prop := ∀ i, i < 4 → ∃ (so : Int32) (z : Nat), z ≤ 40 ∧ (so = -1 ∨ ∃ q : Nat, q ≤ 4 ∧ so = pp_i q) ∧ μX 53 i = so ∧ μM 12 i = so ∧ μX 54 i = pp_i z ∧ μM 13 i = pp_i z ∧ ∀ j, j < z → μX (56 + i) j = μM 14 (40 * i + j)
def pp_HO (μX μM : g_M) : Prop := ∀ h, h < 4 → (μX 60 h = 2 ∧ μM 15 h = 0) ∨ (μX 60 h = 0 ∧ μM 15 h = 1 ∧ ∃ n : Nat, n < 6 ∧ μX 61 h = pp_i n ∧ μM 16 h = pp_i n) ∨ (μX 60 h = 1 ∧ μM 15 h = 2 ∧ ∃ q z : Nat, q ≤ 4 ∧ z ≤ 40 ∧ μX 61 h = pp_i q ∧ μM 16 h = pp_i q ∧ μX 62 h = pp_i z ∧ μM 17 h = pp_i z)
def pp_TR (μX μM : g_M) : Prop := ∃ c : Nat, c ≤ 30 ∧ μX 50 1 = pp_i c ∧ μM 0 40 = pp_i c ∧ ∀ j, j < c → μX 51 j = μM 18 j
def pp_Oth (u Lu : Nat) (μX μM : g_M) : Prop := pp_KP μX μM u Lu ∧ pp_TA μX μM ∧ pp_RW μX μM ∧ pp_SH μX μM ∧ pp_HO μX μM ∧ pp_TR μX μM
def pp_Rel (t L u Lu : Nat) (μX μM : g_M) : Prop := pp_rk t ∧ pp_rk u ∧ pp_TW (μM 1) μX μX t L ∧ pp_Oth u Lu μX μM
def pp_SXt (a _b : Nat) : Bool := decide (1 ≤ a ∧ a ≤ 17)
def pp_SMt (a b : Nat) : Bool := decide (a = 1 ∨ a = 3 ∨ (5 ≤ a ∧ a ≤ 10) ∨ (a = 0 ∧ 6 ≤ b ∧ b ≤ 30))
theorem pp_rk_no {t a : Nat} (ht : pp_rk t) (h1 : t ≤ a) (h2 : a ≤ t + 4) : ¬ (1 ≤ a ∧ a ≤ 17) ∧ ¬ (45 ≤ a ∧ a ≤ 62) ∧ ¬ a = 0 := by
  rcases ht with h | h | h <;> omega
theorem pp_KP.R {u Lu : Nat} {μX μM μX1 μM1 : g_M} (hu : pp_rk u) (h : pp_KP μX μM u Lu) (eX : ∀ a, ((18 ≤ a ∧ a ≤ 44) ∨ (u ≤ a ∧ a ≤ u + 4)) → μX1 a = μX a) (e13 : μX1 0 12 = μX 0 12) (eM : μM1 2 = μM 2) (e2 : μM1 0 2 = μM 0 2) : pp_KP μX1 μM1 u Lu := by
  rcases h with ⟨a1, a2⟩ | ⟨a1, a2, a3, a4, a5, c, a6⟩
  · exact Or.inl ⟨e13.trans a1, e2.trans a2⟩
  · refine Or.inr ⟨e13.trans a1, e2.trans a2, ?_⟩
    have es : ∀ a, 1 ≤ a → a ≤ 22 → pp_sv μX1 a = pp_sv μX a := fun a h1 h2 => eX (a + 22) (by omega)
    rw [eM]
    refine ⟨a3, ?_, a5.F (fun a h1 h2 => eX a (Or.inr ⟨h1, h2⟩)), c, ?_⟩
    · unfold pp_D pp_C at a4 ⊢
      rw [es 1 (by omega) (by omega), es 9 (by omega) (by omega), es 10 (by omega) (by omega), es 11 (by omega) (by omega), es 12 (by omega) (by omega), es 13 (by omega) (by omega), es 14 (by omega) (by omega)]
      exact a4
    · unfold pp_Rp at a6 ⊢
      rw [es 1 (by omega) (by omega), es 17 (by omega) (by omega)]
      exact a6
theorem pp_TA.R {μX μM μX1 μM1 : g_M} (h : pp_TA μX μM) (e1 : μX1 46 = μX 46) (e2 : μX1 45 6 = μX 45 6) (e3 : μM1 4 = μM 4) (e4 : μM1 0 5 = μM 0 5) : pp_TA μX1 μM1 := by
  unfold pp_TA
  rw [e1, e2, e3, e4]
  exact h
theorem pp_RW.R {μX μM μX1 μM1 : g_M} (h : pp_RW μX μM) (e1 : μX1 52 = μX 52) (e2 : μX1 0 11 = μX 0 11) (e3 : μM1 11 = μM 11) (e4 : μM1 0 32 = μM 0 32) : pp_RW μX1 μM1 := by
  unfold pp_RW
  rw [e1, e2, e3, e4]
  exact h
theorem pp_SH.R {μX μM μX1 μM1 : g_M} (h : pp_SH μX μM) (eX : ∀ a, 53 ≤ a → a ≤ 59 → μX1 a = μX a) (e12 : μM1 12 = μM 12) (e13 : μM1 13 = μM 13) (e14 : μM1 14 = μM 14) : pp_SH μX1 μM1 := by
  intro i hi
  rw [eX 53 (by omega) (by omega), eX 54 (by omega) (by omega), eX (56 + i) (by omega) (by omega), e12, e13, e14]
  exact h i hi
theorem pp_HO.R {μX μM μX1 μM1 : g_M} (h : pp_HO μX μM) (eX : ∀ a, 60 ≤ a → a ≤ 62 → μX1 a = μX a) (e15 : μM1 15 = μM 15) (e16 : μM1 16 = μM 16) (e17 : μM1 17 = μM 17) : pp_HO μX1 μM1 := by
  unfold pp_HO
  rw [eX 60 (by omega) (by omega), eX 61 (by omega) (by omega), eX 62 (by omega) (by omega), e15, e16, e17]
  exact h
theorem pp_TR.R {μX μM μX1 μM1 : g_M} (h : pp_TR μX μM) (e1 : μX1 51 = μX 51) (e2 : μX1 50 1 = μX 50 1) (e3 : μM1 18 = μM 18) (e4 : μM1 0 40 = μM 0 40) : pp_TR μX1 μM1 := by
  unfold pp_TR
  rw [e1, e2, e3, e4]
  exact h
theorem pp_Oth.F {u Lu : Nat} {μX μM μX1 μM1 : g_M} (hu : pp_rk u) (h : pp_Oth u Lu μX μM) (fX : pp_F pp_SXt μX μX1) (fM : pp_F pp_SMt μM μM1) : pp_Oth u Lu μX1 μM1 := by
  have eX : ∀ a, ¬ (1 ≤ a ∧ a ≤ 17) → μX1 a = μX a := fun a ha => fX.row (fun b => decide_eq_false ha)
  have eM : ∀ a, a = 2 ∨ a = 4 ∨ 11 ≤ a → μM1 a = μM a := fun a ha => fM.row (fun b => decide_eq_false (by omega))
  have e0 : ∀ b, ¬ (6 ≤ b ∧ b ≤ 30) → μM1 0 b = μM 0 b := fun b hb => fM 0 b (decide_eq_false (by omega))
  have x0 : μX1 0 = μX 0 := eX 0 (by omega)
  have x46 : μX1 45 = μX 45 := eX 45 (by omega)
  have x51 : μX1 50 = μX 50 := eX 50 (by omega)
  obtain ⟨h1, h2, h3, h4, h5, h6⟩ := h
  refine ⟨h1.R hu (fun a ha => eX a ?_) (by rw [x0]) (eM 2 (by omega)) (e0 2 (by omega)), h2.R (eX 46 (by omega)) (by rw [x46]) (eM 4 (by omega)) (e0 5 (by omega)), h3.R (eX 52 (by omega)) (by rw [x0]) (eM 11 (by omega)) (e0 32 (by omega)), h4.R (fun a h1 h2 => eX a (by omega)) (eM 12 (by omega)) (eM 13 (by omega)) (eM 14 (by omega)), h5.R (fun a h1 h2 => eX a (by omega)) (eM 15 (by omega)) (eM 16 (by omega)) (eM 17 (by omega)), h6.R (eX 51 (by omega)) (by rw [x51]) (eM 18 (by omega)) (e0 40 (by omega))⟩
  rcases ha with ha | ⟨ha, hb⟩
  · omega
  · exact (pp_rk_no hu ha hb).1
theorem pp_Sc_t {a b : Nat} (h : pp_SXt a b = false) : pp_Sc a b = false := decide_eq_false (fun e => absurd h (by rw [e]; exact (show ¬ (decide (1 ≤ 15 ∧ 15 ≤ 17) = false) by decide)))
theorem pp_TW.Fc {s : Nat → Int32} {μ μ1 : g_M} {t L : Nat} (ht : pp_rk t) (h : pp_TW s μ μ t L) (f : pp_F pp_Sc μ μ1) : pp_TW s μ1 μ1 t L := by
  have e : ∀ a, ¬ a = 15 → μ1 a = μ a := fun a ha => f.row (fun b => decide_eq_false ha)
  obtain ⟨h1, h2, h3, c, h4⟩ := h
  refine ⟨h1, h2.F f, h3.F (fun a ha hb => e a (fun q => (pp_rk_no ht ha hb).1 (by omega))), c, ?_⟩
  unfold pp_Rp at h4 ⊢
  rw [e 1 (by omega), e 17 (by omega)]
  exact h4
/-- a look ahead -/
theorem pp_look {t L u Lu : Nat} {μX μM μX1 μM1 : g_M} (h : pp_Rel t L u Lu μX μM) (fX : pp_F pp_Sc μX μX1) (fM : pp_F pp_SMt μM μM1) (e : μM1 1 = μM 1) : pp_Rel t L u Lu μX1 μM1 := by
  obtain ⟨h1, h2, h3, h4⟩ := h
  refine ⟨h1, h2, ?_, h4.F h2 (fX.mono (fun a b => pp_Sc_t)) fM⟩
  rw [e]
  exact h3.Fc h1 fX
theorem pp_SL_t {a b : Nat} (h : pp_SMt a b = false) : pp_SL a b = false := by
  have q := of_decide_eq_false h
  exact decide_eq_false (by omega)
theorem pp_SPW_t {a b : Nat} (h : pp_SMt a b = false) : pp_SPW a b = false := by
  have q := of_decide_eq_false h
  unfold pp_SPW pp_SP
  rw [Bool.or_eq_false_iff]
  exact ⟨decide_eq_false (by omega), decide_eq_false (by omega)⟩
theorem pp_SV_t {a b : Nat} (h : pp_SMt a b = false) : pp_SV a b = false := by
  have q := of_decide_eq_false h
  exact decide_eq_false (by omega)
theorem pp_SW_t {a b : Nat} (h : pp_SMt a b = false) : pp_SW a b = false := by
  have q := of_decide_eq_false h
  exact decide_eq_false (by omega)
theorem pp_SG_t {a b : Nat} (h : pp_SMt a b = false) : pp_SG a b = false := by
  have q := of_decide_eq_false h
  exact decide_eq_false (by omega)
theorem pp_Sf_t {a b : Nat} (h : pp_SMt a b = false) : pp_Sf a b = false := by
  have q := of_decide_eq_false h
  exact decide_eq_false (by omega)
/-! ===== arguments ===== -/
theorem pp_btw {a : Int32} {lo hi : Nat} (hl : lo < 2147483648) (hh : hi < 2147483648) : (f_X11_isBetween a (pp_i lo) (pp_i hi) = 0 ∧ f_X12_isIn a.toInt64 (pp_i lo).toInt64 (pp_i hi).toInt64 = 0) ∨ (∃ k : Nat, lo ≤ k ∧ k ≤ hi ∧ a = pp_i k ∧ f_X11_isBetween a (pp_i lo) (pp_i hi) = 1 ∧ f_X12_isIn a.toInt64 (pp_i lo).toInt64 (pp_i hi).toInt64 = 1) := by
  rw [pp_M_in, pp_X_btw]
  by_cases c : pp_i lo ≤ a ∧ a ≤ pp_i hi
  · obtain ⟨k, k1, k2, k3⟩ := pp_of c.1 c.2 hh hl
    rw [if_pos c]
    exact Or.inr ⟨k, k1, k2, k3, rfl, rfl⟩
  · rw [if_neg c]
    exact Or.inl ⟨rfl, rfl⟩
theorem pp_ovn {s : Nat → Int32} {μX μM : g_M} {a : Int32} (hB : pp_B s) (h0 : μX 1 11 = s 0) (hs : μM 1 = s) : (f_X11_isOven a μX = 0 ∧ f_X12_isOven a μM = 0) ∨ (∃ o : Nat, o < pp_n s ∧ a = pp_i o ∧ f_X11_isOven a μX = 1 ∧ f_X12_isOven a μM = 1) := by
  obtain ⟨b1, b2⟩ := hB
  unfold f_X11_isOven f_X12_isOven
  rw [pp_X_btw, h0, hs, b1]
  by_cases c1 : a < 0
  · rw [if_pos c1, if_neg (fun q => Int32.not_lt.mpr q.1 c1)]
    exact Or.inl ⟨rfl, rfl⟩
  · have c0 : (0 : Int32) ≤ a := Int32.not_lt.mp c1
    obtain ⟨k, hk, rfl⟩ : ∃ k : Nat, k < 2147483648 ∧ a = pp_i k := ⟨a.toNatClampNeg, pp_lo, (pp_back c0).symm⟩
    rw [if_neg c1, pp_ite (pp_ge hk (show pp_n s < 2147483648 by omega))]
    by_cases c2 : k < pp_n s
    · rw [if_neg (show ¬ pp_n s ≤ k by omega), if_pos (show (0 : Int32) ≤ pp_i k ∧ pp_i k ≤ pp_i (pp_n s) - 1 from ⟨c0, (pp_m1_le hk (by omega)).mpr c2⟩)]
      exact Or.inr ⟨k, c2, rfl, rfl, rfl⟩
    · rw [if_pos (show pp_n s ≤ k by omega), if_neg (fun q => c2 ((pp_m1_le hk (by omega)).mp q.2))]
      exact Or.inl ⟨rfl, rfl⟩
theorem pp_n10 {x : Int32} (h : x = 1) : ¬ x = 0 := by
  rw [h]
  decide
