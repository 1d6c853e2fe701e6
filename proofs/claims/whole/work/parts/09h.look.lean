/-! ===== looking ahead: the rest, who goes, how often ===== -/
theorem pp_M_asideL {N lev : Nat} (hl : 38 * lev + 38 ≤ 190) : ∀ (m fuel k : Nat) (μ : g_M), k + m = 38 → m < fuel →
    f_X12_laysAside_L2 N fuel (pp_i lev) (pp_i k) μ = some (pp_rw μ 3 (fun j => if 38 * lev + k ≤ j ∧ j < 38 * lev + 38 then μ 1 (j - 38 * lev) else μ 3 j)) := by
  intro m
  induction m with
  | zero =>
    intro fuel k μ hk hf
    obtain ⟨f, rfl⟩ := pp_fu hf
    rw [f_X12_laysAside_L2, show (38 : Int32) = pp_i 38 from rfl, pp_ite (pp_ge (by omega) (by omega)), if_pos (by omega), pp_rw_id]
    funext j
    rw [if_neg (by omega)]
  | succ m ih =>
    intro fuel k μ hk hf
    obtain ⟨f, rfl⟩ := pp_fu hf
    rw [f_X12_laysAside_L2, show (38 : Int32) = pp_i 38 from rfl, pp_ite (pp_ge (by omega) (by omega)), if_neg (by omega), pp_rd (by omega) (by decide), show pp_i k + 1 = pp_i (k + 1) from pp_add k 1, pp_mul, pp_add]
    simp only [Option.bind_some]
    rw [pp_wr (by omega) (by decide)]
    simp only [Option.bind_some]
    rw [ih f (k + 1) _ (by omega) (by omega), pp_set_rw, pp_rw_rw, pp_rw_n (show (1 : Nat) ≠ 3 by decide), pp_rw_s]
    congr 2
    funext j
    by_cases h : 38 * lev + (k + 1) ≤ j ∧ j < 38 * lev + 38
    · rw [if_pos h, if_pos (by omega)]
    · rw [if_neg h]
      unfold pp_up
      by_cases e : j = 38 * lev + k
      · rw [if_pos e, if_pos (by omega), e, Nat.add_sub_cancel_left]
      · rw [if_neg e, if_neg (by omega)]
theorem pp_M_aside {N lev : Nat} {μ : g_M} (hN : 200 ≤ N) (hl : 38 * lev + 38 ≤ 190) : f_X12_laysAside N (pp_i lev) μ = some (pp_rw μ 3 (fun j => if 38 * lev ≤ j ∧ j < 38 * lev + 38 then μ 1 (j - 38 * lev) else μ 3 j)) := by
  have h := pp_M_asideL (N := N) hl 38 N 0 μ (by omega) (by omega)
  unfold f_X12_laysAside
  rw [show pp_i 0 = (0 : Int32) from rfl] at h
  rw [h]
  rfl
theorem pp_M_backL {N lev : Nat} (hl : 38 * lev + 38 ≤ 190) : ∀ (m fuel k : Nat) (μ : g_M), k + m = 38 → m < fuel →
    f_X12_laysBack_L2 N fuel (pp_i lev) (pp_i k) μ = some (pp_rw μ 1 (fun j => if k ≤ j ∧ j < 38 then μ 3 (38 * lev + j) else μ 1 j)) := by
  intro m
  induction m with
  | zero =>
    intro fuel k μ hk hf
    obtain ⟨f, rfl⟩ := pp_fu hf
    rw [f_X12_laysBack_L2, show (38 : Int32) = pp_i 38 from rfl, pp_ite (pp_ge (by omega) (by omega)), if_pos (by omega), pp_rw_id]
    funext j
    rw [if_neg (by omega)]
  | succ m ih =>
    intro fuel k μ hk hf
    obtain ⟨f, rfl⟩ := pp_fu hf
    rw [f_X12_laysBack_L2, show (38 : Int32) = pp_i 38 from rfl, pp_ite (pp_ge (by omega) (by omega)), if_neg (by omega), pp_mul, pp_add, pp_rd (by omega) (by decide), show pp_i k + 1 = pp_i (k + 1) from pp_add k 1]
    simp only [Option.bind_some]
    rw [pp_wr (by omega) (by decide)]
    simp only [Option.bind_some]
    rw [ih f (k + 1) _ (by omega) (by omega), pp_set_rw, pp_rw_rw, pp_rw_n (show (3 : Nat) ≠ 1 by decide), pp_rw_s]
    congr 2
    funext j
    by_cases h : k + 1 ≤ j ∧ j < 38
    · rw [if_pos h, if_pos (by omega)]
    · rw [if_neg h]
      unfold pp_up
      by_cases e : j = k
      · rw [if_pos e, if_pos (by omega), e]
      · rw [if_neg e, if_neg (by omega)]
theorem pp_M_back {N lev : Nat} {μ : g_M} (hN : 200 ≤ N) (hl : 38 * lev + 38 ≤ 190) : f_X12_laysBack N (pp_i lev) μ = some (pp_rw μ 1 (fun j => if j < 38 then μ 3 (38 * lev + j) else μ 1 j)) := by
  have h := pp_M_backL (N := N) hl 38 N 0 μ (by omega) (by omega)
  unfold f_X12_laysBack
  rw [show pp_i 0 = (0 : Int32) from rfl] at h
  rw [h]
  simp only [Option.bind_some]
  congr 2
  funext j
  by_cases h : j < 38
  · rw [if_pos h, if_pos ⟨Nat.zero_le j, h⟩]
  · rw [if_neg h, if_neg (fun q => h q.2)]
/-- level lev of the row aside holds s at a time -/
def pp_A (μ : g_M) (lev : Nat) (f : Nat → Int32) : Prop := ∀ j, j < 38 → μ 3 (38 * lev + j) = f j
theorem pp_A_back {N lev : Nat} {μ : g_M} {s : Nat → Int32} {t t2 : Nat} {w w2 : Nat → Nat} {sc sc2 : Int32} (hN : 200 ≤ N) (hl : 38 * lev + 38 ≤ 190) (hn : pp_n s ≤ 6) (hA : pp_A μ lev (pp_put s t w sc)) (h1 : μ 1 = pp_put s t2 w2 sc2) : f_X12_laysBack N (pp_i lev) μ = some (pp_rw μ 1 (pp_put s t w sc)) := by
  rw [pp_M_back hN hl]
  congr 2
  funext j
  by_cases h : j < 38
  · rw [if_pos h, hA j h]
  · rw [if_neg h, h1, pp_put_hi hn (by omega), pp_put_hi hn (by omega)]
theorem pp_A_aside {N lev : Nat} {μ : g_M} (hN : 200 ≤ N) (hl : 38 * lev + 38 ≤ 190) : ∃ f : Nat → Int32, f_X12_laysAside N (pp_i lev) μ = some (pp_rw μ 3 f) ∧ (∀ j, j < 38 → f (38 * lev + j) = μ 1 j) ∧ (∀ j, ¬ (38 * lev ≤ j ∧ j < 38 * lev + 38) → f j = μ 3 j) := by
  refine ⟨_, pp_M_aside hN hl, fun j hj => ?_, fun j hj => if_neg hj⟩
  rw [if_pos (by omega), Nat.add_sub_cancel_left]
/-- cells that looking ahead changes, of the reference's -/
def pp_SL (a b : Nat) : Bool := decide (a = 1 ∨ a = 3 ∨ a = 5 ∨ (a = 0 ∧ b = 7) ∨ (a = 0 ∧ b = 15))
theorem pp_SGL {a b : Nat} (h : pp_SL a b = false) : pp_SG a b = false := by
  unfold pp_SL at h
  unfold pp_SG
  simp only [decide_eq_false_iff_not] at h ⊢
  exact fun q => h (by omega)
theorem pp_M_over {s : Nat → Int32} {t : Nat} {w : Nat → Nat} {sc : Int32} {μ : g_M} (hT : pp_T s) (ht : t < 1000) (h1 : μ 1 = pp_put s t w sc) : f_X12_isOver μ = if t < pp_e s then 0 else 1 := by
  have h3 := hT.2.2.2.1
  unfold f_X12_isOver
  rw [h1, pp_put_1, pp_put_2, hT.2.1, pp_ite (pp_lt (by omega) (by omega))]
theorem pp_nw_16 {s : Nat → Int32} {t : Nat} {w : Nat → Nat} {c : Nat} (hO : pp_O s) (hw : ∀ o, o < pp_n s → w o < 16) : ∀ o, o < pp_n s → pp_nw s t w c o < 16 := fun o ho => pp_nw_lt hO ho (hw o ho)
/-- n nights, what they are WORTH -/
def pp_on (s : Nat → Int32) (c : Nat) : Nat → Nat → (Nat → Nat) → Int32 → Int32
  | 0, _, _, x => x
  | m + 1, t, w, x => if t < pp_e s then pp_on s c m (t + 1) (pp_nw s t w c) (x + pp_wo s t (pp_nw s t w c)) else x
theorem pp_on_over {s : Nat → Int32} {c : Nat} {m t : Nat} {w : Nat → Nat} {x : Int32} (h : ¬ t < pp_e s) : pp_on s c m t w x = x := by
  cases m with
  | zero => rfl
  | succ m => rw [pp_on, if_neg h]
theorem pp_M_onL {N : Nat} {s : Nat → Int32} {c n : Nat} (hN : 200 ≤ N) (hI : pp_I s) (hc : c < 64) (hn : n < 1000) : ∀ (m fuel k t : Nat) (w : Nat → Nat) (sc x : Int32) (μ : g_M), k + m = n → m < fuel → t ≤ pp_e s → (∀ o, o < pp_n s → w o < 16) → μ 1 = pp_put s t w sc →
    ∃ (μ1 : g_M) (t1 : Nat) (w1 : Nat → Nat) (sc1 : Int32), f_X12_onBy_L10 N fuel (pp_i n) (pp_i c) x (pp_i k) μ = some (pp_on s c m t w x, μ1) ∧ μ1 1 = pp_put s t1 w1 sc1 ∧ pp_F pp_SG μ μ1 := by
  obtain ⟨hB, hO, hR, hT⟩ := hI
  have h16 := hT.2.2.2.1
  intro m
  induction m with
  | zero =>
    intro fuel k t w sc x μ hk hf ht hw h1
    obtain ⟨f, rfl⟩ := pp_fu hf
    rw [f_X12_onBy_L10, pp_ite (pp_ge (by omega) (by omega)), if_pos (by omega)]
    exact ⟨μ, t, w, sc, rfl, h1, pp_F.refl⟩
  | succ m ih =>
    intro fuel k t w sc x μ hk hf ht hw h1
    obtain ⟨f, rfl⟩ := pp_fu hf
    rw [f_X12_onBy_L10, pp_ite (pp_ge (by omega) (by omega)), if_neg (by omega), pp_M_over hT (by omega) h1, pp_on, show pp_i k + 1 = pp_i (k + 1) from pp_add k 1]
    by_cases h : t < pp_e s
    · obtain ⟨μ1, i1, i2, -, i4⟩ := pp_M_go hN hB hR hO hc (by omega) hw h1
      rw [if_pos h, if_pos rfl, if_pos h, i1]
      simp only [Option.bind_some]
      obtain ⟨μ2, t1, w1, sc1, j1, j2, j3⟩ := ih f (k + 1) (t + 1) (pp_nw s t w c) _ (x + pp_wo s t (pp_nw s t w c)) μ1 (by omega) (by omega) (by omega) (pp_nw_16 hO hw) i2
      exact ⟨μ2, t1, w1, sc1, j1, j2, i4.trans j3⟩
    · rw [if_neg h, if_neg (by decide), if_neg h]
      exact ⟨μ, t, w, sc, rfl, h1, pp_F.refl⟩
theorem pp_M_on {N : Nat} {s : Nat → Int32} {c n t : Nat} {w : Nat → Nat} {sc : Int32} {μ : g_M} (hN : 200 ≤ N) (hI : pp_I s) (hc : c < 64) (hn : n < 100) (ht : t ≤ pp_e s) (hw : ∀ o, o < pp_n s → w o < 16) (h1 : μ 1 = pp_put s t w sc) :
    ∃ μ1 : g_M, f_X12_onBy N (pp_i n) (pp_i c) μ = some (pp_on s c n t w 0, μ1) ∧ μ1 1 = μ 1 ∧ pp_F pp_SL μ μ1 := by
  obtain ⟨fa, a1, a2, a3⟩ := pp_A_aside (N := N) (lev := 0) (μ := μ) hN (by decide)
  obtain ⟨μ2, t1, w1, sc1, j1, j2, j3⟩ := pp_M_onL hN hI hc (show n < 1000 by omega) n N 0 t w sc 0 (pp_rw μ 3 fa) (by omega) (by omega) ht hw (by rw [pp_rw_n (by decide), h1])
  have hA : pp_A μ2 0 (pp_put s t w sc) := by
    intro j hj
    rw [j3 3 _ (by simp [pp_SG]), pp_rw_s, a2 j hj, h1]
  have b1 := pp_A_back hN (by decide) hI.1.2 hA j2
  rw [show pp_i 0 = (0 : Int32) from rfl] at a1 j1 b1
  refine ⟨pp_rw μ2 1 (pp_put s t w sc), ?_, by rw [pp_rw_s, h1], ?_⟩
  · unfold f_X12_onBy
    rw [a1]
    simp only [Option.bind_some]
    rw [j1]
    simp only [Option.bind_some]
    rw [b1]
    rfl
  · intro a b hab
    have hg := pp_SGL hab
    unfold pp_SL at hab
    simp only [decide_eq_false_iff_not, not_or] at hab
    rw [pp_rw_n hab.1, j3 a b hg, pp_rw_n hab.2.1]
/-- the class's -/
theorem pp_X_max0 {n d : Nat} (hn : n < 1000) (hd : d < 1000) : g_max 0 (g_min (pp_i n) (pp_i d)) = pp_i (if d < n then d else n) := by
  have h1 : g_min (pp_i n) (pp_i d) = pp_i (if d < n then d else n) := by
    unfold g_min
    rw [pp_ite (pp_lt (by omega) (by omega))]
    split <;> rfl
  rw [h1]
  clear h1
  generalize hK : (if d < n then d else n) = K
  have hK2 : K < 1000 := by rw [← hK]; split <;> omega
  unfold g_max
  rw [show (0 : Int32) = pp_i 0 from rfl, pp_ite (pp_lt (by omega) (by omega))]
  by_cases h : 0 < K
  · rw [if_pos h]
  · rw [if_neg h, show K = 0 by omega]
/-- the class's town at its time -/
def pp_D (s : Nat → Int32) (μ : g_M) : Prop := pp_C s μ ∧ μ 1 12 = pp_i (pp_pk (pp_w s) (pp_n s)) ∧ μ 1 13 = s 1 ∧ μ 1 14 = s 2 ∧ μ 1 15 = s 3 ∧ μ 1 16 = s 4
theorem pp_D.F {s : Nat → Int32} {μ μ1 : g_M} (h : pp_D s μ) (hF : pp_F pp_Sc μ μ1) : pp_D s μ1 := by
  obtain ⟨h0, h⟩ := h
  refine ⟨h0.F hF, ?_⟩
  rw [hF.row (a := 1) (fun b => by simp [pp_Sc])]
  exact h
theorem pp_X_onL {N : Nat} {s : Nat → Int32} {n : Nat} (hN : 200 ≤ N) (hI : pp_I s) (hn : n < 100) : ∀ (m fuel k : Nat) (w : Nat → Nat) (x : Int32) (μ : g_M), k + m = (if pp_e s - pp_t s < n then pp_e s - pp_t s else n) → m < fuel → (∀ o, o < pp_n s → w o < 16) → pp_D s μ →
    ∃ μ1 : g_M, f_X2_restWorth_L10 N fuel (pp_i n) (pp_i (pp_pk w (pp_n s))) x (pp_i k) μ = some (pp_on s 0 (n - k) (pp_t s + k) w x, μ1) ∧ pp_F pp_Sc μ μ1 := by
  obtain ⟨hB, hO, hR, hT⟩ := hI
  have h16 := hT.2.2.2.1
  have hte := hT.2.2.2.2.1
  have hK : (if pp_e s - pp_t s < n then pp_e s - pp_t s else n) < 2147483648 := by split <;> omega
  intro m
  induction m with
  | zero =>
    intro fuel k w x μ hk hf hw hD
    obtain ⟨f, rfl⟩ := pp_fu hf
    rw [f_X2_restWorth_L10]
    unfold f_X9_nightsOf
    rw [hD.2.2.1, hD.2.2.2.1, hT.1, hT.2.1, pp_sub hte, pp_X_max0 (by omega) (by omega), pp_ite (pp_ge (by omega) hK), if_pos (by omega)]
    refine ⟨μ, ?_, pp_F.refl⟩
    by_cases h : pp_e s - pp_t s < n
    · rw [if_pos h] at hk
      rw [pp_on_over (by omega)]
    · rw [if_neg h] at hk
      rw [show n - k = 0 by omega, pp_on]
  | succ m ih =>
    intro fuel k w x μ hk hf hw hD
    obtain ⟨f, rfl⟩ := pp_fu hf
    have hk2 : k < n ∧ pp_t s + k < pp_e s := by
      by_cases h : pp_e s - pp_t s < n
      · rw [if_pos h] at hk; omega
      · rw [if_neg h] at hk; omega
    rw [f_X2_restWorth_L10]
    unfold f_X9_nightsOf
    rw [hD.2.2.1, hD.2.2.2.1, hT.1, hT.2.1, pp_sub hte, pp_X_max0 (by omega) (by omega), pp_ite (pp_ge (by omega) hK), if_neg (by omega), show pp_i k + 1 = pp_i (k + 1) from pp_add k 1, pp_add]
    obtain ⟨μ1, i1, i2⟩ := pp_X_after (t := pp_t s + k) (c := 0) (w := w) hN hB hO hD.1 (by omega) (by decide) hw
    have hD1 := hD.F i2
    rw [show pp_i 0 = (0 : Int32) from rfl] at i1
    rw [i1]
    simp only [Option.bind_some]
    rw [hD1.2.2.1, hT.1, pp_add, pp_X_worth hN hB hO hD1.1 (by omega) (pp_nw_16 hO hw)]
    simp only [Option.bind_some]
    obtain ⟨μ2, j1, j2⟩ := ih f (k + 1) (pp_nw s (pp_t s + k) w 0) (x + pp_wo s (pp_t s + k) (pp_nw s (pp_t s + k) w 0)) μ1 (by omega) (by omega) (pp_nw_16 hO hw) hD1
    refine ⟨μ2, ?_, i2.trans j2⟩
    rw [j1, show n - k = (n - (k + 1)) + 1 by omega, pp_on, if_pos hk2.2, Nat.add_assoc]
theorem pp_X_on {N : Nat} {s : Nat → Int32} {n : Nat} {μ : g_M} (hN : 200 ≤ N) (hI : pp_I s) (hn : n < 100) (hD : pp_D s μ) :
    ∃ μ1 : g_M, f_X2_restWorth N (pp_i n) μ = some (pp_on s 0 n (pp_t s) (pp_w s) 0, μ1) ∧ pp_F pp_Sc μ μ1 := by
  have h16 := hI.2.2.2.2.2.2.1
  obtain ⟨μ1, i1, i2⟩ := pp_X_onL hN hI hn (if pp_e s - pp_t s < n then pp_e s - pp_t s else n) N 0 (pp_w s) 0 μ (by omega) (by split <;> omega) (fun o ho => (hI.2.2.2.2.2.2.2.2 o ho).2) hD
  refine ⟨μ1, ?_, i2⟩
  unfold f_X2_restWorth
  rw [hD.2.1]
  rw [show pp_i 0 = (0 : Int32) from rfl] at i1
  rw [i1]
  rfl
