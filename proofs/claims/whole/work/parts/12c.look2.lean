/-! ===== calls that look ahead: pairs, weddings, mate ===== -/
/-- how many k of m from one on are so -/
def pp_ct (p : Nat → Bool) : Nat → Nat → Nat
  | 0, _ => 0
  | m + 1, k => (if p k = true then 1 else 0) + pp_ct p m (k + 1)
theorem pp_ct_le {p : Nat → Bool} : ∀ m k : Nat, pp_ct p m k ≤ m
  | 0, _ => Nat.le_refl _
  | m + 1, k => by
    have := pp_ct_le (p := p) m (k + 1)
    rw [pp_ct]
    split <;> omega
theorem pp_X_prI {N : Nat} {s : Nat → Int32} {μ : g_M} {o : Nat} (hB : pp_B s) (hC : pp_C s μ) (ho : o < pp_n s) : ∀ (m fuel k x : Nat), k + m = pp_n s → m < fuel → o < k → f_X11_pairs_L19 N fuel (pp_i x) (pp_i o) (pp_i k) μ = some (pp_i (x + pp_ct (pp_pr s o) m k)) := by
  have hB2 := hB.2
  intro m
  induction m with
  | zero =>
    intro fuel k x hk hf hok
    obtain ⟨f, rfl⟩ := pp_fu hf
    rw [f_X11_pairs_L19, hC.1, hB.1, pp_ite (pp_ge (by omega) (by omega)), if_pos (by omega)]
    rfl
  | succ m ih =>
    intro fuel k x hk hf hok
    obtain ⟨f, rfl⟩ := pp_fu hf
    rw [f_X11_pairs_L19, hC.1, hB.1, pp_ite (pp_ge (by omega) (by omega)), if_neg (by omega), pp_X_pair hB2 hC ho (by omega) (by omega), show pp_i k + 1 = pp_i (k + 1) from pp_add k 1, show pp_i x + 1 = pp_i (x + 1) from pp_add x 1, pp_ct]
    simp only [Option.bind_some]
    cases hp : pp_pr s o k with
    | true =>
      rw [if_pos rfl, if_neg (show ¬ ((1 : Int32) = 0) by decide), ih f (k + 1) (x + 1) (by omega) (by omega) (by omega), if_pos rfl, Nat.add_assoc]
    | false =>
      rw [if_neg (show ¬ (false = true) by decide), if_pos rfl, ih f (k + 1) x (by omega) (by omega) (by omega), if_neg (show ¬ (false = true) by decide), Nat.zero_add]
def pp_cX (s : Nat → Int32) (n : Nat) : Nat → Nat → Nat
  | 0, _ => 0
  | m + 1, o => pp_ct (pp_pr s o) m (o + 1) + pp_cX s n m (o + 1)
theorem pp_X_prO {N : Nat} {s : Nat → Int32} {μ : g_M} (hN : 200 ≤ N) (hB : pp_B s) (hC : pp_C s μ) : ∀ (m fuel o x : Nat), o + m = pp_n s → m < fuel → f_X11_pairs_L4 N fuel (pp_i x) (pp_i o) μ = some (pp_i (x + pp_cX s (pp_n s) m o)) := by
  have hB2 := hB.2
  intro m
  induction m with
  | zero =>
    intro fuel o x ho hf
    obtain ⟨f, rfl⟩ := pp_fu hf
    rw [f_X11_pairs_L4, hC.1, hB.1, pp_ite (pp_ge (by omega) (by omega)), if_pos (by omega)]
    rfl
  | succ m ih =>
    intro fuel o x ho hf
    obtain ⟨f, rfl⟩ := pp_fu hf
    rw [f_X11_pairs_L4, hC.1, hB.1, pp_ite (pp_ge (by omega) (by omega)), if_neg (by omega), show pp_i o + 1 = pp_i (o + 1) from pp_add o 1]
    simp only [Option.bind_some]
    rw [pp_X_prI hB hC (by omega) m N (o + 1) x (by omega) (by omega) (by omega)]
    simp only [Option.bind_some]
    rw [ih f (o + 1) _ (by omega) (by omega), pp_cX, Nat.add_assoc]
theorem pp_M_prI {N : Nat} {s : Nat → Int32} {μ : g_M} {a : Nat} (hI : pp_I s) (h1 : μ 1 = s) (ha : a < pp_n s) : ∀ (m fuel k x : Nat), k + m = a → m < fuel → f_X12_pairs_L16 N fuel (pp_i x) (pp_i a) (pp_i k) μ = some (pp_i (x + pp_ct (pp_pr s a) m k)) := by
  have hB2 := hI.1.2
  intro m
  induction m with
  | zero =>
    intro fuel k x hk hf
    obtain ⟨f, rfl⟩ := pp_fu hf
    rw [f_X12_pairs_L16, pp_ite (pp_ge (by omega) (by omega)), if_pos (by omega)]
    rfl
  | succ m ih =>
    intro fuel k x hk hf
    obtain ⟨f, rfl⟩ := pp_fu hf
    rw [f_X12_pairs_L16, pp_ite (pp_ge (by omega) (by omega)), if_neg (by omega), pp_M_pair hI h1 (by omega) (by omega), show pp_i k + 1 = pp_i (k + 1) from pp_add k 1, show pp_i x + 1 = pp_i (x + 1) from pp_add x 1, show pp_i x + 0 = pp_i x from pp_add x 0, pp_ct]
    simp only [Option.bind_some]
    cases hp : pp_pr s a k with
    | true =>
      rw [if_pos rfl, if_neg (show ¬ ((1 : Int32) = 0) by decide), ih f (k + 1) (x + 1) (by omega) (by omega), if_pos rfl, Nat.add_assoc]
    | false =>
      rw [if_neg (show ¬ (false = true) by decide), if_pos rfl, ih f (k + 1) x (by omega) (by omega), if_neg (show ¬ (false = true) by decide), Nat.zero_add]
def pp_cM (s : Nat → Int32) : Nat → Nat → Nat
  | 0, _ => 0
  | m + 1, a => pp_ct (pp_pr s a) a 0 + pp_cM s m (a + 1)
theorem pp_M_prO {N : Nat} {s : Nat → Int32} {μ : g_M} (hN : 200 ≤ N) (hI : pp_I s) (h1 : μ 1 = s) : ∀ (m fuel a x : Nat), a + m = pp_n s → m < fuel → f_X12_pairs_L4 N fuel (pp_i x) (pp_i a) μ = some (pp_i (x + pp_cM s m a)) := by
  have hB2 := hI.1.2
  intro m
  induction m with
  | zero =>
    intro fuel o x ho hf
    obtain ⟨f, rfl⟩ := pp_fu hf
    rw [f_X12_pairs_L4, h1, hI.1.1, pp_ite (pp_ge (by omega) (by omega)), if_pos (by omega)]
    rfl
  | succ m ih =>
    intro fuel o x ho hf
    obtain ⟨f, rfl⟩ := pp_fu hf
    rw [f_X12_pairs_L4, h1, hI.1.1, pp_ite (pp_ge (by omega) (by omega)), if_neg (by omega), show pp_i o + 1 = pp_i (o + 1) from pp_add o 1, show (0 : Int32) = pp_i 0 from rfl, pp_M_prI hI h1 (by omega) o N 0 x (by omega) (by omega)]
    simp only [Option.bind_some]
    rw [ih f (o + 1) _ (by omega) (by omega), pp_cM, Nat.add_assoc]
theorem pp_pr_sym {s : Nat → Int32} (o k : Nat) : pp_pr s o k = pp_pr s k o := by
  unfold pp_pr
  rw [decide_eq_decide]
  exact And.comm
theorem pp_cXM {s : Nat → Int32} {n : Nat} (h : n ≤ 6) : pp_cX s n n 0 = pp_cM s n 0 := by
  have e := fun o k => pp_pr_sym (s := s) o k
  have hn : n = 0 ∨ n = 1 ∨ n = 2 ∨ n = 3 ∨ n = 4 ∨ n = 5 ∨ n = 6 := by omega
  rcases hn with rfl | rfl | rfl | rfl | rfl | rfl | rfl <;> simp only [pp_cX, pp_cM, pp_ct, Nat.zero_add, Nat.reduceAdd, e 1 0, e 2 0, e 3 0, e 4 0, e 5 0, e 2 1, e 3 1, e 4 1, e 5 1, e 3 2, e 4 2, e 5 2, e 4 3, e 5 3, e 5 4] <;> omega
theorem pp_c_pairs {N t L u Lu : Nat} {μX μM : g_M} (hN : 1000 ≤ N) (h : pp_Rel t L u Lu μX μM) : ∃ (v : Int32), f_X11_pairs N μX = some v ∧ f_X12_pairs N μM = some v ∧ pp_Rel t L u Lu μX μM := by
  obtain ⟨hI, hD, hR, hp⟩ := h.2.2.1
  have hn := hI.1.2
  have hX := pp_X_prO (N := N) (by omega) hI.1 hD.1 (pp_n (μM 1)) N 0 0 (by omega) (by omega)
  have hM := pp_M_prO (N := N) (by omega) hI rfl (pp_n (μM 1)) N 0 0 (by omega) (by omega)
  have hX : f_X11_pairs_L4 N N 0 0 μX = _ := hX
  have hM : f_X12_pairs_L4 N N 0 0 μM = _ := hM
  unfold f_X11_pairs f_X12_pairs
  rw [hX, hM, pp_cXM hn]
  exact ⟨_, rfl, rfl, h⟩
theorem pp_mkF (n : Nat) : pp_mk (fun _ => false) n = 0 := by
  rw [pp_mk_0]
  intro o _ q
  exact absurd q (by decide)
theorem pp_mkT : ∀ n : Nat, pp_mk (fun _ => true) n = 2 ^ n - 1
  | 0 => rfl
  | n + 1 => by
    have := Nat.one_le_two_pow (n := n)
    rw [pp_mk, pp_mkT n, if_pos rfl, Nat.pow_succ]
    omega
theorem pp_M_fw {N : Nat} {s : Nat → Int32} {μ : g_M} (hN : 200 ≤ N) (hI : pp_I s) (h1 : μ 1 = s) : ∃ (μ1 : g_M) (p l : Nat), f_X12_findsWeddings N μ = some μ1 ∧ μ1 1 = s ∧ pp_F pp_SW μ μ1 ∧ pp_mw s (pp_n s) 0 (fun _ => false) = 1000 * p + l ∧ l < 1000 ∧ p ≤ 6 ∧ μ1 0 18 = pp_i p ∧ μ1 0 19 = pp_i l ∧ ∀ i, i < pp_n s → μ1 8 i = pp_i (pp_gm s (pp_n s) 0 (fun _ => false) (fun _ => 0) i) := by
  have hn := hI.1.2
  generalize hμ : g_set (g_set μ 0 18 (-1)) 0 19 0 = μ2
  have hr : ∀ a, a ≠ 0 → μ2 a = μ a := fun a ha => by rw [← hμ, pp_rowN ha, pp_rowN ha]
  have hf : pp_F pp_SW μ μ2 := by
    rw [← hμ]
    exact (pp_F.set (by decide)).trans (pp_F.set (by decide))
  have hW : pp_WR μ2 (pp_n s) (0, fun _ => 0) := by
    rw [← hμ]
    exact ⟨Or.inl ⟨rfl, rfl, rfl⟩, Or.inl rfl⟩
  obtain ⟨μ1, i1, i2, i3, -, i5⟩ := pp_M_weds (N := N) hN hI (pp_n s) 8 0 0 0 (fun _ => false) (fun _ => 0) (0, fun _ => 0) μ2 (by omega) (by omega) (by rw [hr 1 (by decide), h1]) hW (fun i _ hi => by
    rcases hi with hi | hi
    · omega
    · exact absurd hi (by decide)) (Nat.le_refl _) (Nat.le_refl _)
  have i1 : f_X12_weds N 8 (pp_i 0) (pp_i (pp_mk (fun _ => false) (pp_n s))) (pp_i 0) (pp_i 0) μ2 = some μ1 := i1
  rw [pp_mkF] at i1
  have i1 : f_X12_weds N 8 0 0 0 0 μ2 = some μ1 := i1
  rw [if_pos (by show 0 < _; omega)] at i3
  obtain ⟨j1, j2⟩ := i3
  have hz : ¬ (1 + 1000 * 0 + 0 + pp_mw s (pp_n s) 0 (fun _ => false) = 0) := by omega
  rcases j1 with j1 | ⟨p, l, j3, j4, j5, j6, j7⟩
  · exact absurd j1.1 hz
  · rcases j2 with j2 | j2
    · exact absurd j2 hz
    · refine ⟨μ1, p, l, ?_, i2, hf.trans i5, ?_, j4, j5, j6, j7, j2⟩
      · unfold f_X12_findsWeddings
        simp only [Option.bind_some]
        rw [hμ, i1]
        rfl
      · have j3 : 1 + 1000 * 0 + 0 + pp_mw s (pp_n s) 0 (fun _ => false) = 1 + 1000 * p + l := j3
        omega
theorem pp_X_evT {s : Nat → Int32} {μ : g_M} (hB : pp_B s) (h : μ 1 11 = s 0) : f_X9_everybody μ = pp_i (pp_mk (fun _ => true) (pp_n s)) := by
  rw [pp_X_ev hB h, pp_mkT]
theorem pp_c_weddings {N t L u Lu : Nat} {μX μM : g_M} {a : Int32} (hN : 1000 ≤ N) (h : pp_Rel t L u Lu μX μM) : ∃ (v : Int32) (μM1 : g_M), f_X11_weddings N a μX = some v ∧ f_X12_weddings N a μM = some (v, μM1) ∧ pp_Rel t L u Lu μX μM1 := by
  obtain ⟨hI, hD, hR, hp⟩ := h.2.2.1
  have hn := hI.1.2
  unfold f_X11_weddings f_X2_mostWeddings f_X12_weddings
  rcases pp_btw (a := a) (lo := 0) (hi := 1) (by decide) (by decide) with ⟨e1, e2⟩ | ⟨k, k1, k2, rfl, e1, e2⟩
  · have e1 : f_X11_isBetween a 0 1 = 0 := e1
    have e2 : f_X12_isIn a.toInt64 0 1 = 0 := e2
    rw [if_pos e1, if_pos e2]
    exact ⟨_, _, rfl, rfl, h⟩
  · have e1 : f_X11_isBetween (pp_i k) 0 1 = 1 := e1
    have e2 : f_X12_isIn (pp_i k).toInt64 0 1 = 1 := e2
    obtain ⟨μM1, p, l, m1, m2, m3, m4, m5, m6, m7, m8, m9⟩ := pp_M_fw (N := N) (μ := μM) (by omega) hI rfl
    have x1 := pp_X_mw (N := N) (by omega) hI hD.1 (pp_n (μM 1)) 8 0 (fun _ => false) (by omega) (by omega)
    have x1 : f_X2_mostWed N 8 (pp_i (pp_mk (fun _ => true) (pp_n (μM 1)))) 0 μX = _ := x1
    have hl := pp_look h pp_F.refl (m3.mono (fun a b => pp_SW_t)) m2
    rw [if_neg (pp_n10 e1), if_neg (pp_n10 e2), pp_X_evT hI.1 hD.1.1, x1, m1]
    simp only [Option.bind_some]
    by_cases c : pp_i k = 0
    · rw [if_pos c, if_pos c, m4, m7, show (1000 : Int32) = pp_i 1000 from rfl, pp_div (by omega) (by omega), show (1000 * p + l) / 1000 = p by omega]
      exact ⟨_, _, rfl, rfl, hl⟩
    · rw [if_neg c, if_neg c, m4, m8, show (1000 : Int32) = pp_i 1000 from rfl, pp_rem (by omega) (by omega), show (1000 * p + l) % 1000 = l by omega]
      exact ⟨_, _, rfl, rfl, hl⟩
theorem pp_mt {z : Option (Int32 ⊕ Unit)} {v : Int32} (h : (match z with | none => none | some (.inl q) => some q | some (.inr _) => some 6) = some v) : ((z.bind fun w3 => (match w3 with | .inl q => some q | .inr _ => some 6)).bind fun x2 => some x2) = some v := by
  rcases z with _ | ⟨q | q⟩ <;> exact h
theorem pp_c_mate {N t L u Lu : Nat} {μX μM : g_M} {a : Int32} (hN : 1000 ≤ N) (h : pp_Rel t L u Lu μX μM) : ∃ (v : Int32) (μM1 : g_M), f_X11_mate N a μX = some v ∧ f_X12_mate N a μM = some (v, μM1) ∧ pp_Rel t L u Lu μX μM1 := by
  obtain ⟨hI, hD, hR, hp⟩ := h.2.2.1
  have hn := hI.1.2
  unfold f_X11_mate f_X12_mate
  rcases pp_ovn (a := a) hI.1 hD.1.1 rfl with ⟨e1, e2⟩ | ⟨o, ho, rfl, e1, e2⟩
  · rw [if_pos e1, if_pos e2]
    exact ⟨_, _, rfl, rfl, h⟩
  · obtain ⟨μM1, p, l, m1, m2, m3, m4, m5, m6, m7, m8, m9⟩ := pp_M_fw (N := N) (μ := μM) (by omega) hI rfl
    obtain ⟨r, hr⟩ : ∃ r, pp_n (μM 1) = r + 1 := ⟨pp_n (μM 1) - 1, by omega⟩
    have x1 := pp_X_mateL (N := N) (by omega) hI hD.1 ho (o + 1) N 0 r (fun _ => false) (fun _ => 0) (by omega) (by omega) (by omega) (by omega) (by decide)
    have hl := pp_look h pp_F.refl (m3.mono (fun a b => pp_SW_t)) m2
    rw [if_neg (pp_n10 e1), if_neg (pp_n10 e2), m1]
    unfold f_X2_mateOf
    rw [pp_X_evT hI.1 hD.1.1]
    simp only [Option.bind_some]
    rw [pp_rd (by omega) (by decide), m9 o ho]
    rw [← hr] at x1
    exact ⟨_, _, pp_mt x1, rfl, hl⟩
