/-! ===== the fewest chains ===== -/
def pp_pc (k : Nat) : Nat := k % 2 + k / 2 % 2 + k / 4 % 2 + k / 8 % 2 + k / 16 % 2 + k / 32 % 2
theorem pp_pc_le (k : Nat) : pp_pc k ≤ 6 := by
  unfold pp_pc
  omega
theorem pp_size_c : ∀ k : Fin 64, f_X12_size_L4 0 7 0 (pp_i k.val) = some (pp_i (pp_pc k.val)) := by decide +kernel
theorem pp_size_mono {N : Nat} : ∀ (n : Nat) (x y z : Int32), f_X12_size_L4 N n x y = some z → ∀ (N2 k : Nat), f_X12_size_L4 N2 (n + k) x y = some z := by
  intro n
  induction n with
  | zero =>
    intro x y z h
    rw [f_X12_size_L4] at h
    cases h
  | succ n ih =>
    intro x y z h N2 k
    rw [show n + 1 + k = (n + k) + 1 by omega, f_X12_size_L4]
    rw [f_X12_size_L4] at h
    by_cases c : y = 0
    · rw [if_pos c] at h ⊢
      exact h
    · rw [if_neg c] at h ⊢
      simp only [Option.bind_some] at h ⊢
      exact ih _ _ _ h N2 k
theorem pp_size {N k : Nat} (hN : 200 ≤ N) (hk : k < 64) : f_X12_size N (pp_i k) = some (pp_i (pp_pc k)) := by
  have h := pp_size_mono 7 0 (pp_i k) _ (pp_size_c ⟨k, hk⟩) N (N - 7)
  rw [show 7 + (N - 7) = N by omega] at h
  unfold f_X12_size
  rw [h]
  rfl
theorem pp_bc_c : ∀ k : Fin 64, f_J6_bitCount_0f7a4 (pp_i k.val) = some (pp_i (pp_pc k.val)) := by decide +kernel
theorem pp_bc {k : Nat} (hk : k < 64) : f_J6_bitCount_0f7a4 (pp_i k) = some (pp_i (pp_pc k)) := pp_bc_c ⟨k, hk⟩
theorem pp_pc_ev : ∀ n : Fin 7, ∀ k : Fin 64, k.val < 2 ^ n.val - 1 → pp_pc k.val < pp_pc (2 ^ n.val - 1) := by decide +kernel
theorem pp_ev_bit : ∀ n : Fin 7, ∀ o : Fin 6, o.val < n.val → (2 ^ n.val - 1) / 2 ^ o.val % 2 = 1 := by decide +kernel
theorem pp_shl_n : ∀ n : Fin 7, ((1 : Int32) <<< (pp_i n.val &&& 31)) = pp_i (2 ^ n.val) := by decide +kernel
theorem pp_2n {n : Nat} (h : n ≤ 6) : 1 ≤ 2 ^ n ∧ 2 ^ n ≤ 64 := ⟨Nat.one_le_two_pow, Nat.pow_le_pow_right (n := 2) (by decide) h⟩
theorem pp_X_ev {s : Nat → Int32} {μ : g_M} (hB : pp_B s) (h : μ 1 11 = s 0) : f_X9_everybody μ = pp_i (2 ^ pp_n s - 1) := by
  have hB2 := hB.2
  have e : ((1 : Int32) <<< (pp_i (pp_n s) &&& 31)) = pp_i (2 ^ pp_n s) := pp_shl_n ⟨pp_n s, by omega⟩
  unfold f_X9_everybody
  rw [h, hB.1, e, show (1 : Int32) = pp_i 1 from rfl, pp_sub (pp_2n hB2).1]
/-- whether nobody goes off in m nights, c being chained -/
def pp_sl (s : Nat → Int32) (c : Nat) : Nat → Nat → (Nat → Nat) → Bool
  | 0, _, _ => true
  | m + 1, t, w => if pp_mk (pp_go s t w c) 6 = 0 then pp_sl s c m (t + 1) (pp_nw s t w c) else false
theorem pp_go_n {s : Nat → Int32} {t c o : Nat} {w : Nat → Nat} (h : pp_go s t w c o = true) : o < pp_n s := (of_decide_eq_true h).1
theorem pp_mk_0 {p : Nat → Bool} {n : Nat} : (pp_mk p n = 0) = (∀ o, o < n → ¬ p o = true) := by
  refine propext ⟨fun h o ho hp => ?_, fun h => ?_⟩
  · have := pp_mk_at p o n
    rw [h, if_pos ⟨ho, hp⟩, Nat.zero_div] at this
    cases this
  · have h2 : pp_mk p n = pp_mk (fun _ => false) n := pp_mk_congr (fun o ho => by
      have := h o ho
      cases hq : p o
      · rfl
      · exact absurd hq this)
    rw [h2]
    clear h h2
    induction n with
    | zero => rfl
    | succ n ih => rw [pp_mk, ih]; rfl
theorem pp_still_eq {s : Nat → Int32} {t c : Nat} {w : Nat → Nat} (hB2 : pp_n s ≤ 6) (hO : pp_O s) (hw : ∀ o, o < pp_n s → w o < 16) : (pp_i (pp_pk (pp_nw s t w c) (pp_n s)) = pp_i (pp_pk (fun k => w k - 1) (pp_n s))) = (pp_mk (pp_go s t w c) 6 = 0) := by
  have hw1 := pp_nw_16 (t := t) (c := c) hO hw
  have hw2 : ∀ o, o < pp_n s → (fun k => w k - 1) o < 16 := fun o ho => by have := hw o ho; dsimp only; omega
  have b1 := pp_pk_24 hB2 hw1
  have b2 := pp_pk_24 hB2 hw2
  rw [pp_eq (by omega) (by omega), pp_mk_0]
  refine propext ⟨fun h o ho hg => ?_, fun h => ?_⟩
  · have ho2 := pp_go_n hg
    have h1 := pp_pk_at (o := o) hw1
    have h2 := pp_pk_at (o := o) hw2
    rw [h, h2, if_pos ho2, if_pos ho2] at h1
    have h3 : w o < pp_nw s t w c o := by rw [← pp_go_up hB2]; exact hg
    omega
  · refine pp_pk_congr (fun o ho => ?_)
    have hn := h o (by omega)
    unfold pp_nw
    exact if_neg hn
theorem pp_M_stillL {N : Nat} {s : Nat → Int32} {c : Nat} (hN : 200 ≤ N) (hI : pp_I s) (hc : c < 64) : ∀ (m fuel t : Nat) (w : Nat → Nat) (sc : Int32) (μ : g_M), t + m = pp_e s → m + 1 < fuel → (∀ o, o < pp_n s → w o < 16) → μ 1 = pp_put s t w sc →
    ∃ (μ1 : g_M) (t1 : Nat) (w1 : Nat → Nat) (sc1 : Int32), f_X12_isStill_L7 N fuel (pp_i c) 1 μ = some (if pp_sl s c m t w = true then 1 else 0, μ1) ∧ μ1 1 = pp_put s t1 w1 sc1 ∧ pp_F pp_SG μ μ1 := by
  obtain ⟨hB, hO, hR, hT⟩ := hI
  have hB2 := hB.2
  have h16 := hT.2.2.2.1
  intro m
  induction m with
  | zero =>
    intro fuel t w sc μ hk hf hw h1
    obtain ⟨f, rfl⟩ := pp_fu hf
    rw [f_X12_isStill_L7, pp_ite (pp_M_ov hT (by omega) h1), if_neg (by omega)]
    exact ⟨μ, t, w, sc, rfl, h1, pp_F.refl⟩
  | succ m ih =>
    intro fuel t w sc μ hk hf hw h1
    obtain ⟨f, rfl⟩ := pp_fu hf
    obtain ⟨μ1, i1, i2, i3, i4⟩ := pp_M_go (c := c) hN hB hR hO hc (by omega) hw h1
    rw [f_X12_isStill_L7, pp_ite (pp_M_ov hT (by omega) h1), if_pos (by omega), if_neg (by decide), i1]
    simp only [Option.bind_some]
    have h64 : pp_mk (pp_go s t w c) 6 < 64 := pp_mk_64 (by omega)
    rw [i3, pp_ite (pp_e0 (by omega)), pp_sl]
    by_cases h : pp_mk (pp_go s t w c) 6 = 0
    · rw [if_pos h, if_pos h]
      obtain ⟨μ2, t1, w1, sc1, j1, j2, j3⟩ := ih f (t + 1) (pp_nw s t w c) _ μ1 (by omega) (by omega) (pp_nw_16 hO hw) i2
      exact ⟨μ2, t1, w1, sc1, j1, j2, i4.trans j3⟩
    · rw [if_neg h, if_neg h]
      obtain ⟨f2, rfl⟩ := pp_fu (show 0 < f by omega)
      rw [f_X12_isStill_L7, if_pos (show (0 : Int32) = 0 from rfl), ite_self]
      exact ⟨μ1, t + 1, _, _, rfl, i2, i4⟩
theorem pp_M_still {N : Nat} {s : Nat → Int32} {c : Nat} {μ : g_M} (hN : 200 ≤ N) (hI : pp_I s) (hc : c < 64) (h1 : μ 1 = s) :
    ∃ μ1 : g_M, f_X12_isStill N (pp_i c) μ = some (if pp_sl s c (pp_e s - pp_t s) (pp_t s) (pp_w s) = true then 1 else 0, μ1) ∧ μ1 1 = s ∧ pp_F pp_SL μ μ1 := by
  have hs := pp_self hI.2.2.2
  have h16 := hI.2.2.2.2.2.2.1
  have hte := hI.2.2.2.2.2.2.2.1
  have h1' : μ 1 = pp_put s (pp_t s) (pp_w s) (s 3) := h1.trans hs
  obtain ⟨fa, a1, a2, a3⟩ := pp_A_aside (N := N) (lev := 0) (μ := μ) hN (by decide)
  obtain ⟨μ2, t1, w1, sc1, j1, j2, j3⟩ := pp_M_stillL hN hI hc (pp_e s - pp_t s) N (pp_t s) (pp_w s) (s 3) (pp_rw μ 3 fa) (by omega) (by omega) (fun o ho => (hI.2.2.2.2.2.2.2.2 o ho).2) (by rw [pp_rw_n (by decide), h1'])
  obtain ⟨b1, b2, b3⟩ := pp_M_lay hN hI h1' a2 j2 j3
  rw [show pp_i 0 = (0 : Int32) from rfl] at a1
  refine ⟨_, ?_, b3.trans h1, b2⟩
  unfold f_X12_isStill
  rw [a1]
  simp only [Option.bind_some]
  rw [j1]
  simp only [Option.bind_some]
  rw [b1]
  simp only [Option.bind_some]
  have hz : ∀ x : Int32, (x = 0 ∨ x = 1) → g_zc x = some x := by
    intro x hx
    rcases hx with rfl | rfl <;> rfl
  rw [hz _ (by split; exact Or.inr rfl; exact Or.inl rfl)]
  rfl
theorem pp_X_nobodyL {N : Nat} {s : Nat → Int32} {c : Nat} (hN : 200 ≤ N) (hI : pp_I s) (hc : c < 64) : ∀ (m fuel t : Nat) (w : Nat → Nat) (μ : g_M), t + m = pp_e s → m < fuel → (∀ o, o < pp_n s → w o < 16) → pp_D s μ →
    ∃ (μ1 : g_M), (match f_X2_nobodyGoes_L10 N fuel (pp_i c) (pp_i (pp_pk w (pp_n s))) (pp_i t) μ with | none => none | some (.inl q) => some q | some (.inr q) => some (1, q)) = some (if pp_sl s c m t w = true then 1 else 0, μ1) ∧ pp_F pp_Sc μ μ1 := by
  obtain ⟨hB, hO, hR, hT⟩ := hI
  have hB2 := hB.2
  have h16 := hT.2.2.2.1
  intro m
  induction m with
  | zero =>
    intro fuel t w μ hk hf hw hD
    obtain ⟨f, rfl⟩ := pp_fu hf
    rw [f_X2_nobodyGoes_L10, hD.2.2.2.1, hT.2.1, pp_ite (pp_ge (by omega) (by omega)), if_pos (by omega)]
    exact ⟨μ, rfl, pp_F.refl⟩
  | succ m ih =>
    intro fuel t w μ hk hf hw hD
    obtain ⟨f, rfl⟩ := pp_fu hf
    obtain ⟨μ1, i1, i2⟩ := pp_X_after (t := t) (c := c) (w := w) hN hB hO hD.1 (by omega) hc hw
    have hD1 := hD.F i2
    rw [f_X2_nobodyGoes_L10, hD.2.2.2.1, hT.2.1, pp_ite (pp_ge (by omega) (by omega)), if_neg (by omega), i1, show pp_i t + 1 = pp_i (t + 1) from pp_add t 1]
    simp only [Option.bind_some]
    rw [pp_X_less hN hB hD1.1 hw]
    simp only [Option.bind_some]
    rw [pp_ite (pp_still_eq hB2 hO hw), pp_sl]
    by_cases h : pp_mk (pp_go s t w c) 6 = 0
    · rw [if_pos h, if_pos h]
      obtain ⟨μ2, j1, j2⟩ := ih f (t + 1) (pp_nw s t w c) μ1 (by omega) (by omega) (pp_nw_16 hO hw) hD1
      exact ⟨μ2, j1, i2.trans j2⟩
    · rw [if_neg h, if_neg h]
      exact ⟨μ1, rfl, i2⟩
theorem pp_X_nobody {N : Nat} {s : Nat → Int32} {c : Nat} {μ : g_M} (hN : 200 ≤ N) (hI : pp_I s) (hc : c < 64) (hD : pp_D s μ) :
    ∃ μ1 : g_M, f_X2_nobodyGoes N (pp_i c) μ = some (if pp_sl s c (pp_e s - pp_t s) (pp_t s) (pp_w s) = true then 1 else 0, μ1) ∧ pp_F pp_Sc μ μ1 := by
  have h16 := hI.2.2.2.2.2.2.1
  have hte := hI.2.2.2.2.2.2.2.1
  obtain ⟨μ1, j1, j2⟩ := pp_X_nobodyL hN hI hc (pp_e s - pp_t s) N (pp_t s) (pp_w s) μ (by omega) (by omega) (fun o ho => (hI.2.2.2.2.2.2.2.2 o ho).2) hD
  refine ⟨μ1, ?_, j2⟩
  unfold f_X2_nobodyGoes
  rw [hD.2.1, hD.2.2.1, hI.2.2.2.1]
  cases hc2 : f_X2_nobodyGoes_L10 N N (pp_i c) (pp_i (pp_pk (pp_w s) (pp_n s))) (pp_i (pp_t s)) μ with
  | none => rw [hc2] at j1; cases j1
  | some q =>
    rw [hc2] at j1
    cases q with
    | inl q =>
      simp only [Option.bind_some]
      exact j1
    | inr q =>
      simp only [Option.bind_some]
      exact j1
/-- the fewest of those from k on that still all, and b -/
def pp_fc (s : Nat → Int32) : Nat → Nat → Nat → Nat
  | 0, _, b => b
  | m + 1, k, b => pp_fc s m (k + 1) (if pp_pc k < pp_pc b ∧ pp_sl s k (pp_e s - pp_t s) (pp_t s) (pp_w s) = true then k else b)
theorem pp_X_fcL {N : Nat} {s : Nat → Int32} (hN : 200 ≤ N) (hI : pp_I s) : ∀ (m fuel k b : Nat) (μ : g_M), k + m = 2 ^ pp_n s - 1 → m < fuel → b < 64 → pp_D s μ →
    ∃ μ1 : g_M, f_X2_fewestChains_L7 N fuel (pp_i b) (pp_i k) μ = some (pp_i (pp_fc s m k b), μ1) ∧ pp_F pp_Sc μ μ1 := by
  have hB2 := hI.1.2
  have h64 := (pp_2n hB2).2
  intro m
  induction m with
  | zero =>
    intro fuel k b μ hk hf hb hD
    obtain ⟨f, rfl⟩ := pp_fu hf
    rw [f_X2_fewestChains_L7, pp_X_ev hI.1 hD.1.1, pp_ite (pp_ge (by omega) (by omega)), if_pos (by omega)]
    exact ⟨μ, rfl, pp_F.refl⟩
  | succ m ih =>
    intro fuel k b μ hk hf hb hD
    obtain ⟨f, rfl⟩ := pp_fu hf
    have p1 := pp_pc_le k
    have p2 := pp_pc_le b
    rw [f_X2_fewestChains_L7, pp_X_ev hI.1 hD.1.1, pp_ite (pp_ge (by omega) (by omega)), if_neg (by omega), pp_bc (by omega), pp_bc hb]
    simp only [Option.bind_some]
    rw [pp_ite (pp_ge (by omega) (by omega)), show pp_i k + 1 = pp_i (k + 1) from pp_add k 1, pp_fc]
    by_cases c : pp_pc b ≤ pp_pc k
    · rw [if_pos c, if_neg (fun q => by omega)]
      exact ih f (k + 1) b μ (by omega) (by omega) hb hD
    · obtain ⟨μ1, i1, i2⟩ := pp_X_nobody hN hI (show k < 64 by omega) hD
      rw [if_neg c, i1]
      simp only [Option.bind_some]
      by_cases c2 : pp_sl s k (pp_e s - pp_t s) (pp_t s) (pp_w s) = true
      · rw [if_pos c2, if_neg (by decide), if_pos ⟨by omega, c2⟩]
        obtain ⟨μ2, j1, j2⟩ := ih f (k + 1) k μ1 (by omega) (by omega) (by omega) (hD.F i2)
        exact ⟨μ2, j1, i2.trans j2⟩
      · rw [if_neg c2, if_pos rfl, if_neg (fun q => c2 q.2)]
        obtain ⟨μ2, j1, j2⟩ := ih f (k + 1) b μ1 (by omega) (by omega) hb (hD.F i2)
        exact ⟨μ2, j1, i2.trans j2⟩
theorem pp_X_fc {N : Nat} {s : Nat → Int32} {μ : g_M} (hN : 200 ≤ N) (hI : pp_I s) (hD : pp_D s μ) :
    ∃ μ1 : g_M, f_X2_fewestChains N μ = some (pp_i (pp_fc s (2 ^ pp_n s - 1) 0 (2 ^ pp_n s - 1)), μ1) ∧ pp_F pp_Sc μ μ1 := by
  have h64 := (pp_2n hI.1.2).2
  obtain ⟨μ1, j1, j2⟩ := pp_X_fcL hN hI (2 ^ pp_n s - 1) N 0 (2 ^ pp_n s - 1) μ (by omega) (by omega) (by omega) hD
  refine ⟨μ1, ?_, j2⟩
  unfold f_X2_fewestChains
  rw [pp_X_ev hI.1 hD.1.1]
  simp only [Option.bind_some]
  rw [show pp_i 0 = (0 : Int32) from rfl] at j1
  rw [j1]
  rfl
theorem pp_sl_ev {s : Nat → Int32} (hB2 : pp_n s ≤ 6) : ∀ (m t : Nat) (w : Nat → Nat), pp_sl s (2 ^ pp_n s - 1) m t w = true
  | 0, _, _ => rfl
  | m + 1, t, w => by
    rw [pp_sl, if_pos]
    · exact pp_sl_ev hB2 m _ _
    · rw [pp_mk_0]
      intro o ho hg
      have hg2 := of_decide_eq_true hg
      rcases @pp_co_le s t o (pp_fr s t (fun k => w k - 1) (2 ^ pp_n s - 1)) with h | h
      · have := hg2.2.1
        omega
      · have h3 := (of_decide_eq_true h.2.2.2).2.1
        have h4 := pp_ev_bit ⟨pp_n s, by omega⟩ ⟨o, ho⟩ hg2.1
        dsimp only at h4
        omega
theorem pp_fc_le {s : Nat → Int32} {n : Nat} : ∀ (m k b : Nat), k + m = n → b ≤ n → pp_fc s m k b ≤ n
  | 0, _, _, _, h => h
  | m + 1, k, b, hk, h => by
    rw [pp_fc]
    refine pp_fc_le m (k + 1) _ (by omega) ?_
    split <;> omega
theorem pp_M_fcL {N : Nat} {s : Nat → Int32} {x1 : Int32} (hN : 200 ≤ N) (hI : pp_I s) : ∀ (m fuel k b : Nat) (x : Int32) (μ : g_M), k + m = 2 ^ pp_n s - 1 → m + 1 < fuel → ((x = -1 ∧ b = 2 ^ pp_n s - 1) ∨ (x = pp_i b ∧ b < 2 ^ pp_n s - 1)) → μ 1 = s →
    ∃ μ1 : g_M, f_X12_chains_L16 N fuel x1 x (pp_i k) μ = some (pp_i (pp_fc s m k b), μ1) ∧ μ1 1 = s ∧ pp_F pp_SL μ μ1 := by
  have hB2 := hI.1.2
  have h64 := (pp_2n hB2).2
  have h1n := (pp_2n hB2).1
  have e : ((1 : Int32) <<< (pp_i (pp_n s) &&& 31)) = pp_i (2 ^ pp_n s) := pp_shl_n ⟨pp_n s, by omega⟩
  intro m
  induction m with
  | zero =>
    intro fuel k b x μ hk hf hx h1
    obtain ⟨f, rfl⟩ := pp_fu hf
    obtain ⟨f2, rfl⟩ := pp_fu (show 0 < f by omega)
    have h0 : μ 1 0 = pp_i (pp_n s) := by rw [h1]; exact hI.1.1
    rw [f_X12_chains_L16, h0, e, pp_ite (pp_ge (by omega) (by omega)), if_neg (by omega), show pp_i k + 1 = pp_i (k + 1) from pp_add k 1]
    rcases hx with ⟨hx, hb⟩ | ⟨hx, hb⟩
    · obtain ⟨μ1, i1, i2, i3⟩ := pp_M_still hN hI (show k < 64 by omega) h1
      have h0' : μ1 1 0 = pp_i (pp_n s) := by rw [i2]; exact hI.1.1
      rw [hx, if_pos (by decide), i1]
      simp only [Option.bind_some]
      rw [show k = 2 ^ pp_n s - 1 by omega, pp_sl_ev hB2, if_pos rfl, if_neg (by decide), f_X12_chains_L16, h0', e, pp_ite (pp_ge (by omega) (by omega)), if_pos (by omega), hb]
      exact ⟨μ1, rfl, i2, i3⟩
    · have p1 := pp_pc_le k
      have p2 := pp_pc_le b
      have p3 := pp_pc_ev ⟨pp_n s, by omega⟩ ⟨b, by omega⟩ hb
      dsimp only at p3
      rw [hx, if_neg (show ¬ (pp_i b < 0) by rw [show (0 : Int32) = pp_i 0 from rfl, pp_lt (by omega) (by omega)]; omega), pp_size hN (by omega), pp_size hN (by omega)]
      simp only [Option.bind_some]
      rw [pp_ite (pp_ge (by omega) (by omega)), if_pos (by rw [show k = 2 ^ pp_n s - 1 by omega]; omega), f_X12_chains_L16, h0, e, pp_ite (pp_ge (by omega) (by omega)), if_pos (by omega)]
      exact ⟨μ, rfl, h1, pp_F.refl⟩
  | succ m ih =>
    intro fuel k b x μ hk hf hx h1
    obtain ⟨f, rfl⟩ := pp_fu hf
    have h0 : μ 1 0 = pp_i (pp_n s) := by rw [h1]; exact hI.1.1
    have p1 := pp_pc_le k
    have p2 := pp_pc_le b
    have p4 := pp_pc_ev ⟨pp_n s, by omega⟩ ⟨k, by omega⟩ (show k < 2 ^ pp_n s - 1 by omega)
    dsimp only at p4
    rw [f_X12_chains_L16, h0, e, pp_ite (pp_ge (by omega) (by omega)), if_neg (by omega), show pp_i k + 1 = pp_i (k + 1) from pp_add k 1, pp_fc]
    obtain ⟨μ1, i1, i2, i3⟩ := pp_M_still hN hI (show k < 64 by omega) h1
    rcases hx with ⟨hx, hb⟩ | ⟨hx, hb⟩
    · rw [hx, if_pos (by decide), i1]
      simp only [Option.bind_some]
      by_cases c2 : pp_sl s k (pp_e s - pp_t s) (pp_t s) (pp_w s) = true
      · rw [if_pos c2, if_neg (by decide), if_pos ⟨by rw [hb]; exact p4, c2⟩]
        obtain ⟨μ2, j1, j2, j3⟩ := ih f (k + 1) k (pp_i k) μ1 (by omega) (by omega) (Or.inr ⟨rfl, by omega⟩) i2
        exact ⟨μ2, j1, j2, i3.trans j3⟩
      · rw [if_neg c2, if_pos rfl, if_neg (fun q => c2 q.2)]
        obtain ⟨μ2, j1, j2, j3⟩ := ih f (k + 1) b (-1) μ1 (by omega) (by omega) (Or.inl ⟨rfl, hb⟩) i2
        exact ⟨μ2, j1, j2, i3.trans j3⟩
    · rw [hx, if_neg (show ¬ (pp_i b < 0) by rw [show (0 : Int32) = pp_i 0 from rfl, pp_lt (by omega) (by omega)]; omega), pp_size hN (by omega), pp_size hN (by omega)]
      simp only [Option.bind_some]
      rw [pp_ite (pp_ge (by omega) (by omega))]
      by_cases c : pp_pc b ≤ pp_pc k
      · rw [if_pos c, if_neg (fun q => by omega)]
        exact ih f (k + 1) b _ μ (by omega) (by omega) (Or.inr ⟨rfl, hb⟩) h1
      · rw [if_neg c, i1]
        simp only [Option.bind_some]
        by_cases c2 : pp_sl s k (pp_e s - pp_t s) (pp_t s) (pp_w s) = true
        · rw [if_pos c2, if_neg (by decide), if_pos ⟨by omega, c2⟩]
          obtain ⟨μ2, j1, j2, j3⟩ := ih f (k + 1) k (pp_i k) μ1 (by omega) (by omega) (Or.inr ⟨rfl, by omega⟩) i2
          exact ⟨μ2, j1, j2, i3.trans j3⟩
        · rw [if_neg c2, if_pos rfl, if_neg (fun q => c2 q.2)]
          obtain ⟨μ2, j1, j2, j3⟩ := ih f (k + 1) b (pp_i b) μ1 (by omega) (by omega) (Or.inr ⟨rfl, hb⟩) i2
          exact ⟨μ2, j1, j2, i3.trans j3⟩
