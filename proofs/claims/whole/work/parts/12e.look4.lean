/-! ===== sets of ovens; kept, bars, play ===== -/
theorem pp_oset {s : Nat → Int32} {μX μM : g_M} {a : Int32} (hB : pp_B s) (h0 : μX 1 11 = s 0) (hs : μM 1 = s) : (f_X11_isOvenSet a μX = 0 ∧ f_X12_isSet a μM = 0) ∨ (∃ k : Nat, k < 2 ^ pp_n s ∧ a = pp_i k ∧ f_X11_isOvenSet a μX = 1 ∧ f_X12_isSet a μM = 1) := by
  have hB2 := hB.2
  obtain ⟨h1, h2⟩ := pp_2n hB2
  unfold f_X11_isOvenSet f_X12_isSet
  rw [pp_X_ev hB h0, hs, hB.1, pp_shl_n ⟨pp_n s, by omega⟩, show pp_i (2 ^ pp_n s) - 1 = pp_i (2 ^ pp_n s - 1) from pp_sub (b := 1) h1]
  rcases pp_btw (a := a) (lo := 0) (hi := 2 ^ pp_n s - 1) (by decide) (by omega) with ⟨e1, e2⟩ | ⟨k, k1, k2, rfl, e1, e2⟩
  · refine Or.inl ⟨if_neg (fun q => ?_), e2⟩
    obtain ⟨x, hx, rfl⟩ : ∃ x : Nat, x < 2 ^ 32 ∧ a = pp_i x := ⟨a.toBitVec.toNat, a.toBitVec.isLt, by
      apply Int32.toBitVec_inj.mp
      rw [pp_bv, BitVec.ofNat_toNat, BitVec.setWidth_eq]⟩
    have hl : x < 2 ^ pp_n s := by
      apply Nat.lt_pow_two_of_testBit
      intro i hi
      by_cases h32 : i < 32
      · have q2 := congrArg (fun z : Int32 => z.toBitVec.getLsbD i) q
        simp only [Int32.toBitVec_and, Int32.toBitVec_xor, pp_bv, BitVec.getLsbD_and, BitVec.getLsbD_xor, BitVec.getLsbD_ofNat, Nat.testBit_two_pow_sub_one] at q2
        rw [decide_eq_true h32, show decide (i < pp_n s) = false from decide_eq_false (by omega), show (Int32.toBitVec (-1)).getLsbD i = true from by
          rw [show Int32.toBitVec (-1) = BitVec.allOnes 32 from rfl, BitVec.getLsbD_allOnes, decide_eq_true h32]] at q2
        simpa using q2
      · exact Nat.testBit_lt_two_pow (Nat.lt_of_lt_of_le hx (Nat.pow_le_pow_right (by decide) (by omega)))
    rw [pp_X_btw, if_pos ⟨(pp_le (a := 0) (by omega) (by omega)).mpr (Nat.zero_le _), (pp_le (by omega) (by omega)).mpr (by omega)⟩] at e1
    exact absurd e1 (by decide)
  · refine Or.inr ⟨k, by omega, rfl, if_pos ?_, e2⟩
    have e := pp_bit_an ⟨2 ^ pp_n s - 1, by omega⟩ ⟨k, by omega⟩
    dsimp only at e
    rw [Nat.and_two_pow_sub_one_eq_mod, Nat.mod_eq_of_lt (by omega), Nat.sub_self] at e
    exact e
theorem pp_fo_P {g : Nat → pp_PA} {P : Nat → Prop} (h : ∀ (k : Nat) (acc : pp_PA), P acc.2.2.2.1 → P (pp_mg acc (g k)).2.2.2.1) : ∀ (m k : Nat) (acc : pp_PA), P acc.2.2.2.1 → P (pp_fo g m k acc).2.2.2.1
  | 0, _, _, ha => ha
  | m + 1, k, acc, ha => by
    rw [pp_fo]
    exact pp_fo_P h m (k + 1) _ (h k acc ha)
theorem pp_S_fa {s : Nat → Int32} {wd : Nat} : ∀ (m t : Nat) (w : Nat → Nat), (pp_S s wd m t w).2.2.2.1 ≤ m ∨ (pp_S s wd m t w).2.2.2.1 = 1000 := by
  have leaf : ∀ (m : Nat) (w : Nat → Nat), (pp_lf (pp_n s) wd w).2.2.2.1 ≤ m ∨ (pp_lf (pp_n s) wd w).2.2.2.1 = 1000 := by
    intro m w
    unfold pp_lf
    dsimp only
    split
    · exact Or.inl (Nat.zero_le _)
    · exact Or.inr rfl
  intro m
  induction m with
  | zero =>
    intro t w
    rw [pp_S]
    exact leaf 0 w
  | succ m ih =>
    intro t w
    rw [pp_S]
    by_cases c : t < pp_e s
    · rw [if_pos c]
      refine pp_fo_P (P := fun x => x ≤ m + 1 ∨ x = 1000) (fun k acc ha => ?_) _ _ _ (Or.inr rfl)
      have h1 := ih (t + 1) (pp_nw s t w (pp_cc k))
      unfold pp_mg pp_sf
      dsimp only
      have h3 : (if k = 0 then 0 else 1) ≤ 1 := by split <;> omega
      generalize (if k = 0 then 0 else 1) = ch at h3 ⊢
      split
      · rename_i h2
        omega
      · exact ha
    · rw [if_neg c]
      exact leaf (m + 1) w
theorem pp_c_kept {N t L u Lu : Nat} {μX μM : g_M} {a a2 : Int32} (hN : 1000 ≤ N) (h : pp_Rel t L u Lu μX μM) : ∃ (v : Int32) (μX1 μM1 : g_M), f_X11_kept N a a2 μX = some (v, μX1) ∧ f_X12_kept N a a2 μM = some (v, μM1) ∧ pp_Rel t L u Lu μX1 μM1 := by
  obtain ⟨hI, hD, hR, hp⟩ := h.2.2.1
  obtain ⟨d11, d12, d13, d14⟩ := pp_D12 hI hD
  have h64 := (pp_2n hI.1.2).2
  unfold f_X11_kept f_X2_actsTillHome f_X12_kept f_X11_isPlan f_X12_isLong
  rcases pp_btw (a := a) (lo := 0) (hi := 4) (by decide) (by decide) with ⟨e1, e2⟩ | ⟨k, k1, k2, rfl, e1, e2⟩
  · have e1 : f_X11_isBetween a 0 4 = 0 := e1
    have e2 : f_X12_isIn a.toInt64 0 4 = 0 := e2
    rw [if_pos e1, if_pos e2]
    exact ⟨_, _, _, rfl, rfl, h⟩
  have e1 : f_X11_isBetween (pp_i k) 0 4 = 1 := e1
  have e2 : f_X12_isIn (pp_i k).toInt64 0 4 = 1 := e2
  rw [if_neg (pp_n10 e1), if_neg (pp_n10 e2)]
  rcases pp_oset (a := a2) hI.1 hD.1.1 rfl with ⟨e3, e4⟩ | ⟨wd, i1, rfl, e3, e4⟩
  · rw [if_pos e3, if_pos e4]
    exact ⟨_, _, _, rfl, rfl, h⟩
  obtain ⟨s1, s2, s3, s4, s5⟩ := pp_S_ok (wd := wd) hI.1.2 hI.2.1 k (pp_t (μM 1)) (pp_w (μM 1))
  obtain ⟨μM1, m1, m2, m3, m4, m5, m6, m7, m8, m9⟩ := pp_finds (N := N) (wd := wd) (μ := μM) (by omega) hI (by omega) k2 rfl
  obtain ⟨μX1, x1, x2⟩ := pp_X_fewest (N := N) (wd := wd) (by omega) hI (by omega) k 6 (pp_t (μM 1)) (pp_w (μM 1)) μX k2 (by omega) (pp_tle hI) (pp_w16 hI) hD
  have hl := pp_look h x2 m3 m2
  have hfa := pp_S_fa (s := μM 1) (wd := wd) k (pp_t (μM 1)) (pp_w (μM 1))
  rw [if_neg (pp_n10 e3), if_neg (pp_n10 e4), m1, d12, d13, x1]
  simp only [Option.bind_some]
  rw [m8, show (4 : Int32) = pp_i 4 from rfl, show (9 : Int32) = pp_i 9 from rfl, pp_ite (pp_le (by omega) (by omega)), pp_ite (pp_ge (by split <;> omega) (by omega))]
  by_cases c : (pp_S (μM 1) wd k (pp_t (μM 1)) (pp_w (μM 1))).2.2.2.1 ≤ 4
  · rw [if_pos c, if_pos (show (pp_S (μM 1) wd k (pp_t (μM 1)) (pp_w (μM 1))).2.2.2.1 < 9 by omega), if_neg (by omega)]
    exact ⟨_, _, _, rfl, rfl, hl⟩
  · rw [if_neg c, if_neg (show ¬ (pp_S (μM 1) wd k (pp_t (μM 1)) (pp_w (μM 1))).2.2.2.1 < 9 by omega), if_pos (Nat.le_refl _)]
    exact ⟨_, _, _, rfl, rfl, hl⟩
/-- the first of m from k on that is in a set (6: none) -/
def pp_fb (b : Nat) : Nat → Nat → Nat
  | 0, _ => 6
  | m + 1, k => if b / 2 ^ k % 2 = 1 then k else pp_fb b m (k + 1)
theorem pp_fb_c : ∀ n : Fin 7, ∀ b : Fin 64, b.val < 2 ^ n.val → (b.val = 0 → pp_fb b.val n.val 0 = 6) ∧ (b.val ≠ 0 → pp_fb b.val n.val 0 < 6 ∧ f_J6_numberOfTrailingZeros_0f7a4 (pp_i b.val) = some (pp_i (pp_fb b.val n.val 0))) := by decide +kernel
theorem pp_M_barsL {N : Nat} {s : Nat → Int32} {μ : g_M} {a2 : Int32} {b : Nat} (hB : pp_B s) (h1 : μ 1 = s) (hb : b < 64) (ha : a2 &&& ((μ 0 27) ^^^ (-1)) = pp_i b) : ∀ (m fuel k : Nat), k + m = pp_n s → m < fuel → f_X12_bars_L25 N fuel a2 (pp_i k) μ = some (if pp_fb b m k < 6 then .inl (pp_i (pp_fb b m k), μ) else .inr ()) := by
  have hB2 := hB.2
  intro m
  induction m with
  | zero =>
    intro fuel k hk hf
    obtain ⟨f, rfl⟩ := pp_fu hf
    rw [f_X12_bars_L25, h1, hB.1, pp_ite (pp_ge (by omega) (by omega)), if_pos (by omega)]
    rfl
  | succ m ih =>
    intro fuel k hk hf
    obtain ⟨f, rfl⟩ := pp_fu hf
    rw [f_X12_bars_L25, ha, h1, hB.1, pp_ite (pp_ge (by omega) (by omega)), if_neg (by omega), pp_ite (pp_at1 hb (by omega)), show pp_i k + 1 = pp_i (k + 1) from pp_add k 1, pp_fb]
    by_cases c : b / 2 ^ k % 2 = 1
    · rw [if_pos c, if_pos c, if_pos (by omega)]
    · rw [if_neg c, if_neg c]
      exact ih f (k + 1) (by omega) (by omega)
theorem pp_c_bars {N t L u Lu : Nat} {μX μM : g_M} {a a2 : Int32} (hN : 1000 ≤ N) (h : pp_Rel t L u Lu μX μM) : ∃ (v : Int32) (μX1 μM1 : g_M), f_X11_bars N a a2 μX = some (v, μX1) ∧ f_X12_bars N a a2 μM = some (v, μM1) ∧ pp_Rel t L u Lu μX1 μM1 := by
  obtain ⟨hI, hD, hR, hp⟩ := h.2.2.1
  obtain ⟨d11, d12, d13, d14⟩ := pp_D12 hI hD
  have hn6 := hI.1.2
  have h64 := (pp_2n hI.1.2).2
  unfold f_X11_bars f_X2_everHome f_X12_bars f_X11_isPlan f_X12_isLong
  rcases pp_btw (a := a) (lo := 0) (hi := 4) (by decide) (by decide) with ⟨e1, e2⟩ | ⟨k, k1, k2, rfl, e1, e2⟩
  · have e1 : f_X11_isBetween a 0 4 = 0 := e1
    have e2 : f_X12_isIn a.toInt64 0 4 = 0 := e2
    rw [if_pos e1, if_pos e2]
    exact ⟨_, _, _, rfl, rfl, h⟩
  have e1 : f_X11_isBetween (pp_i k) 0 4 = 1 := e1
  have e2 : f_X12_isIn (pp_i k).toInt64 0 4 = 1 := e2
  rw [if_neg (pp_n10 e1), if_neg (pp_n10 e2)]
  rcases pp_oset (a := a2) hI.1 hD.1.1 rfl with ⟨e3, e4⟩ | ⟨wd, i1, rfl, e3, e4⟩
  · rw [if_pos e3, if_pos e4]
    exact ⟨_, _, _, rfl, rfl, h⟩
  obtain ⟨s1, s2, s3, s4, s5⟩ := pp_S_ok (wd := wd) hI.1.2 hI.2.1 k (pp_t (μM 1)) (pp_w (μM 1))
  obtain ⟨μM1, m1, m2, m3, m4, m5, m6, m7, m8, m9⟩ := pp_finds (N := N) (wd := wd) (μ := μM) (by omega) hI (by omega) k2 rfl
  obtain ⟨μX1, x1, x2⟩ := pp_X_some (N := N) (wd := wd) (by omega) hI k 6 (pp_t (μM 1)) (pp_w (μM 1)) μX k2 (by omega) (pp_tle hI) (pp_w16 hI) hD
  have hl := pp_look h x2 m3 m2
  obtain ⟨H, hH⟩ : ∃ H, H = (pp_S (μM 1) wd k (pp_t (μM 1)) (pp_w (μM 1))).2.2.2.2 := ⟨_, rfl⟩
  rw [← hH] at s4 x1 m9
  have ean : pp_i wd &&& (pp_i H ^^^ (-1)) = pp_i (wd - (wd &&& H)) := pp_bit_an ⟨H, s4⟩ ⟨wd, by omega⟩
  have hb1 : wd - (wd &&& H) < 2 ^ pp_n (μM 1) := by omega
  obtain ⟨c1, c2⟩ := pp_fb_c ⟨pp_n (μM 1), by omega⟩ ⟨wd - (wd &&& H), by omega⟩ hb1
  have c1 : wd - (wd &&& H) = 0 → pp_fb (wd - (wd &&& H)) (pp_n (μM 1)) 0 = 6 := c1
  have c2 : wd - (wd &&& H) ≠ 0 → pp_fb (wd - (wd &&& H)) (pp_n (μM 1)) 0 < 6 ∧ f_J6_numberOfTrailingZeros_0f7a4 (pp_i (wd - (wd &&& H))) = some (pp_i (pp_fb (wd - (wd &&& H)) (pp_n (μM 1)) 0)) := c2
  have l1 := pp_M_barsL (N := N) (μ := μM1) (a2 := pp_i wd) (b := wd - (wd &&& H)) hI.1 m2 (by omega) (by rw [m9]; exact ean) (pp_n (μM 1)) N 0 (by omega) (by omega)
  have l1 : f_X12_bars_L25 N N (pp_i wd) 0 μM1 = _ := l1
  rw [if_neg (pp_n10 e3), if_neg (pp_n10 e4), m1, d12, d13, x1]
  simp only [Option.bind_some]
  rw [ean, l1]
  simp only [Option.bind_some]
  by_cases c : wd - (wd &&& H) = 0
  · rw [if_pos ((pp_e0 (by omega)).mpr c), c1 c, if_neg (by decide)]
    exact ⟨_, _, _, rfl, rfl, hl⟩
  · rw [if_neg (fun q => c ((pp_e0 (by omega)).mp q)), (c2 c).2, if_pos (c2 c).1]
    exact ⟨_, _, _, rfl, rfl, hl⟩
theorem pp_X_fmL {N n : Nat} {s : Nat → Int32} (hN : 200 ≤ N) (hI : pp_I s) (hn : n + 1 ≤ 4) (ht : pp_t s < pp_e s) : ∀ (m fuel a : Nat) (acc : Nat × Nat) (μ : g_M), a + m = pp_n s + 1 → m < fuel → acc.1 < 10000 → pp_D s μ →
    ∃ μ1 : g_M, f_X2_firstMove_L7 N fuel (pp_i (n + 1)) (pp_i acc.2) (pp_i acc.1) (pp_i a) μ = some (pp_i (pp_gf true (fun a => pp_woN s (pp_t s) (pp_nw s (pp_t s) (pp_w s) (pp_cc a)) + (pp_gv s n (pp_t s + 1) (pp_nw s (pp_t s) (pp_w s) (pp_cc a)) false).1) m a acc).2, μ1) ∧ pp_F pp_Sc μ μ1 := by
  have hn6 := hI.1.2
  have h16 := hI.2.2.2.2.2.2.1
  intro m
  induction m with
  | zero =>
    intro fuel a acc μ ha hf hacc hD
    obtain ⟨f, rfl⟩ := pp_fu hf
    obtain ⟨d11, d12, d13, d14⟩ := pp_D12 hI hD
    rw [f_X2_firstMove_L7, d11, pp_ite (pp_gt (by omega) (by omega)), if_pos (by omega)]
    exact ⟨μ, rfl, pp_F.refl⟩
  | succ m ih =>
    intro fuel a acc μ ha hf hacc hD
    obtain ⟨f, rfl⟩ := pp_fu hf
    obtain ⟨d11, d12, d13, d14⟩ := pp_D12 hI hD
    obtain ⟨μ1, x1, x2⟩ := pp_X_after (N := N) (t := pp_t s) (c := pp_cc a) (w := pp_w s) hN hI.1 hI.2.1 hD.1 (by omega) (pp_cc_64 (by omega)) (pp_w16 hI)
    have hD1 := hD.F x2
    obtain ⟨f11, f12, f13, f14⟩ := pp_D12 hI hD1
    have hw := pp_X_worth (N := N) (t := pp_t s) (w := pp_nw s (pp_t s) (pp_w s) (pp_cc a)) hN hI.1 hI.2.1 hD1.1 (by omega) (pp_nw_16 hI.2.1 (pp_w16 hI))
    obtain ⟨o1, o2⟩ := pp_wo_N (t := pp_t s) (w := pp_nw s (pp_t s) (pp_w s) (pp_cc a)) hn6 hI.2.1
    obtain ⟨μ2, y1, y2⟩ := pp_X_gv (N := N) hN hI n 6 (pp_t s + 1) (pp_nw s (pp_t s) (pp_w s) (pp_cc a)) false μ1 (by omega) (by omega) (by omega) (pp_nw_16 hI.2.1 (pp_w16 hI)) hD1
    have y1 : f_X2_gameValue N 6 (pp_i (pp_pk (pp_nw s (pp_t s) (pp_w s) (pp_cc a)) (pp_n s))) (pp_i (pp_t s + 1)) (pp_i n) 0 μ1 = _ := y1
    have g1 := (pp_gv_le hn6 hI.2.1 n (pp_t s + 1) (pp_nw s (pp_t s) (pp_w s) (pp_cc a)) false).1
    rw [f_X2_firstMove_L7, d11, pp_ite (pp_gt (by omega) (by omega)), if_neg (by omega), d12, d13, pp_X_chain (by omega), x1]
    simp only [Option.bind_some]
    rw [f13, hw, o1]
    simp only [Option.bind_some]
    rw [show pp_i (pp_t s) + 1 = pp_i (pp_t s + 1) from pp_add _ 1, show pp_i (n + 1) - 1 = pp_i n from pp_sub (b := 1) (by omega), y1]
    simp only [Option.bind_some]
    rw [pp_add, pp_ite (pp_le (by omega) (by omega)), show pp_i a + 1 = pp_i (a + 1) from pp_add a 1, pp_gf]
    by_cases c : acc.1 < pp_woN s (pp_t s) (pp_nw s (pp_t s) (pp_w s) (pp_cc a)) + (pp_gv s n (pp_t s + 1) (pp_nw s (pp_t s) (pp_w s) (pp_cc a)) false).1
    · rw [if_neg (by omega), if_pos (show pp_bt true _ _ = true from decide_eq_true c)]
      obtain ⟨μ3, z1, z2⟩ := ih f (a + 1) (pp_woN s (pp_t s) (pp_nw s (pp_t s) (pp_w s) (pp_cc a)) + (pp_gv s n (pp_t s + 1) (pp_nw s (pp_t s) (pp_w s) (pp_cc a)) false).1, a) μ2 (by omega) (by omega) (by show _ + _ < 10000; omega) (hD1.F y2)
      exact ⟨μ3, z1, (x2.trans y2).trans z2⟩
    · rw [if_pos (by omega), if_neg (show ¬ pp_bt true _ _ = true from fun q => c (of_decide_eq_true q))]
      obtain ⟨μ3, z1, z2⟩ := ih f (a + 1) acc μ2 (by omega) (by omega) hacc (hD1.F y2)
      exact ⟨μ3, z1, (x2.trans y2).trans z2⟩
theorem pp_c_play {N t L u Lu : Nat} {μX μM : g_M} {a : Int32} (hN : 1000 ≤ N) (h : pp_Rel t L u Lu μX μM) : ∃ (v : Int32) (μX1 μM1 : g_M), f_X11_play N a μX = some (v, μX1) ∧ f_X12_play N a μM = some (v, μM1) ∧ pp_Rel t L u Lu μX1 μM1 := by
  obtain ⟨hI, hD, hR, hp⟩ := h.2.2.1
  obtain ⟨d11, d12, d13, d14⟩ := pp_D12 hI hD
  obtain ⟨o1, o2⟩ := pp_over hI hD (μM := μM) rfl
  have hn6 := hI.1.2
  have h16 := hI.2.2.2.2.2.2.1
  unfold f_X11_play f_X12_play f_X11_isGame
  rcases pp_btw (a := a) (lo := 1) (hi := 4) (by decide) (by decide) with ⟨e1, e2⟩ | ⟨k, k1, k2, rfl, e1, e2⟩
  · have e1 : f_X11_isBetween a 1 4 = 0 := e1
    have e2 : f_X12_isIn a.toInt64 1 4 = 0 := e2
    rw [if_pos e1, if_pos e2]
    exact ⟨_, _, _, rfl, rfl, h⟩
  have e1 : f_X11_isBetween (pp_i k) 1 4 = 1 := e1
  have e2 : f_X12_isIn (pp_i k).toInt64 1 4 = 1 := e2
  rw [if_neg (pp_n10 e1), if_neg (pp_n10 e2), o1, o2]
  by_cases c : pp_t (μM 1) < pp_e (μM 1)
  · obtain ⟨n, rfl⟩ : ∃ n, k = n + 1 := ⟨k - 1, by omega⟩
    obtain ⟨N1, rfl⟩ : ∃ N1, N = N1 + 1 := ⟨N - 1, by omega⟩
    obtain ⟨μM1, m1, m2, m28, -, m3⟩ := pp_M_gv (N := N1 + 1) (n0 := n + 1) (by omega) hI k2 (n + 1) 6 0 (pp_t (μM 1)) (pp_w (μM 1)) (μM 1 3) μM (by omega) (by omega) (pp_tle hI) (pp_w16 hI) (pp_self hI.2.2.2)
    have m1 : f_X12_valueFrom (N1 + 1) 6 0 (pp_i (n + 1)) μM = some (pp_i (pp_gv (μM 1) (n + 1) (pp_t (μM 1)) (pp_w (μM 1)) true).1, μM1) := m1
    have m28 : μM1 0 28 = pp_i (pp_gv (μM 1) (n + 1) (pp_t (μM 1)) (pp_w (μM 1)) true).2 := m28 ⟨by omega, c⟩
    obtain ⟨μ1, x1, x2⟩ := pp_X_after (N := N1 + 1) (t := pp_t (μM 1)) (c := pp_cc 0) (w := pp_w (μM 1)) (by omega) hI.1 hI.2.1 hD.1 (by omega) (pp_cc_64 (by omega)) (pp_w16 hI)
    have hD1 := hD.F x2
    obtain ⟨f11, f12, f13, f14⟩ := pp_D12 hI hD1
    have hw := pp_X_worth (N := N1 + 1) (t := pp_t (μM 1)) (w := pp_nw (μM 1) (pp_t (μM 1)) (pp_w (μM 1)) (pp_cc 0)) (by omega) hI.1 hI.2.1 hD1.1 (by omega) (pp_nw_16 hI.2.1 (pp_w16 hI))
    obtain ⟨v1, v2⟩ := pp_wo_N (t := pp_t (μM 1)) (w := pp_nw (μM 1) (pp_t (μM 1)) (pp_w (μM 1)) (pp_cc 0)) hn6 hI.2.1
    obtain ⟨μ2, y1, y2⟩ := pp_X_gv (N := N1 + 1) (by omega) hI n 6 (pp_t (μM 1) + 1) (pp_nw (μM 1) (pp_t (μM 1)) (pp_w (μM 1)) (pp_cc 0)) false μ1 (by omega) (by omega) (by omega) (pp_nw_16 hI.2.1 (pp_w16 hI)) hD1
    have y1 : f_X2_gameValue (N1 + 1) 6 (pp_i (pp_pk (pp_nw (μM 1) (pp_t (μM 1)) (pp_w (μM 1)) (pp_cc 0)) (pp_n (μM 1)))) (pp_i (pp_t (μM 1) + 1)) (pp_i n) 0 μ1 = _ := y1
    have g1 := (pp_gv_le hn6 hI.2.1 n (pp_t (μM 1) + 1) (pp_nw (μM 1) (pp_t (μM 1)) (pp_w (μM 1)) (pp_cc 0)) false).1
    obtain ⟨μ3, z1, z2⟩ := pp_X_fmL (N := N1 + 1) (n := n) (by omega) hI k2 c (pp_n (μM 1)) N1 1 (pp_woN (μM 1) (pp_t (μM 1)) (pp_nw (μM 1) (pp_t (μM 1)) (pp_w (μM 1)) (pp_cc 0)) + (pp_gv (μM 1) n (pp_t (μM 1) + 1) (pp_nw (μM 1) (pp_t (μM 1)) (pp_w (μM 1)) (pp_cc 0)) false).1, 0) μ2 (by omega) (by omega) (by show _ + _ < 10000; omega) (hD1.F y2)
    have hc0 : f_X11_chainOf 0 = pp_i (pp_cc 0) := pp_X_chain (a := 0) (by omega)
    rw [if_pos c, if_pos rfl, if_pos rfl, m1]
    unfold f_X2_firstMove
    rw [f_X2_firstMove_L7, d11, if_neg (show ¬ ((0 : Int32) > pp_i (pp_n (μM 1))) from fun q => by
      have := (pp_lt (a := pp_n (μM 1)) (b := 0) (by omega) (by omega)).mp q
      omega), d12, d13, hc0, x1]
    simp only [Option.bind_some]
    rw [f13, hw, v1]
    simp only [Option.bind_some]
    rw [show pp_i (pp_t (μM 1)) + 1 = pp_i (pp_t (μM 1) + 1) from pp_add _ 1, show pp_i (n + 1) - 1 = pp_i n from pp_sub (b := 1) (by omega), y1]
    simp only [Option.bind_some]
    rw [pp_add, if_neg (show ¬ (pp_i (pp_woN (μM 1) (pp_t (μM 1)) (pp_nw (μM 1) (pp_t (μM 1)) (pp_w (μM 1)) (pp_cc 0)) + (pp_gv (μM 1) n (pp_t (μM 1) + 1) (pp_nw (μM 1) (pp_t (μM 1)) (pp_w (μM 1)) (pp_cc 0)) false).1) ≤ (-1 : Int32)) from fun q => by
      have q2 : _ ≤ pp_i 0 - 1 := q
      rw [pp_m1_le (by omega) (by omega)] at q2
      omega)]
    have z1 : f_X2_firstMove_L7 (N1 + 1) N1 (pp_i (n + 1)) 0 (pp_i (pp_woN (μM 1) (pp_t (μM 1)) (pp_nw (μM 1) (pp_t (μM 1)) (pp_w (μM 1)) (pp_cc 0)) + (pp_gv (μM 1) n (pp_t (μM 1) + 1) (pp_nw (μM 1) (pp_t (μM 1)) (pp_w (μM 1)) (pp_cc 0)) false).1)) (0 + 1) μ2 = some (pp_i (pp_gv (μM 1) (n + 1) (pp_t (μM 1)) (pp_w (μM 1)) true).2, μ3) := by
      rw [pp_gv, if_pos c]
      exact z1
    rw [z1]
    simp only [Option.bind_some]
    rw [m28]
    exact ⟨_, _, _, rfl, rfl, pp_look h ((x2.trans y2).trans z2) (m3.mono (fun a b => pp_SV_t)) m2⟩
  · rw [if_neg c, if_neg (by decide), if_neg (by decide)]
    exact ⟨_, _, _, rfl, rfl, h⟩
