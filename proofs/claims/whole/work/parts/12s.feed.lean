/-! ===== feed ===== -/
theorem pp_sh1 : ∀ k : Fin 8, (UInt64.mod ((8 * pp_i k.val : Int32).toInt64.toUInt64 &&& Int64.toUInt64 63) 64).toBitVec.toNat = 8 * k.val := by decide +kernel
theorem pp_sh2 : ∀ k : Fin 8, (((8 * pp_i k.val : Int32).toInt64 &&& 63).toBitVec.smod 64).toNat = 8 * k.val := by decide +kernel
theorem pp_b255 (i : Nat) (h : i < 32) : (BitVec.ofNat 32 255).getLsbD i = decide (i < 8) := by
  rw [BitVec.getLsbD_ofNat, show (255 : Nat) = 2 ^ 8 - 1 from rfl, Nat.testBit_two_pow_sub_one, decide_eq_true h, Bool.true_and]
theorem pp_b255l (i : Nat) (h : i < 64) : (BitVec.ofNat 64 255).getLsbD i = decide (i < 8) := by
  rw [BitVec.getLsbD_ofNat, show (255 : Nat) = 2 ^ 8 - 1 from rfl, Nat.testBit_two_pow_sub_one, decide_eq_true h, Bool.true_and]
theorem pp_byte (x : Int64) {k : Nat} (hk : k < 8) : ∃ v : Nat, v < 256 ∧ ((Int64.toInt32 (g_lush x (8 * pp_i k))) &&& 255) = pp_i v ∧ Int64.toInt32 ((x >>> (Int32.toInt64 (8 * pp_i k) &&& 63)) &&& 255) = pp_i v := by
  have e1 : (g_lush x (8 * pp_i k)).toBitVec = x.toBitVec >>> (8 * k) := by
    show x.toBitVec >>> (UInt64.mod ((8 * pp_i k : Int32).toInt64.toUInt64 &&& Int64.toUInt64 63) 64).toBitVec.toNat = _
    rw [pp_sh1 ⟨k, hk⟩]
  have e2 : (x >>> (Int32.toInt64 (8 * pp_i k) &&& 63)).toBitVec = x.toBitVec.sshiftRight (8 * k) := by
    show x.toBitVec.sshiftRight (((8 * pp_i k : Int32).toInt64 &&& 63).toBitVec.smod 64).toNat = _
    rw [pp_sh2 ⟨k, hk⟩]
  have bit : ∀ i, i < 32 → (BitVec.ofNat 32 (x.toBitVec.toNat / 2 ^ (8 * k) % 2 ^ 8)).getLsbD i = (decide (i < 8) && x.toBitVec.getLsbD (8 * k + i)) := fun i hi => by
    rw [BitVec.getLsbD_ofNat, Nat.testBit_mod_two_pow, Nat.testBit_div_two_pow, decide_eq_true hi, Bool.true_and, Nat.add_comm i]
    rfl
  refine ⟨x.toBitVec.toNat / 2 ^ (8 * k) % 2 ^ 8, Nat.mod_lt _ (by decide), ?_, ?_⟩
  · apply Int32.toBitVec_inj.mp
    apply BitVec.eq_of_getLsbD_eq
    intro i hi
    rw [pp_bv, bit i hi, Int32.toBitVec_and, BitVec.getLsbD_and, Int64.toBitVec_toInt32, e1, BitVec.getLsbD_signExtend, BitVec.getLsbD_ushiftRight, show (255 : Int32).toBitVec = BitVec.ofNat 32 255 from rfl, pp_b255 i hi, decide_eq_true hi, Bool.true_and, if_pos (show i < 64 by omega), Bool.and_comm]
  · apply Int32.toBitVec_inj.mp
    apply BitVec.eq_of_getLsbD_eq
    intro i hi
    rw [pp_bv, bit i hi, Int64.toBitVec_toInt32, BitVec.getLsbD_signExtend, decide_eq_true hi, Bool.true_and, if_pos (show i < 64 by omega), Int64.toBitVec_and, BitVec.getLsbD_and, e2, show (255 : Int64).toBitVec = BitVec.ofNat 64 255 from rfl, pp_b255l i (by omega), BitVec.getLsbD_sshiftRight, decide_eq_false (show ¬ 64 ≤ i by omega), Bool.not_false, Bool.true_and, Bool.and_comm]
    by_cases c : i < 8
    · rw [if_pos (show 8 * k + i < 64 by omega)]
    · rw [decide_eq_false c, Bool.false_and, Bool.false_and]
def pp_TAl (l : Nat) (μX μM : g_M) : Prop := ∃ b : Nat → Nat, pp_TB (μX 46) l b ∧ pp_TB (μM 4) l b ∧ pp_BZ l b ∧ μX 45 6 = pp_i l ∧ μM 0 5 = pp_i l
def pp_SXf (a b : Nat) : Bool := decide (a = 46 ∨ (a = 45 ∧ b = 6))
def pp_SMf (a b : Nat) : Bool := decide (a = 4 ∨ (a = 0 ∧ b = 5))
theorem pp_fdL {N n : Nat} {x : Int64} (hn : n ≤ 8) : ∀ (m n1 n2 i l : Nat) (μX μM : g_M), i + m = n → m < n1 → m < n2 → l + m ≤ 200 → pp_TAl l μX μM →
    ∃ (μX1 μM1 : g_M), f_X11_feed_L33 N n1 x (pp_i n) (pp_i i) μX = some μX1 ∧ f_X12_feed_L32 N n2 x (pp_i n) (pp_i i) μM = some μM1 ∧ pp_TAl (l + m) μX1 μM1 ∧ pp_F pp_SXf μX μX1 ∧ pp_F pp_SMf μM μM1 := by
  intro m
  induction m with
  | zero =>
    intro n1 n2 i l μX μM hi h1 h2 hl hT
    obtain ⟨n1, rfl⟩ := pp_fu h1
    obtain ⟨n2, rfl⟩ := pp_fu h2
    rw [f_X11_feed_L33, f_X12_feed_L32, pp_ite (pp_ge (a := i) (b := n) (by omega) (by omega)), if_pos (by omega), pp_ite (pp_ge (a := i) (b := n) (by omega) (by omega)), if_pos (by omega)]
    exact ⟨μX, μM, rfl, rfl, hT, pp_F.refl, pp_F.refl⟩
  | succ m ih =>
    intro n1 n2 i l μX μM hi h1 h2 hl hT
    obtain ⟨n1, rfl⟩ := pp_fu h1
    obtain ⟨n2, rfl⟩ := pp_fu h2
    obtain ⟨b, ⟨t1, t2⟩, ⟨t3, t4⟩, ⟨t5, t6⟩, t7, t8⟩ := hT
    obtain ⟨v, v1, v2, v3⟩ := pp_byte x (show i < 8 by omega)
    have hT1 : pp_TAl (l + 1) (g_set (g_set μX 46 l (pp_i v)) 45 6 (pp_i (l + 1))) (g_set (g_set μM 4 l (pp_i v)) 0 5 (pp_i (l + 1))) := by
      refine ⟨pp_up b l v, ⟨by omega, fun k hk => ?_⟩, ⟨by omega, fun k hk => ?_⟩, ⟨fun k => ?_, fun k hk => ?_⟩, pp_set_s, pp_set_s⟩
      · rw [pp_set_n (by omega)]
        by_cases c : k = l
        · rw [c, pp_set_s, pp_up_s]
          exact ⟨rfl, v1⟩
        · rw [pp_set_n (by omega), pp_up_n c]
          exact t2 k (by omega)
      · rw [pp_set_n (by omega)]
        by_cases c : k = l
        · rw [c, pp_set_s, pp_up_s]
          exact ⟨rfl, v1⟩
        · rw [pp_set_n (by omega), pp_up_n c]
          exact t4 k (by omega)
      · by_cases c : k = l
        · rw [c, pp_up_s]
          exact v1
        · rw [pp_up_n c]
          exact t5 k
      · rw [pp_up_n (by omega)]
        exact t6 k (by omega)
    obtain ⟨μX1, μM1, j1, j2, j3, j4, j5⟩ := ih n1 n2 (i + 1) (l + 1) _ _ (by omega) (by omega) (by omega) (by omega) hT1
    refine ⟨μX1, μM1, ?_, ?_, by rw [show l + (m + 1) = l + 1 + m by omega]; exact j3, ((pp_F.set (by exact decide_eq_true (Or.inl rfl))).trans (pp_F.set (by decide))).trans j4, ((pp_F.set (by exact decide_eq_true (Or.inl rfl))).trans (pp_F.set (by decide))).trans j5⟩
    · rw [f_X11_feed_L33, pp_ite (pp_ge (a := i) (b := n) (by omega) (by omega)), if_neg (by omega), v2, show pp_i i + 1 = pp_i (i + 1) from pp_add i 1]
      unfold f_X8_takeByte
      rw [t7, show (200 : Int32) = pp_i 200 from rfl, pp_ite (pp_ge (a := l) (b := 200) (by omega) (by omega)), if_neg (by omega), pp_wr (by omega) (by decide)]
      simp only [Option.bind_some]
      rw [pp_set_n (show ¬ ((45 : Nat) = 46 ∧ 6 = l) by omega), t7, show pp_i l + 1 = pp_i (l + 1) from pp_add l 1]
      exact j1
    · rw [f_X12_feed_L32, pp_ite (pp_ge (a := i) (b := n) (by omega) (by omega)), if_neg (by omega), v3, show pp_i i + 1 = pp_i (i + 1) from pp_add i 1, t8, pp_wr (by omega) (by decide)]
      simp only [Option.bind_some]
      rw [pp_set_n (show ¬ ((0 : Nat) = 4 ∧ 5 = l) by omega), t8, show pp_i l + 1 = pp_i (l + 1) from pp_add l 1]
      exact j2
theorem pp_taR {t L u Lu : Nat} {μX μM μX1 μM1 : g_M} (h : pp_Rel t L u Lu μX μM) (hS : pp_TA μX1 μM1) (fX : pp_F pp_SXf μX μX1) (fM : pp_F pp_SMf μM μM1) : pp_Rel t L u Lu μX1 μM1 := by
  have eX : ∀ a, ¬ (a = 45 ∨ a = 46) → μX1 a = μX a := fun a ha => fX.row (fun b => decide_eq_false (by omega))
  have eM : ∀ a, ¬ (a = 4 ∨ a = 0) → μM1 a = μM a := fun a ha => fM.row (fun b => decide_eq_false (by omega))
  have e0 : ∀ b, ¬ b = 5 → μM1 0 b = μM 0 b := fun b hb => fM 0 b (decide_eq_false (by omega))
  obtain ⟨ht, hu, ⟨hI, hD, hR, c, hp⟩, hk, hta, hrw, hs, hh, htr⟩ := h
  refine ⟨ht, hu, ?_, hk.R hu (fun a ha => eX a ?_) (by rw [eX 0 (by omega)]) (eM 2 (by omega)) (e0 2 (by omega)), hS, hrw.R (eX 52 (by omega)) (by rw [eX 0 (by omega)]) (eM 11 (by omega)) (e0 32 (by omega)), hs.R (fun a h1 h2 => eX a (by omega)) (eM 12 (by omega)) (eM 13 (by omega)) (eM 14 (by omega)), hh.R (fun a h1 h2 => eX a (by omega)) (eM 15 (by omega)) (eM 16 (by omega)) (eM 17 (by omega)), htr.R (eX 51 (by omega)) (by rw [eX 50 (by omega)]) (eM 18 (by omega)) (e0 40 (by omega))⟩
  · rw [eM 1 (by omega)]
    refine ⟨hI, ⟨hD.1.rows (by rw [eX 1 (by omega)]) (fun i h1 h2 => eX i (by omega)), ?_⟩, hR.F (fun a ha hb => eX a (by
      have := pp_rk_no ht ha hb
      omega)), c, hp.F (by rw [eX 1 (by omega)]) (eX 17 (by omega))⟩
    rw [eX 1 (by omega)]
    exact hD.2
  · rcases ha with ha | ⟨ha, hb⟩
    · omega
    · have := pp_rk_no hu ha hb
      omega
theorem pp_c_feed {N t L u Lu : Nat} {μX μM : g_M} {x : Int64} {a : Int32} (hN : 1000 ≤ N) (h : pp_Rel t L u Lu μX μM) : ∃ (v : Int32) (μX1 μM1 : g_M), f_X11_feed N x a μX = some (v, μX1) ∧ f_X12_feed N x a μM = some (v, μM1) ∧ pp_Rel t L u Lu μX1 μM1 := by
  obtain ⟨l, b, t1, t2, t3, t4, t5⟩ := h.2.2.2.2.1
  have hl := t1.1
  unfold f_X11_feed f_X12_feed
  rcases pp_btw (a := a) (lo := 1) (hi := 8) (by decide) (by decide) with ⟨e1, e2⟩ | ⟨n, k1, k2, rfl, e1, e2⟩
  · have e1 : f_X11_isBetween a 1 8 = 0 := e1
    have e2 : f_X12_isIn a.toInt64 1 8 = 0 := e2
    rw [if_pos e1, if_pos e2]
    exact ⟨_, _, _, rfl, rfl, h⟩
  have e1 : f_X11_isBetween (pp_i n) 1 8 = 1 := e1
  have e2 : f_X12_isIn (pp_i n).toInt64 1 8 = 1 := e2
  rw [if_neg (pp_n10 e1), if_neg (pp_n10 e2), t4, t5, pp_add, show (200 : Int32) = pp_i 200 from rfl, pp_ite (pp_le (a := l + n) (b := 200) (by omega) (by omega)), pp_ite (pp_le (a := l + n) (b := 200) (by omega) (by omega))]
  by_cases c : l + n ≤ 200
  · obtain ⟨μX1, μM1, j1, j2, ⟨b1, q1, q2, q3, q4, q5⟩, j4, j5⟩ := pp_fdL (N := N) (n := n) (x := x) k2 n N N 0 l μX μM (by omega) (by omega) (by omega) c ⟨b, t1, t2, t3, t4, t5⟩
    have j1 : f_X11_feed_L33 N N x (pp_i n) 0 μX = some μX1 := j1
    have j2 : f_X12_feed_L32 N N x (pp_i n) 0 μM = some μM1 := j2
    rw [if_pos c, if_pos c, j1, j2]
    simp only [Option.bind_some]
    rw [q4, q5]
    exact ⟨_, _, _, rfl, rfl, pp_taR h ⟨l + n, b1, q1, q2, q3, q4, q5⟩ j4 j5⟩
  · rw [if_neg c, if_neg c]
    exact ⟨_, _, _, rfl, rfl, h⟩
