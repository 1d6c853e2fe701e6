/-! ===== an oven becomes another ===== -/
theorem pp_tow {t L u Lu t1 L1 : Nat} {μX μM μX1 μM1 : g_M} (h : pp_Rel t L u Lu μX μM) (ht : pp_rk t1) (hT : pp_TW (μM1 1) μX1 μX1 t1 L1) (fX : pp_F pp_SXt μX μX1) (fM : pp_F pp_SMt μM μM1) : pp_Rel t1 L1 u Lu μX1 μM1 := ⟨ht, h.2.1, hT, h.2.2.2.F h.2.1 fX fM⟩
theorem pp_RR.s {μ : g_M} {r L : Nat} {s s1 : Nat → Int32} (h : pp_RR μ r L s) (e : ∀ j, j = 5 ∨ j = 7 ∨ 38 ≤ j → s1 j = s j) : pp_RR μ r L s1 := by
  have q : pp_q s1 = pp_q s := funext fun k => e _ (by omega)
  obtain ⟨R, S, h1, h2, h3, h4, h5, h6, h7, hr, hk⟩ := h
  refine ⟨R, S, h1, h2, (e 5 (by omega)).trans h3, (e 7 (by omega)).trans h4, h5, h6, h7, fun i hi => ?_, fun k hk2 => ?_⟩
  · obtain ⟨b, e2, k, d, g1, g2, g3, g4, g5, g6, g7, g8, g9, g10, g11, g12, g13, g14⟩ := hr i hi
    refine ⟨b, e2, k, d, g1, g2, g3, g4, (e _ (by omega)).trans g5, (e _ (by omega)).trans g6, (e _ (by omega)).trans g7, (e _ (by omega)).trans g8, g9, g10, g11, ?_, g13, fun j hj => (e _ (by omega)).trans (g14 j hj)⟩
    rw [q]
    exact g12
  · obtain ⟨g1, g2, g3, a, b, g4, g5, g6, g7⟩ := hk k hk2
    exact ⟨g1.trans (e _ (by omega)).symm, g2.trans (e _ (by omega)).symm, g3.trans (e _ (by omega)).symm, a, b, g4, g5, (e _ (by omega)).trans g6, (e _ (by omega)).trans g7⟩
theorem pp_Rp.s {μ : g_M} {c : Nat} {s s1 : Nat → Int32} (h : pp_Rp s μ c) (e : ∀ j, j = 6 ∨ 70 ≤ j → s1 j = s j) : pp_Rp s1 μ c := by
  obtain ⟨h1, h2, h3, hr⟩ := h
  refine ⟨h1, (e 6 (by omega)).trans h2, h3, fun i hi => ?_⟩
  obtain ⟨k, p, lo, hi2, g1, g2, g3, g4, g5, g6, g7, g8⟩ := hr i hi
  exact ⟨k, p, lo, hi2, g1, g2, g3, (e _ (by omega)).trans g4, (e _ (by omega)).trans g5, (e _ (by omega)).trans g6, (e _ (by omega)).trans g7, g8⟩
theorem pp_Rp.F {μ μ1 : g_M} {c : Nat} {s : Nat → Int32} (h : pp_Rp s μ c) (e : μ1 1 17 = μ 1 17) (e2 : μ1 17 = μ 17) : pp_Rp s μ1 c := by
  unfold pp_Rp at h ⊢
  rw [e, e2]
  exact h
theorem pp_up_up {f : Nat → Int32} {b : Nat} {v w : Int32} : pp_up (pp_up f b v) b w = pp_up f b w := by
  funext j
  unfold pp_up
  by_cases h : j = b
  · rw [if_pos h, if_pos h]
  · rw [if_neg h, if_neg h, if_neg h]
theorem pp_up_id {f : Nat → Int32} {b : Nat} {v : Int32} (h : f b = v) : pp_up f b v = f := by
  funext j
  unfold pp_up
  by_cases e : j = b
  · rw [if_pos e, e, h]
  · rw [if_neg e]
def pp_vok (i v : Nat) : Prop := (i = 0 → 1 ≤ v ∧ v ≤ 5) ∧ (i = 1 → v ≤ 9) ∧ (i = 2 → v ≤ 15) ∧ (i = 3 → 1 ≤ v ∧ v ≤ 9)
theorem pp_chn {s : Nat → Int32} {o i : Nat} {x : Int32} (ho : o < 6) (hi : i < 4) : pp_n (pp_up s (8 + 5 * o + i) x) = pp_n s ∧ pp_t (pp_up s (8 + 5 * o + i) x) = pp_t s ∧ pp_e (pp_up s (8 + 5 * o + i) x) = pp_e s ∧ ∀ k, pp_w (pp_up s (8 + 5 * o + i) x) k = pp_w s k := by
  have e : pp_n (pp_up s (8 + 5 * o + i) x) = pp_n s := by
    unfold pp_n
    rw [pp_up_n (by omega)]
  refine ⟨e, ?_, ?_, fun k => ?_⟩
  · unfold pp_t
    rw [pp_up_n (by omega)]
  · unfold pp_e
    rw [pp_up_n (by omega)]
  · unfold pp_w
    rw [e, pp_up_n (by omega)]
theorem pp_I_chg {s : Nat → Int32} {o i v : Nat} (hI : pp_I s) (ho : o < pp_n s) (hi : i < 4) (hv : pp_vok i v) : pp_I (pp_up s (8 + 5 * o + i) (pp_i v)) := by
  obtain ⟨hB, hO, hR, hT⟩ := hI
  have hB2 := hB.2
  obtain ⟨en, et, ee, ew⟩ := pp_chn (s := s) (o := o) (i := i) (x := pp_i v) (by omega) hi
  obtain ⟨v0, v1, v2, v3⟩ := hv
  refine ⟨⟨?_, by rw [en]; exact hB2⟩, fun k hk => ?_, ?_, ?_⟩
  · rw [en, pp_up_n (by omega)]
    exact hB.1
  · rw [en] at hk
    obtain ⟨kd, a, p, f, g1, g2, g3, g4, g5, g6, g7, g8, g9, g10⟩ := hO k hk
    by_cases c : k = o
    · subst c
      have hi4 : i = 0 ∨ i = 1 ∨ i = 2 ∨ i = 3 := by omega
      rcases hi4 with rfl | rfl | rfl | rfl
      · exact ⟨v, a, p, f, (v0 rfl).1, (v0 rfl).2, g3, g4, g5, g6, pp_up_s, by rw [pp_up_n (by omega), g8], by rw [pp_up_n (by omega), g9], by rw [pp_up_n (by omega), g10]⟩
      · exact ⟨kd, v, p, f, g1, g2, v1 rfl, g4, g5, g6, by rw [pp_up_n (by omega), g7], pp_up_s, by rw [pp_up_n (by omega), g9], by rw [pp_up_n (by omega), g10]⟩
      · exact ⟨kd, a, v, f, g1, g2, g3, v2 rfl, g5, g6, by rw [pp_up_n (by omega), g7], by rw [pp_up_n (by omega), g8], pp_up_s, by rw [pp_up_n (by omega), g10]⟩
      · exact ⟨kd, a, p, v, g1, g2, g3, g4, (v3 rfl).1, (v3 rfl).2, by rw [pp_up_n (by omega), g7], by rw [pp_up_n (by omega), g8], by rw [pp_up_n (by omega), g9], pp_up_s⟩
    · exact ⟨kd, a, p, f, g1, g2, g3, g4, g5, g6, by rw [pp_up_n (by omega), g7], by rw [pp_up_n (by omega), g8], by rw [pp_up_n (by omega), g9], by rw [pp_up_n (by omega), g10]⟩
  · obtain ⟨R, S, h1, h2, h3, h4, hr⟩ := hR
    refine ⟨R, S, h1, h2, by rw [pp_up_n (by omega), h3], by rw [pp_up_n (by omega), h4], fun r hr2 => ?_⟩
    obtain ⟨b, e, k, d, g1, g2, g3, g4, g5, g6, g7, g8⟩ := hr r hr2
    exact ⟨b, e, k, d, g1, g2, g3, g4, by rw [pp_up_n (by omega), g5], by rw [pp_up_n (by omega), g6], by rw [pp_up_n (by omega), g7], by rw [pp_up_n (by omega), g8]⟩
  · obtain ⟨t1, t2, t3, t4, t5, t6⟩ := hT
    refine ⟨by rw [et, pp_up_n (by omega), t1], by rw [ee, pp_up_n (by omega), t2], by rw [ee]; exact t3, by rw [ee]; exact t4, by rw [et, ee]; exact t5, fun k hk => ?_⟩
    rw [en] at hk
    rw [ew, pp_up_n (by omega)]
    exact t6 k hk
def pp_Sx9 (a _b : Nat) : Bool := decide (9 ≤ a ∧ a ≤ 16)
theorem pp_Sx9_t {a b : Nat} (h : pp_SXt a b = false) : pp_Sx9 a b = false := by
  have q := of_decide_eq_false h
  exact decide_eq_false (by omega)
theorem pp_chg {N t L o i v : Nat} {s : Nat → Int32} {μX : g_M} (hN : 200 ≤ N) (ht : pp_rk t) (hI : pp_I s) (hD : pp_D s μX) (hR : pp_RR μX t L s) (ho : o < pp_n s) (hi : i < 4) (hv : pp_vok i v) :
    ∃ μX1 : g_M, f_X9_settle N t L (pp_i o) (g_set μX (9 + i) o (pp_i v)) = some μX1 ∧ pp_I (pp_up s (8 + 5 * o + i) (pp_i v)) ∧ pp_D (pp_up s (8 + 5 * o + i) (pp_i v)) μX1 ∧ pp_RR μX1 t L (pp_up s (8 + 5 * o + i) (pp_i v)) ∧ pp_F pp_Sx9 μX μX1 := by
  have hn := hI.1.2
  have hI1 := pp_I_chg hI ho hi hv
  obtain ⟨en, et, ee, ew⟩ := pp_chn (s := s) (o := o) (i := i) (x := pp_i v) (by omega) hi
  have r1 : ∀ a, ¬ a = 9 + i → g_set μX (9 + i) o (pp_i v) a = μX a := fun a ha => pp_rowN ha
  have hR1 : pp_RR (g_set μX (9 + i) o (pp_i v)) t L (pp_up s (8 + 5 * o + i) (pp_i v)) := (hR.s (fun j hj => pp_up_n (by omega))).F (fun a ha hb => r1 a (fun q => (pp_rk_no ht ha hb).1 (by omega)))
  obtain ⟨hC, d12, d13, d14, d15, d16⟩ := hD
  obtain ⟨c1, c2, c3, c4⟩ := hC
  have hV : pp_V (pp_up s (8 + 5 * o + i) (pp_i v)) (g_set μX (9 + i) o (pp_i v)) := by
    refine ⟨?_, fun k hk => ?_⟩
    · rw [r1 1 (by omega), pp_up_n (by omega)]
      exact c1
    · rw [en] at hk
      obtain ⟨w0, w1, w2, w3⟩ := c2 k hk
      by_cases c : k = o
      · subst c
        have hi4 : i = 0 ∨ i = 1 ∨ i = 2 ∨ i = 3 := by omega
        rcases hi4 with rfl | rfl | rfl | rfl
        · exact ⟨by rw [pp_set_s, pp_up_s], by rw [r1 10 (by omega), pp_up_n (by omega), w1], by rw [r1 11 (by omega), pp_up_n (by omega), w2], by rw [r1 12 (by omega), pp_up_n (by omega), w3]⟩
        · exact ⟨by rw [r1 9 (by omega), pp_up_n (by omega), w0], by rw [pp_set_s, pp_up_s], by rw [r1 11 (by omega), pp_up_n (by omega), w2], by rw [r1 12 (by omega), pp_up_n (by omega), w3]⟩
        · exact ⟨by rw [r1 9 (by omega), pp_up_n (by omega), w0], by rw [r1 10 (by omega), pp_up_n (by omega), w1], by rw [pp_set_s, pp_up_s], by rw [r1 12 (by omega), pp_up_n (by omega), w3]⟩
        · exact ⟨by rw [r1 9 (by omega), pp_up_n (by omega), w0], by rw [r1 10 (by omega), pp_up_n (by omega), w1], by rw [r1 11 (by omega), pp_up_n (by omega), w2], by rw [pp_set_s, pp_up_s]⟩
      · exact ⟨by rw [pp_set_n (by omega), pp_up_n (by omega), w0], by rw [pp_set_n (by omega), pp_up_n (by omega), w1], by rw [pp_set_n (by omega), pp_up_n (by omega), w2], by rw [pp_set_n (by omega), pp_up_n (by omega), w3]⟩
  have hCx : pp_Cx (pp_up s (8 + 5 * o + i) (pp_i v)) (g_set μX (9 + i) o (pp_i v)) o := by
    refine ⟨hV, fun a k ha hk h1 h2 h3 => ?_, fun t2 a ht2 ha h1 => ?_⟩
    · rw [en] at ha hk
      rw [r1 13 (by omega), c3 a k ha hk h1]
      unfold pp_ws
      rw [pp_up_n (by omega), pp_up_n (by omega), pp_up_n (by omega), pp_up_n (by omega), pp_up_n (by omega)]
    · rw [en] at ha
      rw [r1 14 (by omega), c4 t2 a ht2 ha]
      exact (pp_wl_congr (pp_up_n (by omega)) (fun j hj => pp_up_n (by omega)) (fun j hj => pp_up_n (by omega))).symm
  obtain ⟨μX1, i1, i2, i3⟩ := pp_X_settle (N := N) (r := t) (L := L) hN hI1.1 hI1.2.1 (by rcases ht with h | h | h <;> omega) hR1 (by rw [en]; exact ho) hCx
  have fS : ∀ a, ¬ (a = 13 ∨ a = 14 ∨ a = 16) → μX1 a = g_set μX (9 + i) o (pp_i v) a := fun a ha => i3.row (fun b => decide_eq_false ha)
  have e1 : μX1 1 = μX 1 := (fS 1 (by omega)).trans (r1 1 (by omega))
  refine ⟨μX1, i1, hI1, ⟨i2, ?_, ?_, ?_, ?_, ?_⟩, hR1.Fs (by rcases ht with h | h | h <;> omega) i3, ?_⟩
  · rw [e1, d12, en]
    exact congrArg pp_i (pp_pk_congr (fun k hk => (ew k).symm))
  · rw [e1, d13, pp_up_n (by omega)]
  · rw [e1, d14, pp_up_n (by omega)]
  · rw [e1, d15, pp_up_n (by omega)]
  · rw [e1, d16, pp_up_n (by omega)]
  · intro a b hab
    have q := of_decide_eq_false hab
    rw [fS a (by omega), r1 a (by omega)]
