/-! ===== cells behind the row don't matter; keep, again ===== -/
theorem pp_rn_cg {q q1 : Nat → Int32} {c : Nat → Bool} : ∀ (m b x : Nat), (∀ k, b ≤ k → k < b + m → q1 k = q k) → pp_rn q1 c m b x = pp_rn q c m b x ∧ (pp_ok q1 c m b x ↔ pp_ok q c m b x)
  | 0, _, _, _ => ⟨rfl, Iff.rfl⟩
  | m + 1, b, x, h => by
    obtain ⟨h1, h2⟩ := pp_rn_cg (c := c) m (b + 1) (pp_ns (q b) (c b) x) (fun k hk hk2 => h k (by omega) (by omega))
    rw [pp_rn, pp_rn, pp_ok, pp_ok, h b (Nat.le_refl _) (by omega)]
    exact ⟨h1, and_congr_right (fun _ => h2)⟩
theorem pp_gd_cg {q q1 : Nat → Int32} {h b m : Nat} (hg : pp_gd q h b m) (e : ∀ k, b ≤ k → k < b + m → q1 k = q k) : pp_gd q1 h b m := by
  refine ⟨hg.1, fun c x hx => ?_⟩
  obtain ⟨h1, h2⟩ := pp_rn_cg (c := c) m b x e
  obtain ⟨g1, v, g2, g3⟩ := hg.2 c x hx
  exact ⟨h2.mpr g1, v, g2, by rw [h1]; exact g3⟩
theorem pp_wl_cg3 {s s1 : Nat → Int32} {t o : Nat} (hR : pp_R s) (ho : o < 6) (e : ∀ j, j < 544 → s1 j = s j) : pp_wl s1 t o = pp_wl s t o := by
  obtain ⟨R, S, hR8, hS, h5, h7, hr⟩ := hR
  have hv : ∀ v, pp_vl s1 t o v = pp_vl s t o v := by
    intro v
    unfold pp_vl
    rw [e _ (by omega), e _ (by omega), e _ (by omega)]
  have hrun : ∀ (m k : Nat) (x : Int64), k + m ≤ 150 → pp_run s1 t o m k x = pp_run s t o m k x := by
    intro m
    induction m with
    | zero => exact fun _ _ _ => rfl
    | succ m ih =>
      intro k x hk
      rw [pp_run, pp_run, ih _ _ (by omega), e _ (by omega), e _ (by omega), e _ (by omega), hv, hv]
  have hL : ∀ (m r : Nat), r + m ≤ R → pp_wlL s1 t o m r = pp_wlL s t o m r := by
    intro m
    induction m with
    | zero => exact fun _ _ => rfl
    | succ m ih =>
      intro r hr2
      obtain ⟨b, e2, k, d, g1, g2, g3, g4, g5, g6, g7, g8⟩ := hr r (by omega)
      rw [pp_wlL, pp_wlL, ih _ (by omega), e _ (by omega), e _ (by omega), e _ (by omega)]
      unfold pp_hd
      rw [e _ (by omega), e _ (by omega), g7, g8, pp_nat (by omega), pp_nat (by omega), hrun _ _ _ (by omega)]
  unfold pp_wl
  rw [e 5 (by decide), h5, pp_nat (by omega), hL _ _ (by omega)]
theorem pp_TW.e {s s1 : Nat → Int32} {μ μr : g_M} {t L : Nat} (h : pp_TW s μ μr t L) (e : ∀ j, j < 544 → s1 j = s j) : pp_TW s1 μ μr t L := by
  obtain ⟨hI, hD, hR, c, hp⟩ := h
  have en : pp_n s1 = pp_n s := by unfold pp_n; rw [e 0 (by decide)]
  have et : pp_t s1 = pp_t s := by unfold pp_t; rw [e 1 (by decide)]
  have ee : pp_e s1 = pp_e s := by unfold pp_e; rw [e 2 (by decide)]
  obtain ⟨hB, hO, hRR, hT⟩ := hI
  have hB2 := hB.2
  have ew : ∀ o, o < pp_n s → pp_w s1 o = pp_w s o := fun o ho => by unfold pp_w; rw [en, e _ (by omega)]
  obtain ⟨t1, t2, t3, t4, t5, t6⟩ := hT
  obtain ⟨hC, x12, x13, x14, x15, x16⟩ := hD
  obtain ⟨c1, c2, c3, c4⟩ := hC
  have hRR0 := hRR
  obtain ⟨R, S, h1, h2, h3, h4, hr⟩ := hRR
  refine ⟨⟨⟨?_, ?_⟩, fun o ho => ?_, ⟨R, S, h1, h2, by rw [e _ (by omega), h3], by rw [e _ (by omega), h4], fun r hr2 => ?_⟩, ?_⟩, ⟨⟨?_, fun o ho => ?_, fun o k2 ho hk hne => ?_, fun t2 o ht2 ho => ?_⟩, ?_, ?_, ?_, ?_, ?_⟩, ?_, c, ?_⟩
  · rw [en, e 0 (by decide)]
    exact hB.1
  · rw [en]
    exact hB2
  · rw [en] at ho
    obtain ⟨kd, a, p, f, g1, g2, g3, g4, g5, g6, g7, g8, g9, g10⟩ := hO o ho
    exact ⟨kd, a, p, f, g1, g2, g3, g4, g5, g6, by rw [e _ (by omega), g7], by rw [e _ (by omega), g8], by rw [e _ (by omega), g9], by rw [e _ (by omega), g10]⟩
  · obtain ⟨b, e5, k5, d, g1, g2, g3, g4, g5, g6, g7, g8⟩ := hr r hr2
    exact ⟨b, e5, k5, d, g1, g2, g3, g4, by rw [e _ (by omega), g5], by rw [e _ (by omega), g6], by rw [e _ (by omega), g7], by rw [e _ (by omega), g8]⟩
  · refine ⟨by rw [et, e 1 (by decide), t1], by rw [ee, e 2 (by decide), t2], by rw [ee]; exact t3, by rw [ee]; exact t4, by rw [et, ee]; exact t5, fun o ho => ?_⟩
    rw [en] at ho
    rw [ew o ho, e _ (by omega)]
    exact t6 o ho
  · rw [e 0 (by decide)]
    exact c1
  · rw [en] at ho
    rw [e _ (by omega), e _ (by omega), e _ (by omega), e _ (by omega)]
    exact c2 o ho
  · rw [en] at ho hk
    rw [c3 o k2 ho hk hne]
    unfold pp_ws
    rw [e _ (by omega), e _ (by omega), e _ (by omega), e _ (by omega), e _ (by omega)]
  · rw [en] at ho
    rw [c4 t2 o ht2 ho]
    exact (pp_wl_cg3 hRR0 (by omega) e).symm
  · rw [x12, en]
    exact congrArg pp_i (pp_pk_congr (fun o ho => (ew o ho).symm))
  · rw [x13, e 1 (by decide)]
  · rw [x14, e 2 (by decide)]
  · rw [x15, e 3 (by decide)]
  · rw [x16, e 4 (by decide)]
  · obtain ⟨R, S, h1, h2, h3, h4, h5, h6, h7, hr, hk⟩ := hR
    refine ⟨R, S, h1, h2, (e 5 (by omega)).trans h3, (e 7 (by omega)).trans h4, h5, h6, h7, fun i hi => ?_, fun k hk2 => ?_⟩
    · obtain ⟨b, e2, k, d, g1, g2, g3, g4, g5, g6, g7, g8, g9, g10, g11, g12, g13, g14⟩ := hr i hi
      refine ⟨b, e2, k, d, g1, g2, g3, g4, (e _ (by omega)).trans g5, (e _ (by omega)).trans g6, (e _ (by omega)).trans g7, (e _ (by omega)).trans g8, g9, g10, g11, ?_, g13, fun j hj => (e _ (by omega)).trans (g14 j hj)⟩
      rcases g12 with g12 | g12
      · exact Or.inl g12
      · exact Or.inr (pp_gd_cg g12 (fun k hk hk2 => e _ (by omega)))
    · obtain ⟨g1, g2, g3, a, b, g4, g5, g6, g7⟩ := hk k hk2
      exact ⟨g1.trans (e _ (by omega)).symm, g2.trans (e _ (by omega)).symm, g3.trans (e _ (by omega)).symm, a, b, g4, g5, (e _ (by omega)).trans g6, (e _ (by omega)).trans g7⟩
  · obtain ⟨h1, h2, h3, hr⟩ := hp
    refine ⟨h1, (e 6 (by omega)).trans h2, h3, fun i hi => ?_⟩
    obtain ⟨k, p, lo, hi2, g1, g2, g3, g4, g5, g6, g7, g8⟩ := hr i hi
    exact ⟨k, p, lo, hi2, g1, g2, g3, (e _ (by omega)).trans g4, (e _ (by omega)).trans g5, (e _ (by omega)).trans g6, (e _ (by omega)).trans g7, g8⟩
/-- n cells of row a come to row b -/
def pp_cpy (μ : g_M) (a b n : Nat) : g_M := fun i j => if i = b ∧ j < n then μ a j else μ i j
theorem pp_cpy_n {μ : g_M} {a b n i : Nat} (h : i ≠ b) : pp_cpy μ a b n i = μ i := by
  funext j
  unfold pp_cpy
  rw [if_neg (fun q => h q.1)]
theorem pp_cpy_s {μ : g_M} {a b n j : Nat} (h : j < n) : pp_cpy μ a b n b j = μ a j := if_pos ⟨rfl, h⟩
/-- the class's copyFrom, from the town at u to that at v -/
def pp_cf7 (u v : Nat) (μ : g_M) : g_M := pp_cpy (pp_cpy (pp_cpy (pp_cpy (pp_cpy (pp_cpy (pp_cpy μ (u + 8) (v + 8) 6) (u + 9) (v + 9) 6) (u + 10) (v + 10) 6) (u + 11) (v + 11) 6) (u + 12) (v + 12) 36) (u + 13) (v + 13) 102) (u + 16) (v + 16) 24
def pp_cfS (u v : Nat) (μ : g_M) : g_M := g_set (g_set (g_set (g_set (g_set (g_set (g_set μ v 11 (μ u 11)) v 12 (μ u 12)) v 13 (μ u 13)) v 14 (μ u 14)) v 15 (μ u 15)) v 16 (μ u 16)) v 17 (μ u 17)
theorem pp_cf7_o {u v a : Nat} {μ : g_M} (h : ¬ (v + 8 ≤ a ∧ a ≤ v + 16)) : pp_cf7 u v μ a = μ a := by
  unfold pp_cf7
  rw [pp_cpy_n (by omega), pp_cpy_n (by omega), pp_cpy_n (by omega), pp_cpy_n (by omega), pp_cpy_n (by omega), pp_cpy_n (by omega), pp_cpy_n (by omega)]
theorem pp_cfS_o {u v a : Nat} {μ : g_M} (h : ¬ a = v) : pp_cfS u v μ a = μ a := by
  unfold pp_cfS
  rw [pp_rowN h, pp_rowN h, pp_rowN h, pp_rowN h, pp_rowN h, pp_rowN h, pp_rowN h]
theorem pp_cfS_v {u v b : Nat} {μ : g_M} (h1 : 11 ≤ b) (h2 : b ≤ 17) : pp_cfS u v μ v b = μ u b := by
  have hb : b = 11 ∨ b = 12 ∨ b = 13 ∨ b = 14 ∨ b = 15 ∨ b = 16 ∨ b = 17 := by omega
  unfold pp_cfS
  rcases hb with rfl | rfl | rfl | rfl | rfl | rfl | rfl
  · rw [pp_set_n (by omega), pp_set_n (by omega), pp_set_n (by omega), pp_set_n (by omega), pp_set_n (by omega), pp_set_n (by omega), pp_set_s]
  · rw [pp_set_n (by omega), pp_set_n (by omega), pp_set_n (by omega), pp_set_n (by omega), pp_set_n (by omega), pp_set_s]
  · rw [pp_set_n (by omega), pp_set_n (by omega), pp_set_n (by omega), pp_set_n (by omega), pp_set_s]
  · rw [pp_set_n (by omega), pp_set_n (by omega), pp_set_n (by omega), pp_set_s]
  · rw [pp_set_n (by omega), pp_set_n (by omega), pp_set_s]
  · rw [pp_set_n (by omega), pp_set_s]
  · rw [pp_set_s]
/-- what the copied town holds: as far as it is looked at -/
def pp_same (u v : Nat) (μ μ1 : g_M) : Prop := (∀ b, 11 ≤ b → b ≤ 17 → μ1 v b = μ u b) ∧ (∀ i j, i ≤ 3 → j < 6 → μ1 (v + 8 + i) j = μ (u + 8 + i) j) ∧ (∀ j, j < 36 → μ1 (v + 12) j = μ (u + 12) j) ∧ (∀ j, j < 102 → μ1 (v + 13) j = μ (u + 13) j) ∧ (∀ j, j < 24 → μ1 (v + 16) j = μ (u + 16) j)
theorem pp_cf_same {u v : Nat} {μ : g_M} (h : (u = 1 ∧ v = 23) ∨ (u = 23 ∧ v = 1)) : pp_same u v μ (pp_cfS u v (pp_cf7 u v μ)) := by
  have hne : u ≠ v := by omega
  refine ⟨fun b h1 h2 => ?_, fun i j hi hj => ?_, fun j hj => ?_, fun j hj => ?_, fun j hj => ?_⟩
  · rw [pp_cfS_v h1 h2, pp_cf7_o (by omega)]
  · have hi4 : i = 0 ∨ i = 1 ∨ i = 2 ∨ i = 3 := by omega
    rw [pp_cfS_o (by omega)]
    unfold pp_cf7
    rcases hi4 with rfl | rfl | rfl | rfl
    · rw [pp_cpy_n (by omega), pp_cpy_n (by omega), pp_cpy_n (by omega), pp_cpy_n (by omega), pp_cpy_n (by omega), pp_cpy_n (by omega), Nat.add_zero, pp_cpy_s hj]
    · rw [pp_cpy_n (by omega), pp_cpy_n (by omega), pp_cpy_n (by omega), pp_cpy_n (by omega), pp_cpy_n (by omega), show v + 8 + 1 = v + 9 from rfl, pp_cpy_s hj, pp_cpy_n (by omega)]
    · rw [pp_cpy_n (by omega), pp_cpy_n (by omega), pp_cpy_n (by omega), pp_cpy_n (by omega), show v + 8 + 2 = v + 10 from rfl, pp_cpy_s hj, pp_cpy_n (by omega), pp_cpy_n (by omega)]
    · rw [pp_cpy_n (by omega), pp_cpy_n (by omega), pp_cpy_n (by omega), show v + 8 + 3 = v + 11 from rfl, pp_cpy_s hj, pp_cpy_n (by omega), pp_cpy_n (by omega), pp_cpy_n (by omega)]
  · rw [pp_cfS_o (by omega)]
    unfold pp_cf7
    rw [pp_cpy_n (by omega), pp_cpy_n (by omega), pp_cpy_s hj, pp_cpy_n (by omega), pp_cpy_n (by omega), pp_cpy_n (by omega), pp_cpy_n (by omega)]
  · rw [pp_cfS_o (by omega)]
    unfold pp_cf7
    rw [pp_cpy_n (by omega), pp_cpy_s hj, pp_cpy_n (by omega), pp_cpy_n (by omega), pp_cpy_n (by omega), pp_cpy_n (by omega), pp_cpy_n (by omega)]
  · rw [pp_cfS_o (by omega)]
    unfold pp_cf7
    rw [pp_cpy_s hj, pp_cpy_n (by omega), pp_cpy_n (by omega), pp_cpy_n (by omega), pp_cpy_n (by omega), pp_cpy_n (by omega), pp_cpy_n (by omega)]
/-- a view of the town at v -/
def pp_vw (v : Nat) (μ : g_M) : g_M := fun a => μ (a + (v - 1))
theorem pp_vw1 (μ : g_M) : pp_vw 1 μ = μ := rfl
theorem pp_vw23 (μ : g_M) : pp_vw 23 μ = pp_sv μ := rfl
theorem pp_same_TW {u v t L : Nat} {s : Nat → Int32} {μ μ1 μr : g_M} (hu : 1 ≤ u) (hv : 1 ≤ v) (h : pp_same u v μ μ1) (hT : pp_TW s (pp_vw u μ) μr t L) : pp_TW s (pp_vw v μ1) μr t L := by
  obtain ⟨hI, ⟨⟨c1, c2, c3, c4⟩, x12, x13, x14, x15, x16⟩, hR, c, ⟨p1, p2, p3, p4⟩⟩ := hT
  obtain ⟨s1, s2, s3, s4, s5⟩ := h
  have hn := hI.1.2
  have r1 : ∀ b, 11 ≤ b → b ≤ 17 → pp_vw v μ1 1 b = pp_vw u μ 1 b := fun b h1 h2 => by
    show μ1 (1 + (v - 1)) b = μ (1 + (u - 1)) b
    rw [show 1 + (v - 1) = v by omega, show 1 + (u - 1) = u by omega]
    exact s1 b h1 h2
  have r2 : ∀ i j, i ≤ 3 → j < 6 → pp_vw v μ1 (9 + i) j = pp_vw u μ (9 + i) j := fun i j h1 h2 => by
    show μ1 (9 + i + (v - 1)) j = μ (9 + i + (u - 1)) j
    rw [show 9 + i + (v - 1) = v + 8 + i by omega, show 9 + i + (u - 1) = u + 8 + i by omega]
    exact s2 i j h1 h2
  have r3 : ∀ j, j < 36 → pp_vw v μ1 13 j = pp_vw u μ 13 j := fun j h1 => by
    show μ1 (13 + (v - 1)) j = μ (13 + (u - 1)) j
    rw [show 13 + (v - 1) = v + 12 by omega, show 13 + (u - 1) = u + 12 by omega]
    exact s3 j h1
  have r4 : ∀ j, j < 102 → pp_vw v μ1 14 j = pp_vw u μ 14 j := fun j h1 => by
    show μ1 (14 + (v - 1)) j = μ (14 + (u - 1)) j
    rw [show 14 + (v - 1) = v + 13 by omega, show 14 + (u - 1) = u + 13 by omega]
    exact s4 j h1
  have r5 : ∀ j, j < 24 → pp_vw v μ1 17 j = pp_vw u μ 17 j := fun j h1 => by
    show μ1 (17 + (v - 1)) j = μ (17 + (u - 1)) j
    rw [show 17 + (v - 1) = v + 16 by omega, show 17 + (u - 1) = u + 16 by omega]
    exact s5 j h1
  refine ⟨hI, ⟨⟨(r1 11 (by decide) (by decide)).trans c1, fun o ho => ?_, fun o k ho hk hne => ?_, fun t o ht ho => ?_⟩, (r1 12 (by decide) (by decide)).trans x12, (r1 13 (by decide) (by decide)).trans x13, (r1 14 (by decide) (by decide)).trans x14, (r1 15 (by decide) (by decide)).trans x15, (r1 16 (by decide) (by decide)).trans x16⟩, hR, c, p1, p2, (r1 17 (by decide) (by decide)).trans p3, fun i hi => ?_⟩
  · obtain ⟨g1, g2, g3, g4⟩ := c2 o ho
    exact ⟨(r2 0 o (by decide) (by omega)).trans g1, (r2 1 o (by decide) (by omega)).trans g2, (r2 2 o (by decide) (by omega)).trans g3, (r2 3 o (by decide) (by omega)).trans g4⟩
  · exact (r3 _ (by omega)).trans (c3 o k ho hk hne)
  · exact (r4 _ (by omega)).trans (c4 t o ht ho)
  · obtain ⟨k, p, lo, hi2, g1, g2, g3, g4, g5, g6, g7, g8, g9, g10, g11⟩ := p4 i hi
    exact ⟨k, p, lo, hi2, g1, g2, g3, g4, g5, g6, g7, (r5 _ (by omega)).trans g8, (r5 _ (by omega)).trans g9, (r5 _ (by omega)).trans g10, (r5 _ (by omega)).trans g11⟩
theorem pp_M_kpL {N : Nat} : ∀ (m n x : Nat) (μ : g_M), x + m = 544 → m < n → ∃ μ1 : g_M, f_X12_keep_L2 N n (pp_i x) μ = some μ1 ∧ (∀ i, i ≠ 2 → μ1 i = μ i) ∧ (∀ k, x ≤ k → k < 544 → μ1 2 k = μ 1 k) ∧ ∀ k, k < x → μ1 2 k = μ 2 k := by
  intro m
  induction m with
  | zero =>
    intro n x μ hx hn
    obtain ⟨n, rfl⟩ := pp_fu hn
    rw [f_X12_keep_L2, show (544 : Int32) = pp_i 544 from rfl, pp_ite (pp_ge (by omega) (by omega)), if_pos (by omega)]
    exact ⟨μ, rfl, fun _ _ => rfl, fun k h1 h2 => by omega, fun _ _ => rfl⟩
  | succ m ih =>
    intro n x μ hx hn
    obtain ⟨n, rfl⟩ := pp_fu hn
    rw [f_X12_keep_L2, show (544 : Int32) = pp_i 544 from rfl, pp_ite (pp_ge (by omega) (by omega)), if_neg (by omega), pp_rd (by omega) (by decide)]
    simp only [Option.bind_some]
    rw [pp_wr (by omega) (by decide), show pp_i x + 1 = pp_i (x + 1) from pp_add x 1]
    simp only [Option.bind_some]
    obtain ⟨μ1, i1, i2, i3, i4⟩ := ih n (x + 1) (g_set μ 2 x (μ 1 x)) (by omega) (by omega)
    refine ⟨μ1, i1, fun i hi => (i2 i hi).trans (pp_rowN hi), fun k h1 h2 => ?_, fun k hk => ?_⟩
    · by_cases c : k = x
      · rw [c, i4 x (by omega), pp_set_s]
      · rw [i3 k (by omega) h2, pp_rowN (by decide)]
    · rw [i4 k (by omega), pp_set_n (by omega)]
theorem pp_M_agL {N : Nat} : ∀ (m n x : Nat) (μ : g_M), x + m = 544 → m < n → ∃ μ1 : g_M, f_X12_again_L12 N n (pp_i x) μ = some μ1 ∧ (∀ i, i ≠ 1 → μ1 i = μ i) ∧ (∀ k, x ≤ k → k < 544 → μ1 1 k = μ 2 k) ∧ ∀ k, k < x → μ1 1 k = μ 1 k := by
  intro m
  induction m with
  | zero =>
    intro n x μ hx hn
    obtain ⟨n, rfl⟩ := pp_fu hn
    rw [f_X12_again_L12, show (544 : Int32) = pp_i 544 from rfl, pp_ite (pp_ge (by omega) (by omega)), if_pos (by omega)]
    exact ⟨μ, rfl, fun _ _ => rfl, fun k h1 h2 => by omega, fun _ _ => rfl⟩
  | succ m ih =>
    intro n x μ hx hn
    obtain ⟨n, rfl⟩ := pp_fu hn
    rw [f_X12_again_L12, show (544 : Int32) = pp_i 544 from rfl, pp_ite (pp_ge (by omega) (by omega)), if_neg (by omega), pp_rd (by omega) (by decide)]
    simp only [Option.bind_some]
    rw [pp_wr (by omega) (by decide), show pp_i x + 1 = pp_i (x + 1) from pp_add x 1]
    simp only [Option.bind_some]
    obtain ⟨μ1, i1, i2, i3, i4⟩ := ih n (x + 1) (g_set μ 1 x (μ 2 x)) (by omega) (by omega)
    refine ⟨μ1, i1, fun i hi => (i2 i hi).trans (pp_rowN hi), fun k h1 h2 => ?_, fun k hk => ?_⟩
    · by_cases c : k = x
      · rw [c, i4 x (by omega), pp_set_s]
      · rw [i3 k (by omega) h2, pp_rowN (by decide)]
    · rw [i4 k (by omega), pp_set_n (by omega)]
/-- the class's memory behind keep() and again() -/
def pp_kX (μ : g_M) : g_M := g_set (pp_cfS 1 23 (pp_cf7 1 23 μ)) 0 12 1
def pp_aX (μ : g_M) : g_M := pp_cfS 23 1 (pp_cf7 23 1 μ)
theorem pp_c_keep {N t L u Lu : Nat} {μX μM : g_M} (hN : 1000 ≤ N) (h : pp_Rel t L u Lu μX μM) : ∃ (μM1 : g_M), f_X12_keep N μM = some (1, μM1) ∧ pp_Rel t L t L (pp_kX μX) μM1 := by
  obtain ⟨μM1, m1, m2, m3, m4⟩ := pp_M_kpL (N := N) 544 N 0 μM (by omega) (by omega)
  have m1 : f_X12_keep_L2 N N 0 μM = some μM1 := m1
  refine ⟨g_set μM1 0 2 1, ?_, ?_⟩
  · unfold f_X12_keep
    rw [m1]
    rfl
  have eX : ∀ a, ¬ (a = 0 ∨ (23 ≤ a ∧ a ≤ 39)) → pp_kX μX a = μX a := fun a ha => by
    unfold pp_kX
    rw [pp_rowN (by omega), pp_cfS_o (by omega), pp_cf7_o (by omega)]
  have x0 : ∀ b, ¬ b = 12 → pp_kX μX 0 b = μX 0 b := fun b hb => by
    unfold pp_kX
    rw [pp_set_n (by omega), pp_cfS_o (by omega), pp_cf7_o (by omega)]
  have eM : ∀ a, ¬ (a = 0 ∨ a = 2) → g_set μM1 0 2 1 a = μM a := fun a ha => by rw [pp_rowN (by omega), m2 a (by omega)]
  have m0 : ∀ b, ¬ b = 2 → g_set μM1 0 2 1 0 b = μM 0 b := fun b hb => by rw [pp_set_n (by omega), m2 0 (by decide)]
  have hs : pp_same 1 23 μX (pp_kX μX) := by
    have q := pp_cf_same (μ := μX) (u := 1) (v := 23) (Or.inl ⟨rfl, rfl⟩)
    obtain ⟨s1, s2, s3, s4, s5⟩ := q
    refine ⟨fun b h1 h2 => ?_, fun i j h1 h2 => ?_, fun j h1 => ?_, fun j h1 => ?_, fun j h1 => ?_⟩
    · unfold pp_kX
      rw [pp_rowN (by decide)]
      exact s1 b h1 h2
    · unfold pp_kX
      rw [pp_rowN (by omega)]
      exact s2 i j h1 h2
    · unfold pp_kX
      rw [pp_rowN (by decide)]
      exact s3 j h1
    · unfold pp_kX
      rw [pp_rowN (by decide)]
      exact s4 j h1
    · unfold pp_kX
      rw [pp_rowN (by decide)]
      exact s5 j h1
  obtain ⟨ht, hu, ⟨hI, hD, hR, c, hp⟩, hk, hta, hrw, hsh, hh, htr⟩ := h
  have hR1 : pp_RR (pp_kX μX) t L (μM 1) := hR.F (fun a ha hb => eX a (by
    rcases ht with q | q | q <;> omega))
  have hT : pp_TW (μM 1) (pp_kX μX) (pp_kX μX) t L := by
    refine ⟨hI, ⟨hD.1.rows (by rw [eX 1 (by omega)]) (fun i h1 h2 => eX i (by omega)), ?_⟩, hR1, c, hp.F (by rw [eX 1 (by omega)]) (eX 17 (by omega))⟩
    rw [eX 1 (by omega)]
    exact hD.2
  refine ⟨ht, ht, by rw [eM 1 (by omega)]; exact hT, Or.inr ⟨?_, pp_set_s, ?_⟩, hta.R (eX 46 (by omega)) (by rw [eX 45 (by omega)]) (eM 4 (by omega)) (m0 5 (by omega)), hrw.R (eX 52 (by omega)) (x0 11 (by omega)) (eM 11 (by omega)) (m0 32 (by omega)), hsh.R (fun a h1 h2 => eX a (by omega)) (eM 12 (by omega)) (eM 13 (by omega)) (eM 14 (by omega)), hh.R (fun a h1 h2 => eX a (by omega)) (eM 15 (by omega)) (eM 16 (by omega)) (eM 17 (by omega)), htr.R (eX 51 (by omega)) (by rw [eX 50 (by omega)]) (eM 18 (by omega)) (m0 40 (by omega))⟩
  · unfold pp_kX
    rw [pp_set_s]
  · have hT0 : pp_TW (μM 1) (pp_vw 1 μX) (pp_kX μX) t L := ⟨hI, hD, hR1, c, hp⟩
    have hT1 := pp_same_TW (v := 23) (by decide) (by decide) hs hT0
    rw [pp_vw23] at hT1
    exact hT1.e (fun j hj => by rw [pp_rowN (by decide), m3 j (Nat.zero_le _) hj])
theorem pp_c_again {N t L u Lu : Nat} {μX μM : g_M} (hN : 1000 ≤ N) (h : pp_Rel t L u Lu μX μM) : (μX 0 12 = 0 ∧ f_X12_again N μM = some (-3, μM)) ∨ (μX 0 12 = 1 ∧ ∃ (v : Int32) (μM1 : g_M), f_X12_again N μM = some (v, μM1) ∧ pp_aX μX 1 11 = v ∧ pp_Rel u Lu u Lu (pp_aX μX) μM1) := by
  obtain ⟨ht, hu, hT0, hk, hta, hrw, hsh, hh, htr⟩ := h
  rcases hk with ⟨k1, k2⟩ | ⟨k1, k2, k3⟩
  · refine Or.inl ⟨k1, ?_⟩
    unfold f_X12_again
    rw [if_pos k2]
  · obtain ⟨μM1, m1, m2, m3, m4⟩ := pp_M_agL (N := N) 544 N 0 μM (by omega) (by omega)
    have m1 : f_X12_again_L12 N N 0 μM = some μM1 := m1
    refine Or.inr ⟨k1, μM1 1 0, μM1, ?_, ?_, ?_⟩
    · unfold f_X12_again
      rw [k2, if_neg (by decide), m1]
      rfl
    · unfold pp_aX
      rw [pp_cfS_v (by decide) (by decide), pp_cf7_o (by omega), m3 0 (Nat.le_refl _) (by decide)]
      exact k3.2.1.1.1
    · have eX : ∀ a, ¬ (1 ≤ a ∧ a ≤ 17) → pp_aX μX a = μX a := fun a ha => by
        unfold pp_aX
        rw [pp_cfS_o (by omega), pp_cf7_o (by omega)]
      have hs : pp_same 23 1 μX (pp_aX μX) := pp_cf_same (Or.inr ⟨rfl, rfl⟩)
      obtain ⟨hI, hD, hR, c, hp⟩ := k3
      have hR1 : pp_RR (pp_aX μX) u Lu (μM 2) := hR.F (fun a ha hb => eX a (by
        rcases hu with q | q | q <;> omega))
      have hT1 : pp_TW (μM 2) (pp_vw 23 μX) (pp_aX μX) u Lu := ⟨hI, hD, hR1, c, hp⟩
      have hT2 := (pp_same_TW (v := 1) (by decide) (by decide) hs hT1).e (s1 := μM1 1) (fun j hj => m3 j (Nat.zero_le _) hj)
      rw [pp_vw1] at hT2
      have hkp : pp_KP μX μM u Lu := Or.inr ⟨k1, k2, hI, hD, hR, c, hp⟩
      exact ⟨hu, hu, hT2, hkp.R hu (fun a ha => eX a (by
        rcases ha with ha | ⟨ha, hb⟩
        · omega
        · rcases hu with q | q | q <;> omega)) (by rw [eX 0 (by omega)]) (m2 2 (by decide)) (by rw [m2 0 (by decide)]), hta.R (eX 46 (by omega)) (by rw [eX 45 (by omega)]) (m2 4 (by decide)) (by rw [m2 0 (by decide)]), hrw.R (eX 52 (by omega)) (by rw [eX 0 (by omega)]) (m2 11 (by decide)) (by rw [m2 0 (by decide)]), hsh.R (fun a h1 h2 => eX a (by omega)) (m2 12 (by decide)) (m2 13 (by decide)) (m2 14 (by decide)), hh.R (fun a h1 h2 => eX a (by omega)) (m2 15 (by decide)) (m2 16 (by decide)) (m2 17 (by decide)), htr.R (eX 51 (by omega)) (by rw [eX 50 (by omega)]) (m2 18 (by decide)) (by rw [m2 0 (by decide)])⟩
