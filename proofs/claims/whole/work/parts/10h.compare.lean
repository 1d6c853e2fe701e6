/-! ===== a comparison, by both ===== -/
def pp_Sm (S a b : Nat) : Bool := decide ((a = 0 ∧ 8 ≤ b ∧ b ≤ 13) ∨ (a = 1 ∧ (b = 7 ∨ (94 + 3 * S ≤ b ∧ b < 544))))
theorem pp_Sm_r {S a b : Nat} (h : pp_Sm S a b = false) : pp_Sr a b = false := by
  unfold pp_Sm at h
  unfold pp_Sr
  simp only [decide_eq_false_iff_not] at h ⊢
  omega
theorem pp_Sm_le {S S1 a b : Nat} (hs : S ≤ S1) (h : pp_Sm S a b = false) : pp_Sm S1 a b = false := by
  unfold pp_Sm at h ⊢
  simp only [decide_eq_false_iff_not] at h ⊢
  omega
theorem pp_Fr {S : Nat} {μ μ1 : g_M} (h : pp_F pp_Sr μ μ1) : pp_F (pp_Sm S) μ μ1 := h.mono (fun _ _ q => pp_Sm_r q)
theorem pp_Fl {S S1 : Nat} {μ μ1 : g_M} (hs : S ≤ S1) (h : pp_F (pp_Sm S1) μ μ1) : pp_F (pp_Sm S) μ μ1 := h.mono (fun _ _ q => pp_Sm_le hs q)
theorem pp_Fr1 {μ μ1 : g_M} (h : pp_F pp_Sr μ μ1) : μ1 1 = μ 1 := h.row (fun b => by simp [pp_Sr])
def pp_Out (μX μM : g_M) (l : Nat) (b : Nat → Nat) (W j r S op h : Nat) (x : Int32) (μX1 μM1 : g_M) : Prop :=
  pp_F (pp_Sq r) μX μX1 ∧ pp_F (pp_Sm S) μM μM1 ∧ ((x = 1 ∧ ∃ j1 S1 : Nat, pp_J μX1 μM1 l b W j1 r S1 op ∧ S ≤ S1 ∧ S1 + j ≤ S + j1 ∧ 2 * S1 + pp_wp l b j ≤ 2 * S + pp_wp l b j1 ∧ pp_gd (pp_q (μM1 1)) h S (S1 - S)) ∨ (x = 0 ∧ ∃ j1 S1 S2 : Nat, pp_PX μX1 l b W j1 r S1 ∧ pp_PM μM1 l b (pp_wp l b j1) 1 S2 op))
def pp_Say (l : Nat) (b : Nat → Nat) (W r op h : Nat) (FX : g_M → Option (Int32 × g_M)) (FM : g_M → Option g_M) : Prop :=
  ∀ (μX μM : g_M) (j S : Nat), pp_J μX μM l b W j r S op → S ≤ j → 2 * S ≤ pp_wp l b j → ∃ (x : Int32) (μX1 μM1 : g_M), FX μX = some (x, μX1) ∧ FM μM = some μM1 ∧ pp_Out μX μM l b W j r S op h x μX1 μM1
/-- where it is wrong already, it stays so, and where it is -/
def pp_Mum (l : Nat) (b : Nat → Nat) (FM : g_M → Option g_M) : Prop := ∀ (μ : g_M) (p S op : Nat), pp_PM μ l b p 1 S op → ∃ μ1 : g_M, FM μ = some μ1 ∧ pp_PM μ1 l b p 1 S op ∧ pp_F pp_Sr μ μ1
theorem pp_wp_2 {l j n : Nat} {b : Nat → Nat} (hn : n < 18) (h : pp_cx l b (pp_wp l b j) = n) : pp_wp l b j + 2 ≤ pp_wp l b (j + 1) := by
  rw [pp_cx_n hn] at h
  obtain ⟨h1, h2, h3⟩ := h
  have h4 := (pp_nl_ok ⟨n, hn⟩).2.1
  unfold pp_nm at h3
  rw [Bool.and_eq_true] at h3
  have h5 := of_decide_eq_true h3.1
  have h6 := pp_sk_le (b := b) (pp_we_le (b := b) h1).2
  have h7 : pp_wp l b (j + 1) = pp_sk l b (pp_we l b (pp_wp l b j)) := rfl
  have h8 : 2 ≤ pp_nl.getD n 0 := h4
  omega
theorem pp_X_pass2 {lo hi x : Int32} {μ μ1 : g_M} (h : f_X8_pass lo hi μ = some (x, μ1)) : (x = 0 ∧ μ1 = μ) ∨ (x = 1 ∧ μ1 = g_set μ 45 5 (μ 45 5 + 1)) := by
  unfold f_X8_pass at h
  split at h
  · cases h; exact Or.inl ⟨rfl, rfl⟩
  · obtain ⟨a, ha, h⟩ := Option.bind_eq_some_iff.mp h
    split at h
    · cases h; exact Or.inl ⟨rfl, rfl⟩
    · obtain ⟨c, hc, h⟩ := Option.bind_eq_some_iff.mp h
      split at h
      · cases h; exact Or.inl ⟨rfl, rfl⟩
      · cases h; exact Or.inr ⟨rfl, rfl⟩
theorem pp_lt_of_cx {l p n : Nat} {b : Nat → Nat} (h : pp_cx l b p ≤ n) (hn : n ≤ 25) : p < l := by
  rcases Nat.lt_or_ge p l with q | q
  · exact q
  · have : pp_cx l b p = 26 := if_neg (by omega)
    omega
theorem pp_J_pass {l W j r S op lo hi : Nat} {b : Nat → Nat} {μX μM μM1 : g_M} (hr : 60 < r) (h : pp_J μX μM l b W j r S op) (hlo : lo ≤ pp_cx l b (pp_wp l b j)) (hhi : pp_cx l b (pp_wp l b j) ≤ hi) (hh : hi ≤ 25) (hP : pp_PM μM1 l b (pp_wp l b (j + 1)) 0 S op) (hF : pp_F pp_Sr μM μM1) :
    ∃ μX1 : g_M, f_X8_pass (pp_i lo) (pp_i hi) μX = some (1, μX1) ∧ pp_J μX1 μM1 l b W (j + 1) r S op ∧ pp_F (pp_Sq r) μX μX1 := by
  obtain ⟨hX, hM, hS⟩ := h
  obtain ⟨μX1, i1, i2, i3⟩ := pp_X_pass hr hX hh (lo := lo) (by omega)
  rw [if_pos ⟨hlo, hhi⟩] at i1
  rw [if_pos ⟨hlo, hhi⟩] at i2
  refine ⟨μX1, i1, ⟨i2, hP, hS.congr ?_ (pp_Fr1 hF)⟩, i3⟩
  rcases pp_X_pass2 i1 with q | q
  · exact absurd q.1 (by decide)
  · rw [q.2, pp_rowN (by omega)]
theorem pp_J_stay {l W j r S op lo hi : Nat} {b : Nat → Nat} {μX μM : g_M} (hr : 60 < r) (h : pp_J μX μM l b W j r S op) (hc : ¬ (lo ≤ pp_cx l b (pp_wp l b j) ∧ pp_cx l b (pp_wp l b j) ≤ hi)) (hh : hi ≤ 25) (hlo : lo ≤ 25) : f_X8_pass (pp_i lo) (pp_i hi) μX = some (0, μX) := by
  obtain ⟨μX1, i1, i2, i3⟩ := pp_X_pass hr h.1 hh hlo
  rw [if_neg hc] at i1
  rcases pp_X_pass2 i1 with q | q
  · rw [i1, q.2]
  · exact absurd q.1 (by decide)
theorem pp_M_cmp {N l p : Nat} {b : Nat → Nat} {μ μ3 : g_M} {x1 : Int32} (hv : f_X12_valueHere N μ = some (x1, μ3)) (hT : pp_TB (μ3 4) l b) (h5 : μ3 0 5 = pp_i l) (hz : pp_BZ l b) (hK : pp_TK μ3 l b p) :
    f_X12_comparesHere N μ = (f_X12_needs N (if 20 ≤ pp_cx l b p ∧ pp_cx l b p ≤ 22 then 1 else 0) μ3).bind fun μ4 => (f_X12_valueHere N μ4).bind fun (x2, μ5) => f_X12_steps (if pp_cx l b p = 20 then 0 else if pp_cx l b p = 21 then 1 else 2) x1 x2 μ5 := by
  have b0 : f_X12_isByte 60 μ3 = some (if pp_cx l b p = 20 then 1 else 0) := pp_M_by1 (c := 60) (n := 20) hT h5 hz hK (by decide)
  have b1 : f_X12_isByte 61 μ3 = some (if pp_cx l b p = 21 then 1 else 0) := pp_M_by1 (c := 61) (n := 21) hT h5 hz hK (by decide)
  have b2 : f_X12_isByte 62 μ3 = some (if pp_cx l b p = 22 then 1 else 0) := pp_M_by1 (c := 62) (n := 22) hT h5 hz hK (by decide)
  have e1 : ¬ ((1 : Int32) = 0) := by decide
  unfold f_X12_comparesHere
  rw [hv]
  simp only [Option.bind_some]
  rw [b0, b1, b2]
  simp only [Option.bind_some, Option.bind_fun_some]
  by_cases c0 : pp_cx l b p = 20
  · rw [if_pos c0, if_neg (show ¬ pp_cx l b p = 21 by omega), if_neg (show ¬ pp_cx l b p = 22 by omega), if_pos (show 20 ≤ pp_cx l b p ∧ pp_cx l b p ≤ 22 by omega), if_neg e1, if_neg e1]
    rw [show (if pp_cx l b p = 20 then (0 : Int32) else if pp_cx l b p = 21 then 1 else 2) = 0 from if_pos c0]
  · rw [if_neg c0]
    by_cases c1 : pp_cx l b p = 21
    · rw [if_pos c1, if_neg (show ¬ pp_cx l b p = 22 by omega), if_pos (show 20 ≤ pp_cx l b p ∧ pp_cx l b p ≤ 22 by omega), if_pos rfl, if_neg e1, if_pos rfl, if_neg e1]
      rw [show (if pp_cx l b p = 20 then (0 : Int32) else if pp_cx l b p = 21 then 1 else 2) = 1 from (if_neg c0).trans (if_pos c1)]
    · rw [if_neg c1]
      by_cases c2 : pp_cx l b p = 22
      · rw [if_pos c2, if_pos (show 20 ≤ pp_cx l b p ∧ pp_cx l b p ≤ 22 by omega), if_pos rfl, if_pos rfl, if_pos rfl, if_pos rfl, if_neg e1]
        rw [show (if pp_cx l b p = 20 then (0 : Int32) else if pp_cx l b p = 21 then 1 else 2) = 2 from (if_neg c0).trans (if_neg c1)]
      · rw [if_neg c2, if_neg (show ¬ (20 ≤ pp_cx l b p ∧ pp_cx l b p ≤ 22) by omega), if_pos rfl, if_pos rfl, if_pos rfl, if_pos rfl, if_pos rfl]
        rw [show (if pp_cx l b p = 20 then (0 : Int32) else if pp_cx l b p = 21 then 1 else 2) = 2 from (if_neg c0).trans (if_neg c1)]
theorem pp_W_rest {N l p S op : Nat} {b : Nat → Nat} {μ : g_M} {c q x : Int32} (h : pp_PM μ l b p 1 S op) : ∃ μ1 : g_M, ((f_X12_needs N c μ).bind fun μ4 => (f_X12_valueHere N μ4).bind fun (x2, μ5) => f_X12_steps q x x2 μ5) = some μ1 ∧ pp_PM μ1 l b p 1 S op ∧ pp_F pp_Sr μ μ1 := by
  obtain ⟨μ1, i1, i2, i3⟩ := pp_M_needW (N := N) (c := c) h
  obtain ⟨v, μ2, j1, j2, j3⟩ := pp_W_val (N := N) i2
  refine ⟨μ2, ?_, j2, i3.trans j3⟩
  rw [i1]
  simp only [Option.bind_some]
  rw [j1]
  exact pp_M_stepW j2
theorem pp_W_cmp {N l : Nat} {b : Nat → Nat} : pp_Mum l b (f_X12_comparesHere N) := by
  intro μ p S op h
  obtain ⟨v, μ1, i1, i2, i3⟩ := pp_W_val (N := N) h
  obtain ⟨μ2, j1, j2, j3⟩ := pp_W_rest (N := N) (c := if 20 ≤ pp_cx l b p ∧ pp_cx l b p ≤ 22 then 1 else 0) (q := if pp_cx l b p = 20 then 0 else if pp_cx l b p = 21 then 1 else 2) (x := v) i2
  exact ⟨μ2, by rw [pp_M_cmp i1 i2.1 i2.2.2.1 i2.2.1 i2.2.2.2.1, j1], j2, i3.trans j3⟩
theorem pp_Say_cmp {N l W r op : Nat} {b : Nat → Nat} (hN : 300 ≤ N) (hr : 60 < r) : pp_Say l b W r op 1 (f_X8_readSign_R r (3 * W)) (f_X12_comparesHere N) := by
  intro μX μM j S h hSj hS2
  have hwl := pp_wp_le (l := l) (b := b)
  have hl2 : l ≤ 200 := h.1.2.2.2.2
  rcases pp_J_val hN h with ⟨c1, c2, a, μM1, ha, hvX, hvM, hP, hF⟩ | ⟨c, v, v2, μM1, hvX, hvM, hP, hF⟩
  · have hp := pp_lt_of_cx c2 (by decide)
    have hu := pp_wp_up hp
    obtain ⟨μX1, i1, hJ1, hFX1⟩ := pp_J_pass hr h c1 c2 (by decide) hP hF
    have i1 : f_X8_pass 13 18 μX = some (1, μX1) := i1
    have hcode := pp_PX_code hJ1.1
    have hj1 : μX1 45 5 = pp_i (j + 1) := hJ1.1.2.1
    have hcm := pp_M_cmp hvM hP.1 hP.2.2.1 hP.2.1 hP.2.2.2.1
    by_cases cs : 20 ≤ pp_cx l b (pp_wp l b (j + 1)) ∧ pp_cx l b (pp_wp l b (j + 1)) ≤ 22
    · have hp1 := pp_lt_of_cx cs.2 (by decide)
      have hu1 := pp_wp_up hp1
      obtain ⟨μM2, n1, n2, n3⟩ := pp_M_need1 hN hP hp1
      obtain ⟨μX2, k1, hJ2, hFX2⟩ := pp_J_pass hr hJ1 cs.1 cs.2 (by decide) n2 n3
      have k1 : f_X8_pass 20 22 μX1 = some (1, μX2) := k1
      rw [if_pos cs, n1] at hcm
      simp only [Option.bind_some] at hcm
      have hq : (if pp_cx l b (pp_wp l b (j + 1)) = 20 then (0 : Int32) else if pp_cx l b (pp_wp l b (j + 1)) = 21 then 1 else 2) = pp_i (pp_cx l b (pp_wp l b (j + 1)) - 20) := by
        rcases (show pp_cx l b (pp_wp l b (j + 1)) = 20 ∨ pp_cx l b (pp_wp l b (j + 1)) = 21 ∨ pp_cx l b (pp_wp l b (j + 1)) = 22 by omega) with e | e | e <;> rw [e] <;> rfl
      rw [hq] at hcm
      have hsub : pp_i (pp_cx l b (pp_wp l b (j + 1))) - 20 = pp_i (pp_cx l b (pp_wp l b (j + 1)) - 20) := by
        rw [show (20 : Int32) = pp_i 20 from rfl, pp_sub cs.1]
      rcases pp_J_val hN hJ2 with ⟨d1, d2, a2, μM3, ha2, hvX2, hvM2, hP2, hF2⟩ | ⟨d, v, v2, μM3, hvX2, hvM2, hP2, hF2⟩
      · have hp2 := pp_lt_of_cx d2 (by decide)
        have hu2 := pp_wp_up hp2
        obtain ⟨μX3, m1, hJ3, hFX3⟩ := pp_J_pass hr hJ2 d1 d2 (by decide) hP2 hF2
        have m1 : f_X8_pass 13 18 μX2 = some (1, μX3) := m1
        have hjW : j + 1 + 1 + 1 ≤ W := hJ3.1.2.2.1
        have := hwl (j + 1 + 1 + 1)
        obtain ⟨μX4, μM4, t1, t2, t3, t4, t5, t6, t7⟩ := pp_J_addStep hr hJ3 (by omega) (by omega) (q := pp_cx l b (pp_wp l b (j + 1)) - 20) ha ha2
        refine ⟨1, μX4, μM4, ?_, ?_, ((hFX1.trans hFX2).trans hFX3).trans t4, (((pp_Fr hF).trans (pp_Fr n3)).trans (pp_Fr hF2)).trans ?_, Or.inl ⟨rfl, j + 1 + 1 + 1, S + 1, t3, by omega, by omega, by omega, ?_⟩⟩
        · unfold f_X8_readSign_R
          rw [hvX]
          simp only [Option.bind_some]
          rw [i1]
          simp only [Option.bind_some]
          rw [if_neg (by decide), hj1, hcode]
          simp only [Option.bind_some]
          rw [k1]
          simp only [Option.bind_some]
          rw [if_neg (by decide), hvX2]
          simp only [Option.bind_some]
          rw [m1]
          simp only [Option.bind_some]
          rw [if_neg (by decide), hsub, t1]
          rfl
        · rw [hcm, hvM2]
          exact t2
        · intro x y q
          by_cases ex : x = 1
          · subst ex
            have q0 : ¬ ((1 = 0 ∧ 8 ≤ y ∧ y ≤ 13) ∨ (1 = 1 ∧ (y = 7 ∨ (94 + 3 * S ≤ y ∧ y < 544)))) := of_decide_eq_false q
            have q1 : ¬ (y = 7 ∨ (94 + 3 * S ≤ y ∧ y < 544)) := fun z => q0 (Or.inr ⟨rfl, z⟩)
            exact t6 y (by omega) (by omega)
          · rw [t5 x ex]
        · rw [show S + 1 - S = 1 by omega]
          refine pp_gd_cmp ?_
          show μM4 1 (94 + 3 * S) < 3
          rw [t7, show (3 : Int32) = pp_i 3 from rfl, pp_lt (by omega) (by omega)]
          omega
      · have st := pp_J_stay (lo := 13) (hi := 18) hr hJ2 d (by decide) (by decide)
        have st : f_X8_pass 13 18 μX2 = some (0, μX2) := st
        refine ⟨0, μX2, μM3, ?_, ?_, hFX1.trans hFX2, ((pp_Fr hF).trans (pp_Fr n3)).trans (pp_Fr hF2), Or.inr ⟨rfl, j + 1 + 1, S, S, hJ2.1, hP2⟩⟩
        · unfold f_X8_readSign_R
          rw [hvX]
          simp only [Option.bind_some]
          rw [i1]
          simp only [Option.bind_some]
          rw [if_neg (by decide), hj1, hcode]
          simp only [Option.bind_some]
          rw [k1]
          simp only [Option.bind_some]
          rw [if_neg (by decide), hvX2]
          simp only [Option.bind_some]
          rw [st]
          rfl
        · rw [hcm, hvM2]
          exact pp_M_stepW hP2
    · obtain ⟨μM2, n1, n2, n3⟩ := pp_M_need0 (N := N) hP
      obtain ⟨v, μM3, o1, o2, o3⟩ := pp_W_val (N := N) n2
      have st := pp_J_stay (lo := 20) (hi := 22) hr hJ1 cs (by decide) (by decide)
      have st : f_X8_pass 20 22 μX1 = some (0, μX1) := st
      rw [if_neg cs, n1] at hcm
      refine ⟨0, μX1, μM3, ?_, ?_, hFX1, ((pp_Fr hF).trans (pp_Fr n3)).trans (pp_Fr o3), Or.inr ⟨rfl, j + 1, S, S, hJ1.1, o2⟩⟩
      · unfold f_X8_readSign_R
        rw [hvX]
        simp only [Option.bind_some]
        rw [i1]
        simp only [Option.bind_some]
        rw [if_neg (by decide), hj1, hcode]
        simp only [Option.bind_some]
        rw [st]
        rfl
      · rw [hcm]
        simp only [Option.bind_some]
        rw [o1]
        exact pp_M_stepW o2
  · have st := pp_J_stay (lo := 13) (hi := 18) hr h c (by decide) (by decide)
    have st : f_X8_pass 13 18 μX = some (0, μX) := st
    have hcm := pp_M_cmp hvM hP.1 hP.2.2.1 hP.2.1 hP.2.2.2.1
    obtain ⟨μM2, n1, n2, n3⟩ := pp_W_rest (N := N) (c := if 20 ≤ pp_cx l b (pp_wp l b j) ∧ pp_cx l b (pp_wp l b j) ≤ 22 then 1 else 0) (q := if pp_cx l b (pp_wp l b j) = 20 then 0 else if pp_cx l b (pp_wp l b j) = 21 then 1 else 2) (x := v2) hP
    refine ⟨0, μX, μM2, ?_, by rw [hcm, n1], pp_F.refl, (pp_Fr hF).trans (pp_Fr n3), Or.inr ⟨rfl, j, S, S, h.1, n2⟩⟩
    unfold f_X8_readSign_R
    rw [hvX]
    simp only [Option.bind_some]
    rw [st]
    rfl
