/-! ===== a RULE ===== -/
def pp_rEnd (N : Nat) (x1 x2 bg : Int32) (μ : g_M) : Option g_M :=
  (f_X12_doHere μ).bind fun x81 => (f_X12_needs N (if x81 < 0 then 0 else 1) μ).bind fun μ86 => (f_X12_isByte 59 μ86).bind fun x87 => (f_X12_needs N x87 μ86).bind fun μ91 =>
    if (μ91 0 12) = 0 then ((g_wr μ91 1 544 x1 x2).bind fun μ93 => (g_wr μ93 1 544 (x1 + 1) x81).bind fun μ94 => (g_wr μ94 1 544 (x1 + 2) bg).bind fun μ95 => (g_wr μ95 1 544 (x1 + 3) (μ95 1 7)).bind fun μ96 => some (g_set μ96 1 5 ((μ96 1 5) + 1))) else (some μ91)
theorem pp_rEnd_i {N : Nat} {x1 x2 bg : Int32} {μ : g_M} : ((f_X12_doHere μ).bind fun x81 => if x81 < 0 then ((f_X12_needs N 0 μ).bind fun μ86 => (f_X12_isByte 59 μ86).bind fun x87 => (f_X12_needs N x87 μ86).bind fun μ91 =>
    if (μ91 0 12) = 0 then ((g_wr μ91 1 544 x1 x2).bind fun μ93 => (g_wr μ93 1 544 (x1 + 1) x81).bind fun μ94 => (g_wr μ94 1 544 (x1 + 2) bg).bind fun μ95 => (g_wr μ95 1 544 (x1 + 3) (μ95 1 7)).bind fun μ96 => some (g_set μ96 1 5 ((μ96 1 5) + 1))) else (some μ91)) else ((f_X12_needs N 1 μ).bind fun μ86 => (f_X12_isByte 59 μ86).bind fun x87 => (f_X12_needs N x87 μ86).bind fun μ91 =>
    if (μ91 0 12) = 0 then ((g_wr μ91 1 544 x1 x2).bind fun μ93 => (g_wr μ93 1 544 (x1 + 1) x81).bind fun μ94 => (g_wr μ94 1 544 (x1 + 2) bg).bind fun μ95 => (g_wr μ95 1 544 (x1 + 3) (μ95 1 7)).bind fun μ96 => some (g_set μ96 1 5 ((μ96 1 5) + 1))) else (some μ91))) = pp_rEnd N x1 x2 bg μ := by
  unfold pp_rEnd
  refine congrArg (fun f => (f_X12_doHere μ).bind f) (funext fun x => ?_)
  by_cases c : x < 0
  · rw [if_pos c, if_pos c]
  · rw [if_neg c, if_neg c]
theorem pp_rule_i {N : Nat} {μ : g_M} : f_X12_ruleHere N μ = (f_X12_kindHere μ).bind fun x2 => (f_X12_needs N (if x2 < 0 then 0 else if (μ 1 5) ≥ 8 then 0 else 1) μ).bind fun μ7 =>
    if (μ7 0 12) = 0 then ((f_X12_isTwo 105 102 μ7).bind fun x40 => if x40 = 0 then pp_rEnd N (38 + 4 * (μ 1 5)) x2 (μ7 1 7) μ7 else ((f_X12_nextToken N μ7).bind fun μ76 => (f_X12_condHere N 5 (g_set μ76 0 13 0)).bind fun μ80 => pp_rEnd N (38 + 4 * (μ 1 5)) x2 (μ7 1 7) μ80)) else pp_rEnd N (38 + 4 * (μ 1 5)) x2 (μ7 1 7) μ7 := by
  unfold f_X12_ruleHere
  simp only [Option.bind_some, pp_rEnd_i]
  refine congrArg (fun f => (f_X12_kindHere μ).bind f) (funext fun x2 => ?_)
  by_cases c : x2 < 0
  · rw [if_pos c, if_pos c]
  · rw [if_neg c, if_neg c]
    by_cases d : (μ 1 5) ≥ 8
    · rw [if_pos d, if_pos d]
    · rw [if_neg d, if_neg d]
def pp_So (r a b : Nat) : Bool := decide ((a = 45 ∧ b = 5) ∨ (r ≤ a ∧ a ≤ r + 4))
def pp_Sn (a b : Nat) : Bool := decide ((a = 0 ∧ 8 ≤ b ∧ b ≤ 13) ∨ (a = 1 ∧ (b = 5 ∨ b = 7 ∨ (38 ≤ b ∧ b < 70) ∨ (94 ≤ b ∧ b < 544))))
theorem pp_So_q {r : Nat} {μ μ1 : g_M} (h : pp_F (pp_Sq r) μ μ1) : pp_F (pp_So r) μ μ1 := h.mono (fun a b q => by
  have q0 := of_decide_eq_false q
  exact decide_eq_false (by omega))
theorem pp_Sn_m {S : Nat} {μ μ1 : g_M} (h : pp_F (pp_Sm S) μ μ1) : pp_F pp_Sn μ μ1 := h.mono (fun a b q => by
  have q0 := of_decide_eq_false q
  exact decide_eq_false (by omega))
theorem pp_Sn_r {μ μ1 : g_M} (h : pp_F pp_Sr μ μ1) : pp_F pp_Sn μ μ1 := pp_Sn_m (S := 0) (pp_Fr h)
/-- RULES read so far -/
def pp_RL (μX μM : g_M) (r R S : Nat) : Prop := R ≤ 8 ∧ μM 1 5 = pp_i R ∧ μX r 4 = pp_i R ∧
  (∀ i, i < R → ∃ b e k d : Nat, b ≤ e ∧ e ≤ S ∧ k ≤ 5 ∧ d ≤ 2 ∧ μM 1 (38 + 4 * i) = pp_i k ∧ μM 1 (38 + 4 * i + 1) = pp_i d ∧ μM 1 (38 + 4 * i + 2) = pp_i b ∧ μM 1 (38 + 4 * i + 3) = pp_i e ∧ μX (r + 1) i = pp_i k ∧ μX (r + 2) i = pp_i d ∧ μX (r + 3) i = pp_i e ∧ (b = e ∨ pp_gd (pp_q (μM 1)) 9 b (e - b)) ∧ (i = 0 → b = 0) ∧ (∀ j, i = j + 1 → μM 1 (38 + 4 * j + 3) = pp_i b)) ∧
  (R = 0 → S = 0) ∧ (∀ j, R = j + 1 → μM 1 (38 + 4 * j + 3) = pp_i S)
theorem pp_RL.congr {μX μM μX1 μM1 : g_M} {r R S : Nat} (h : pp_RL μX μM r R S) (h5 : μM1 1 5 = μM 1 5) (h38 : ∀ k, 38 ≤ k → k < 94 + 3 * S → μM1 1 k = μM 1 k) (h4 : μX1 r 4 = μX r 4) (hk : ∀ i, 1 ≤ i → i ≤ 3 → μX1 (r + i) = μX (r + i)) : pp_RL μX1 μM1 r R S := by
  obtain ⟨a1, a2, a3, a4, a5, a6⟩ := h
  refine ⟨a1, h5.trans a2, h4.trans a3, fun i hi => ?_, a5, fun j hj => ?_⟩
  · obtain ⟨b, e, k, d, g1, g2, g3, g4, g5, g6, g7, g8, g9, g10, g11, g12, g13, g14⟩ := a4 i hi
    refine ⟨b, e, k, d, g1, g2, g3, g4, ?_, ?_, ?_, ?_, ?_, ?_, ?_, ?_, g13, fun j hj => ?_⟩
    · rw [h38 _ (by omega) (by omega)]; exact g5
    · rw [h38 _ (by omega) (by omega)]; exact g6
    · rw [h38 _ (by omega) (by omega)]; exact g7
    · rw [h38 _ (by omega) (by omega)]; exact g8
    · rw [hk 1 (by omega) (by omega)]; exact g9
    · rw [hk 2 (by omega) (by omega)]; exact g10
    · rw [hk 3 (by omega) (by omega)]; exact g11
    · rcases g12 with g | g
      · exact Or.inl g
      · refine Or.inr (pp_gd_congr g (fun k h1 h2 => ?_))
        exact h38 (94 + 3 * k) (by omega) (by omega)
    · rw [h38 _ (by omega) (by omega)]; exact g14 j hj
  · rw [h38 _ (by omega) (by omega)]; exact a6 j hj
theorem pp_RL.F {μX μM μX1 μM1 : g_M} {r R S : Nat} (hr : 60 < r) (h : pp_RL μX μM r R S) (hX : pp_F (pp_Sq r) μX μX1) (hM : pp_F (pp_Sm S) μM μM1) : pp_RL μX1 μM1 r R S := by
  refine h.congr (hM 1 5 (decide_eq_false (by omega))) (fun k h1 h2 => hM 1 k (decide_eq_false (by omega))) (hX r 4 (decide_eq_false (by omega))) (fun i h1 h2 => hX.row (fun b => decide_eq_false (by omega)))
theorem pp_W_rEnd {N l p S op : Nat} {b : Nat → Nat} {μ : g_M} {x1 x2 bg : Int32} (h : pp_PM μ l b p 1 S op) : ∃ μ1 : g_M, pp_rEnd N x1 x2 bg μ = some μ1 ∧ pp_PM μ1 l b p 1 S op ∧ pp_F pp_Sr μ μ1 := by
  have hdo := pp_M_do h.1 h.2.2.1 h.2.1 h.2.2.2.1
  obtain ⟨μ1, i1, i2, i3⟩ := pp_M_needW (N := N) (c := if (if 6 ≤ pp_cx l b p ∧ pp_cx l b p ≤ 8 then pp_i (pp_cx l b p - 6) else -1) < 0 then 0 else 1) h
  have hb : f_X12_isByte 59 μ1 = some (if pp_cx l b p = 19 then 1 else 0) := pp_M_by1 (c := 59) (n := 19) i2.1 i2.2.2.1 i2.2.1 i2.2.2.2.1 (by decide)
  obtain ⟨μ2, j1, j2, j3⟩ := pp_M_needW (N := N) (c := if pp_cx l b p = 19 then 1 else 0) i2
  refine ⟨μ2, ?_, j2, i3.trans j3⟩
  unfold pp_rEnd
  rw [hdo]
  simp only [Option.bind_some]
  rw [i1]
  simp only [Option.bind_some]
  rw [hb]
  simp only [Option.bind_some]
  rw [j1]
  simp only [Option.bind_some]
  rw [j2.2.2.2.2.1, if_neg (show ¬ pp_i 1 = (0 : Int32) by decide)]
