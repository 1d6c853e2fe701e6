/-! ===== the reference's further words ===== -/
theorem pp_M_two {l p n c0 c1 : Nat} {b : Nat → Nat} {μ : g_M} (hT : pp_TB (μ 4) l b) (h5 : μ 0 5 = pp_i l) (hz : pp_BZ l b) (hK : pp_TK μ l b p) (h0 : 0 < c0 ∧ c0 < 256) (h1 : 0 < c1 ∧ c1 < 256) (hn : n < 18) (hc : (pp_nm b p (pp_we l b p) n = true) = (pp_we l b p = p + 2 ∧ b (p + 0) = c0 ∧ b (p + 1) = c1)) : f_X12_isTwo (pp_i c0) (pp_i c1) μ = some (if pp_cx l b p = n then 1 else 0) := by
  have hl := hT.1
  have hk1 := pp_tk1 hK 1 (by decide) (by decide)
  rw [pp_tkn1] at hk1
  have hcx := pp_cx_n (l := l) (p := p) (b := b) hn
  rw [hc] at hcx
  unfold f_X12_isTwo
  rw [show (1 : Int32) = pp_i 1 from rfl, show (2 : Int32) = pp_i 2 from rfl, hK.1, pp_ite hk1, pp_ite hcx]
  by_cases c : p < l ∧ pp_al (b p) = true
  · rw [if_pos c]
    have hwe := pp_we_le (b := b) c.1
    rw [(hK.2.2.1 c.1).1, pp_sub (by omega), pp_ite (pp_eq (by omega) (by omega)), pp_add, pp_M_bb hT h5 hz (by omega) h0.1 h0.2, pp_M_bb hT h5 hz (by omega) h1.1 h1.2]
    by_cases d1 : pp_we l b p = p + 2
    · rw [if_pos (by omega)]
      by_cases d2 : b p = c0
      · rw [if_pos d2]
        by_cases d3 : b (p + 1) = c1
        · rw [if_pos d3, if_pos ⟨c.1, c.2, d1, d2, d3⟩]
        · rw [if_neg d3, if_neg (fun q => d3 q.2.2.2.2)]
      · rw [if_neg d2, if_neg (fun q => d2 q.2.2.2.1)]
    · rw [if_neg (by omega), if_neg (fun q => d1 q.2.2.1)]
  · rw [if_neg c, if_neg (fun q => c ⟨q.1, q.2.1⟩)]
theorem pp_M_if {l p : Nat} {b : Nat → Nat} {μ : g_M} (hT : pp_TB (μ 4) l b) (h5 : μ 0 5 = pp_i l) (hz : pp_BZ l b) (hK : pp_TK μ l b p) : f_X12_isTwo 105 102 μ = some (if pp_cx l b p = 9 then 1 else 0) := pp_M_two (c0 := 105) (c1 := 102) hT h5 hz hK (by decide) (by decide) (by decide) (pp_nm_9 hz)
theorem pp_M_or {l p : Nat} {b : Nat → Nat} {μ : g_M} (hT : pp_TB (μ 4) l b) (h5 : μ 0 5 = pp_i l) (hz : pp_BZ l b) (hK : pp_TK μ l b p) : f_X12_isTwo 111 114 μ = some (if pp_cx l b p = 10 then 1 else 0) := pp_M_two (c0 := 111) (c1 := 114) hT h5 hz hK (by decide) (by decide) (by decide) (pp_nm_10 hz)
theorem pp_M_and {l p : Nat} {b : Nat → Nat} {μ : g_M} (hT : pp_TB (μ 4) l b) (h5 : μ 0 5 = pp_i l) (hz : pp_BZ l b) (hK : pp_TK μ l b p) : f_X12_isName 3 97 110 100 100 μ = some (if pp_cx l b p = 11 then 1 else 0) := (pp_M_ia (n := 3) (c0 := 97) (c1 := 110) (c2 := 100) (c9 := 100) hT h5 hz hK (by decide) (by decide) (by decide) (by decide) (by decide) (by decide)).trans (congrArg some (pp_ite (pp_at_11 hz).symm))
theorem pp_M_not {l p : Nat} {b : Nat → Nat} {μ : g_M} (hT : pp_TB (μ 4) l b) (h5 : μ 0 5 = pp_i l) (hz : pp_BZ l b) (hK : pp_TK μ l b p) : f_X12_isName 3 110 111 116 116 μ = some (if pp_cx l b p = 12 then 1 else 0) := (pp_M_ia (n := 3) (c0 := 110) (c1 := 111) (c2 := 116) (c9 := 116) hT h5 hz hK (by decide) (by decide) (by decide) (by decide) (by decide) (by decide)).trans (congrArg some (pp_ite (pp_at_12 hz).symm))
theorem pp_M_do {l p : Nat} {b : Nat → Nat} {μ : g_M} (hT : pp_TB (μ 4) l b) (h5 : μ 0 5 = pp_i l) (hz : pp_BZ l b) (hK : pp_TK μ l b p) : f_X12_doHere μ = some (if 6 ≤ pp_cx l b p ∧ pp_cx l b p ≤ 8 then pp_i (pp_cx l b p - 6) else -1) := by
  have hl := hT.1
  have r7 : f_X12_isName 4 115 116 97 121 μ = some (if pp_cx l b p = 7 then 1 else 0) := (pp_M_ia (n := 4) (c0 := 115) (c1 := 116) (c2 := 97) (c9 := 121) hT h5 hz hK (by decide) (by decide) (by decide) (by decide) (by decide) (by decide)).trans (congrArg some (pp_ite (pp_at_7 hz).symm))
  have r8 : f_X12_isName 3 115 104 121 121 μ = some (if pp_cx l b p = 8 then 1 else 0) := (pp_M_ia (n := 3) (c0 := 115) (c1 := 104) (c2 := 121) (c9 := 121) hT h5 hz hK (by decide) (by decide) (by decide) (by decide) (by decide) (by decide)).trans (congrArg some (pp_ite (pp_at_8 hz).symm))
  have hk1 := pp_tk1 hK 1 (by decide) (by decide)
  rw [pp_tkn1] at hk1
  have c6 := pp_cx_n (l := l) (p := p) (b := b) (n := 6) (by decide)
  rw [pp_nm_6 hz] at c6
  -- what follows where it isn't go
  have rest : ((some (if pp_cx l b p = 7 then (1 : Int32) else 0)).bind fun x => if x = 0 then ((some (if pp_cx l b p = 8 then (1 : Int32) else 0)).bind fun y => if y = 0 then some (-1 : Int32) else some 2) else some 1) = some (if pp_cx l b p = 7 then 1 else if pp_cx l b p = 8 then 2 else -1) := by
    simp only [Option.bind_some]
    by_cases d7 : pp_cx l b p = 7
    · rw [if_pos d7, if_neg (by decide), if_pos d7]
    · rw [if_neg d7, if_pos rfl, if_neg d7]
      by_cases d8 : pp_cx l b p = 8
      · rw [if_pos d8, if_neg (by decide), if_pos d8]
      · rw [if_neg d8, if_pos rfl, if_neg d8]
  have fin : ¬ pp_cx l b p = 6 → some (if pp_cx l b p = 7 then (1 : Int32) else if pp_cx l b p = 8 then 2 else -1) = some (if 6 ≤ pp_cx l b p ∧ pp_cx l b p ≤ 8 then pp_i (pp_cx l b p - 6) else -1) := by
    intro h6
    by_cases d7 : pp_cx l b p = 7
    · rw [if_pos d7, if_pos (by omega), d7]; rfl
    · rw [if_neg d7]
      by_cases d8 : pp_cx l b p = 8
      · rw [if_pos d8, if_pos (by omega), d8]; rfl
      · rw [if_neg d8, if_neg (by omega)]
  unfold f_X12_doHere
  rw [r7, r8, rest, show (1 : Int32) = pp_i 1 from rfl, show (2 : Int32) = pp_i 2 from rfl, show (103 : Int32) = pp_i 103 from rfl, show (111 : Int32) = pp_i 111 from rfl, hK.1, pp_ite hk1]
  by_cases c : p < l ∧ pp_al (b p) = true
  · rw [if_pos c]
    have hwe := pp_we_le (b := b) c.1
    rw [(hK.2.2.1 c.1).1, pp_sub (by omega), pp_ite (pp_eq (by omega) (by omega)), pp_add, pp_M_bb hT h5 hz (by omega) (by decide) (by decide), pp_M_bb hT h5 hz (by omega) (by decide) (by decide)]
    by_cases d1 : pp_we l b p = p + 2
    · rw [if_pos (by omega)]
      by_cases d2 : b p = 103
      · rw [if_pos d2]
        by_cases d3 : b (p + 1) = 111
        · have h6 : pp_cx l b p = 6 := by rw [c6]; exact ⟨c.1, c.2, d1, d2, d3⟩
          rw [if_pos d3, h6]
          rfl
        · rw [if_neg d3]
          exact fin (fun q => by rw [c6] at q; exact d3 q.2.2.2.2)
      · rw [if_neg d2]
        exact fin (fun q => by rw [c6] at q; exact d2 q.2.2.2.1)
    · rw [if_neg (by omega)]
      exact fin (fun q => by rw [c6] at q; exact d1 q.2.2.1)
  · rw [if_neg c]
    exact fin (fun q => by rw [c6] at q; exact c ⟨q.1, q.2.1⟩)
theorem pp_M_by1 {l p c n : Nat} {b : Nat → Nat} {μ : g_M} (hT : pp_TB (μ 4) l b) (h5 : μ 0 5 = pp_i l) (hz : pp_BZ l b) (hK : pp_TK μ l b p) (hc : (c = 40 ∧ n = 23) ∨ (c = 41 ∧ n = 24) ∨ (c = 59 ∧ n = 19) ∨ (c = 60 ∧ n = 20) ∨ (c = 61 ∧ n = 21) ∨ (c = 62 ∧ n = 22)) : f_X12_isByte (pp_i c) μ = some (if pp_cx l b p = n then 1 else 0) := by
  have hl := hT.1
  have hp := hK.2.1
  have hk := pp_tk1 hK 3 (by decide) (by decide)
  have hcb : 0 < c ∧ c < 256 := by omega
  unfold f_X12_isByte
  rw [show (3 : Int32) = pp_i 3 from rfl, pp_ite hk, hK.1, pp_M_bb hT h5 hz (by omega) hcb.1 hcb.2]
  have f18 := pp_f18_le (b := b) (p := p) (e := pp_we l b p) 18 0 rfl
  have g18 : ∀ m k, k + m = 18 → pp_f18 b p (pp_we l b p) m k < 18 ∨ pp_f18 b p (pp_we l b p) m k = 25 := by
    intro m
    induction m with
    | zero => exact fun k _ => Or.inr rfl
    | succ m ih =>
      intro k hk
      rw [pp_f18]
      split
      · exact Or.inl (by omega)
      · exact ih (k + 1) (by omega)
  have g := g18 18 0 rfl
  by_cases c0 : p < l
  · have ecx : pp_cx l b p = pp_cd l b p := if_pos c0
    rw [ecx]
    unfold pp_tkn pp_cd
    by_cases c1 : pp_al (b p) = true
    · rw [if_pos c1, if_pos c1, if_neg (by omega), if_neg (by omega)]
    · rw [if_neg c1, if_neg c1]
      by_cases c2 : pp_dg (b p) = true
      · rw [if_pos c2, if_pos c2, if_neg (by omega), if_neg (show ¬ (if pp_we l b p - p ≤ 4 then 18 else 25) = n by split <;> omega)]
      · rw [if_neg c2, if_neg c2, if_pos ⟨c0, rfl⟩]
        by_cases cb : b p = c
        · rw [if_pos cb, if_pos]
          rw [cb]
          rcases hc with ⟨rfl, rfl⟩ | ⟨rfl, rfl⟩ | ⟨rfl, rfl⟩ | ⟨rfl, rfl⟩ | ⟨rfl, rfl⟩ | ⟨rfl, rfl⟩ <;> rfl
        · rw [if_neg cb, if_neg]
          intro q
          revert q
          (repeat' split) <;> intro q <;> omega
  · rw [if_neg (fun q => c0 q.1), show pp_cx l b p = 26 from if_neg c0, if_neg (by omega)]
/-- a number's token -/
theorem pp_M_num {l p : Nat} {b : Nat → Nat} {μ : g_M} (hT : pp_TB (μ 4) l b) (hK : pp_TK μ l b p) : (μ 0 8 = 2 ∧ μ 0 10 - μ 0 9 ≤ 4) = (pp_cx l b p = 18) := by
  have hl := hT.1
  have hk := pp_tk1 hK 2 (by decide) (by decide)
  rw [pp_tkn2] at hk
  by_cases c0 : p < l
  · have hwe := pp_we_le (b := b) c0
    rw [show (μ 0 8 = 2) = (p < l ∧ pp_dg (b p) = true) from hk, hK.1, (hK.2.2.1 c0).1, pp_sub (by omega), show (4 : Int32) = pp_i 4 from rfl, pp_le (by omega) (by omega), show pp_cx l b p = pp_cd l b p from if_pos c0]
    refine propext ⟨fun q => ?_, fun q => ?_⟩
    · unfold pp_cd
      rw [if_neg (pp_al_dg q.1.2), if_pos q.1.2, if_pos q.2]
    · have := pp_cd_18 q
      exact ⟨⟨c0, this.1⟩, this.2⟩
  · rw [show (μ 0 8 = 2) = (p < l ∧ pp_dg (b p) = true) from hk, show pp_cx l b p = 26 from if_neg c0]
    exact propext ⟨fun q => absurd q.1.1 c0, fun q => by omega⟩
