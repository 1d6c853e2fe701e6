/-! ===== the class splits THE TAPE ===== -/
theorem pp_we_al {l p : Nat} {b : Nat → Nat} (h : p < l) (ha : pp_al (b p) = true) : ∀ k, k < pp_we l b p - p → pp_al (b (p + k)) = true := by
  intro k hk
  unfold pp_we at hk
  rw [if_neg (by omega), if_pos ha] at hk
  by_cases e : k = 0
  · rw [e]; exact ha
  · exact pp_rl_all (l - (p + 1)) (p + 1) (p + k) (by omega) (by omega)
theorem pp_al_dg {x : Nat} (h : pp_dg x = true) : ¬ pp_al x = true := by
  intro q
  have h1 := of_decide_eq_true h
  have h2 := of_decide_eq_true q
  omega
theorem pp_we_dg {l p : Nat} {b : Nat → Nat} (h : p < l) (ha : pp_dg (b p) = true) : ∀ k, k < pp_we l b p - p → pp_dg (b (p + k)) = true := by
  intro k hk
  unfold pp_we at hk
  rw [if_neg (by omega), if_neg (pp_al_dg ha), if_pos ha] at hk
  by_cases e : k = 0
  · rw [e]; exact ha
  · exact pp_rl_all (l - (p + 1)) (p + 1) (p + k) (by omega) (by omega)
theorem pp_f18_le {b : Nat → Nat} {p e : Nat} : ∀ (m n : Nat), n + m = 18 → pp_f18 b p e m n ≤ 25
  | 0, _, _ => Nat.le_refl _
  | m + 1, n, h => by
    rw [pp_f18]
    split
    · omega
    · exact pp_f18_le m (n + 1) (by omega)
theorem pp_cd_le {l p : Nat} {b : Nat → Nat} : pp_cd l b p ≤ 25 := by
  unfold pp_cd
  have := pp_f18_le (b := b) (p := p) (e := pp_we l b p) 18 0 rfl
  (repeat' split) <;> omega
theorem pp_X_cd {N l p : Nat} {b : Nat → Nat} {μ : g_M} (hN : 300 ≤ N) (hT : pp_TB (μ 46) l b) (hp : p < l) : f_X8_codeOf N (pp_i p) (pp_i (pp_we l b p)) μ = some (pp_i (pp_cd l b p)) := by
  have hl := hT.1
  have hb := hT.2 p hp
  have hw := pp_we_le (b := b) hp
  unfold f_X8_codeOf pp_cd
  rw [pp_rd (by omega) (by decide), hb.1]
  simp only [Option.bind_some]
  rw [pp_ite (pp_X_al hb.2), pp_ite (pp_X_dg hb.2), pp_sub (by omega), show (4 : Int32) = pp_i 4 from rfl, pp_ite (pp_gt (by omega) (by omega))]
  by_cases c1 : pp_al (b p) = true
  · rw [if_neg (fun q => q c1), if_pos c1]
    have hle : p + (pp_we l b p - p) ≤ l := by omega
    have e : p + (pp_we l b p - p) = pp_we l b p := by omega
    have loop : ∀ (m fuel n : Nat), n + m = 18 → m < fuel → (match f_X8_nameCode_L2 N fuel (pp_i p) (pp_i (pp_we l b p - p)) (pp_i n) μ with | none => none | some (.inl q) => some q | some (.inr _) => some 25) = some (pp_i (pp_f18 b p (pp_we l b p) m n)) := by
      intro m
      induction m with
      | zero =>
        intro fuel n hn hf
        obtain ⟨f, rfl⟩ := pp_fu hf
        rw [f_X8_nameCode_L2, show (18 : Int32) = pp_i 18 from rfl, pp_ite (pp_ge (by omega) (by omega)), if_pos (by omega)]
        rfl
      | succ m ih =>
        intro fuel n hn hf
        obtain ⟨f, rfl⟩ := pp_fu hf
        have hih := ih f (n + 1) (by omega) (by omega)
        rw [f_X8_nameCode_L2, show (18 : Int32) = pp_i 18 from rfl, pp_ite (pp_ge (by omega) (by omega)), if_neg (by omega), pp_X_nm hN hT (by omega) hle (pp_we_al hp c1), e, show pp_i n + 1 = pp_i (n + 1) from pp_add n 1, pp_f18]
        simp only [Option.bind_some]
        by_cases c : pp_nm b p (pp_we l b p) n = true
        · rw [if_pos c, if_neg (by decide), if_pos c]
        · rw [if_neg c, if_pos rfl, if_neg c]
          exact hih
    have h := loop 18 N 0 rfl (by omega)
    unfold f_X8_nameCode
    rw [show (0 : Int32) = pp_i 0 from rfl]
    cases hc : f_X8_nameCode_L2 N N (pp_i p) (pp_i (pp_we l b p - p)) (pp_i 0) μ with
    | none => rw [hc] at h; cases h
    | some q =>
      rw [hc] at h
      cases q with
      | inl q =>
        simp only [Option.bind_some]
        exact h
      | inr q =>
        simp only [Option.bind_some]
        exact h
  · rw [if_pos c1, if_neg c1]
    by_cases c2 : pp_dg (b p) = true
    · rw [if_neg (fun q => q c2), if_pos c2]
      by_cases c3 : pp_we l b p - p ≤ 4
      · rw [if_neg (by omega), if_pos c3]; rfl
      · rw [if_pos (by omega), if_neg c3]; rfl
    · rw [if_pos c2, if_neg c2]
      have hb2 := hb.2
      rw [show (40 : Int32) = pp_i 40 from rfl, show (41 : Int32) = pp_i 41 from rfl, show (59 : Int32) = pp_i 59 from rfl, show (60 : Int32) = pp_i 60 from rfl, show (61 : Int32) = pp_i 61 from rfl, show (62 : Int32) = pp_i 62 from rfl, pp_ite (pp_eq (by omega) (by omega)), pp_ite (pp_eq (by omega) (by omega)), pp_ite (pp_eq (by omega) (by omega)), pp_ite (pp_eq (by omega) (by omega)), pp_ite (pp_eq (by omega) (by omega)), pp_ite (pp_eq (by omega) (by omega))]
      (repeat' split) <;> rfl
theorem pp_X_nv {N l : Nat} {b : Nat → Nat} {μ : g_M} (hT : pp_TB (μ 46) l b) {e : Nat} (he : e ≤ l) : ∀ (m fuel p v : Nat), p + m = e → m < fuel → (∀ k, k < m → pp_dg (b (p + k)) = true) → f_X8_numberOf_L5 N fuel (pp_i e) (pp_i v) (pp_i p) μ = some (pp_i (pp_nv b m p v)) := by
  have hl := hT.1
  intro m
  induction m with
  | zero =>
    intro fuel p v hp hf hd
    obtain ⟨f, rfl⟩ := pp_fu hf
    rw [f_X8_numberOf_L5, pp_ite (pp_ge (by omega) (by omega)), if_pos (by omega), pp_nv]
  | succ m ih =>
    intro fuel p v hp hf hd
    obtain ⟨f, rfl⟩ := pp_fu hf
    have hb := hT.2 p (by omega)
    have h0 := of_decide_eq_true (hd 0 (by omega))
    rw [Nat.add_zero] at h0
    rw [f_X8_numberOf_L5, pp_ite (pp_ge (by omega) (by omega)), if_neg (by omega), pp_rd (by omega) (by decide), hb.1, show pp_i p + 1 = pp_i (p + 1) from pp_add p 1, pp_nv]
    simp only [Option.bind_some]
    rw [show (10 : Int32) = pp_i 10 from rfl, show (48 : Int32) = pp_i 48 from rfl, pp_mul, pp_add, pp_sub (by omega)]
    exact ih f (p + 1) _ (by omega) (by omega) (fun k hk => by
      have := hd (k + 1) (by omega)
      rwa [show p + (k + 1) = p + 1 + k by omega] at this)
def pp_Sp (a b : Nat) : Bool := decide (a = 47 ∨ a = 48 ∨ a = 49 ∨ (a = 45 ∧ b = 4))
/-- the words as the class has them -/
def pp_WX (μ : g_M) (l : Nat) (b : Nat → Nat) (W : Nat) : Prop := pp_wp l b W = l ∧ W ≤ l ∧ μ 45 4 = pp_i W ∧ μ 47 W = pp_i 26 ∧ μ 48 W = pp_i l ∧ ∀ j, j < W → pp_wp l b j < l ∧ μ 47 j = pp_i (pp_cd l b (pp_wp l b j)) ∧ μ 48 j = pp_i (pp_wp l b j) ∧ μ 49 j = pp_i (if pp_cd l b (pp_wp l b j) = 18 then pp_nv b (pp_we l b (pp_wp l b j) - pp_wp l b j) (pp_wp l b j) 0 else 0)
theorem pp_cd_18 {l p : Nat} {b : Nat → Nat} (h : pp_cd l b p = 18) : pp_dg (b p) = true ∧ pp_we l b p - p ≤ 4 := by
  unfold pp_cd at h
  by_cases c1 : pp_al (b p) = true
  · rw [if_pos c1] at h
    have key : ∀ (m n : Nat), n + m = 18 → ¬ pp_f18 b p (pp_we l b p) m n = 18 := by
      intro m
      induction m with
      | zero => exact fun n hn q => absurd q (by show ¬ 25 = 18; decide)
      | succ m ih =>
        intro n hn q
        rw [pp_f18] at q
        by_cases c : pp_nm b p (pp_we l b p) n = true
        · rw [if_pos c] at q; omega
        · rw [if_neg c] at q
          exact ih (n + 1) (by omega) q
    exact absurd h (key 18 0 rfl)
  · rw [if_neg c1] at h
    by_cases c2 : pp_dg (b p) = true
    · rw [if_pos c2] at h
      by_cases c3 : pp_we l b p - p ≤ 4
      · exact ⟨c2, c3⟩
      · rw [if_neg c3] at h; omega
    · rw [if_neg c2] at h
      revert h
      (repeat' split) <;> intro h <;> omega
theorem pp_X_split {N l : Nat} {b : Nat → Nat} {μ : g_M} (hN : 300 ≤ N) (hT : pp_TB (μ 46) l b) (h6 : μ 45 6 = pp_i l) : ∃ (μ1 : g_M) (W : Nat), f_X8_splitTape N μ = some μ1 ∧ pp_WX μ1 l b W ∧ pp_F pp_Sp μ μ1 := by
  have hl := hT.1
  have loop : ∀ (m fuel p j : Nat) (μ : g_M), p + m = l → m < fuel → pp_TB (μ 46) l b → μ 45 6 = pp_i l → μ 45 4 = pp_i j → pp_sk l b p = pp_wp l b j → j ≤ p → (∀ i, i < j → pp_wp l b i < l ∧ μ 47 i = pp_i (pp_cd l b (pp_wp l b i)) ∧ μ 48 i = pp_i (pp_wp l b i) ∧ μ 49 i = pp_i (if pp_cd l b (pp_wp l b i) = 18 then pp_nv b (pp_we l b (pp_wp l b i) - pp_wp l b i) (pp_wp l b i) 0 else 0)) →
      ∃ (μ1 : g_M) (W : Nat), f_X8_splitTape_L9 N fuel (pp_i p) μ = some μ1 ∧ pp_wp l b W = l ∧ W ≤ l ∧ μ1 45 4 = pp_i W ∧ (∀ i, i < W → pp_wp l b i < l ∧ μ1 47 i = pp_i (pp_cd l b (pp_wp l b i)) ∧ μ1 48 i = pp_i (pp_wp l b i) ∧ μ1 49 i = pp_i (if pp_cd l b (pp_wp l b i) = 18 then pp_nv b (pp_we l b (pp_wp l b i) - pp_wp l b i) (pp_wp l b i) 0 else 0)) ∧ pp_F pp_Sp μ μ1 := by
    intro m
    induction m using Nat.strongRecOn with
    | ind m ih =>
      intro fuel p j μ hp hf hT h6 h4 hsk hjp hw
      obtain ⟨f, rfl⟩ := pp_fu hf
      rw [f_X8_splitTape_L9, h6, pp_ite (pp_ge (by omega) (by omega))]
      by_cases cp : l ≤ p
      · rw [if_pos cp]
        have e : p = l := by omega
        rw [e, pp_sk_end] at hsk
        exact ⟨μ, j, rfl, hsk.symm, by omega, h4, hw, pp_F.refl⟩
      · rw [if_neg cp]
        have hpl : p < l := by omega
        have hb := hT.2 p hpl
        have hwe := pp_we_le (b := b) hpl
        rw [pp_X_we hN hT h6 hpl]
        simp only [Option.bind_some]
        rw [pp_rd (by omega) (by decide), hb.1]
        simp only [Option.bind_some]
        have hb2 := hb.2
        have hmax : g_max (pp_i p + 1) (pp_i (pp_we l b p)) = pp_i (pp_we l b p) := by
          rw [show pp_i p + 1 = pp_i (p + 1) from pp_add p 1, pp_gmax (by omega) (by omega)]
          congr 1
          split <;> omega
        rw [hmax, show (32 : Int32) = pp_i 32 from rfl, pp_ite (pp_eq (by omega) (by omega))]
        by_cases c32 : b p = 32
        · rw [if_pos c32]
          have ewe : pp_we l b p = p + 1 := by
            unfold pp_we
            rw [if_neg (by omega), if_neg (by rw [c32]; decide), if_neg (by rw [c32]; decide)]
          rw [ewe]
          exact ih (l - (p + 1)) (by omega) f (p + 1) j μ (by omega) (by omega) hT h6 h4 (by rw [← pp_sk_32 hpl c32, hsk]) (by omega) hw
        · rw [if_neg c32]
          have ep : p = pp_wp l b j := by rw [← hsk, pp_sk_no hpl c32]
          have hj200 : j < 201 := by omega
          rw [pp_X_cd hN hT hpl]
          simp only [Option.bind_some]
          rw [h4, pp_wr hj200 (by decide)]
          simp only [Option.bind_some]
          rw [pp_rowN (show (45 : Nat) ≠ 47 by decide), h4, pp_wr hj200 (by decide)]
          simp only [Option.bind_some]
          rw [pp_rowN (show (45 : Nat) ≠ 48 by decide), pp_rowN (show (45 : Nat) ≠ 47 by decide), h4, pp_rd hj200 (by decide), pp_rowN (show (47 : Nat) ≠ 48 by decide), pp_set_s]
          simp only [Option.bind_some]
          have hcd := pp_cd_le (l := l) (b := b) (p := p)
          rw [show (18 : Int32) = pp_i 18 from rfl, pp_ite (pp_eq (by omega) (by omega))]
          -- both ends, alike
          have fin : ∀ v : Nat, v = (if pp_cd l b p = 18 then pp_nv b (pp_we l b p - p) p 0 else 0) → ∃ (μ1 : g_M) (W : Nat), f_X8_splitTape_L9 N f (pp_i (pp_we l b p)) (g_set (g_set (g_set (g_set μ 47 j (pp_i (pp_cd l b p))) 48 j (pp_i p)) 49 j (pp_i v)) 45 4 (pp_i j + 1)) = some μ1 ∧ pp_wp l b W = l ∧ W ≤ l ∧ μ1 45 4 = pp_i W ∧ (∀ i, i < W → pp_wp l b i < l ∧ μ1 47 i = pp_i (pp_cd l b (pp_wp l b i)) ∧ μ1 48 i = pp_i (pp_wp l b i) ∧ μ1 49 i = pp_i (if pp_cd l b (pp_wp l b i) = 18 then pp_nv b (pp_we l b (pp_wp l b i) - pp_wp l b i) (pp_wp l b i) 0 else 0)) ∧ pp_F pp_Sp μ μ1 := by
            intro v hv
            have hF : pp_F pp_Sp μ (g_set (g_set (g_set (g_set μ 47 j (pp_i (pp_cd l b p))) 48 j (pp_i p)) 49 j (pp_i v)) 45 4 (pp_i j + 1)) := (((pp_F.set (by simp [pp_Sp])).trans (pp_F.set (by simp [pp_Sp]))).trans (pp_F.set (by simp [pp_Sp]))).trans (pp_F.set (by simp [pp_Sp]))
            obtain ⟨μ1, W, i1, i2, i3, i4, i5, i6⟩ := ih (l - pp_we l b p) (by omega) f (pp_we l b p) (j + 1) (g_set (g_set (g_set (g_set μ 47 j (pp_i (pp_cd l b p))) 48 j (pp_i p)) 49 j (pp_i v)) 45 4 (pp_i j + 1)) (by omega) (by omega) (by rw [hF.row (a := 46) (fun b => by simp [pp_Sp])]; exact hT) (by rw [hF 45 6 (by simp [pp_Sp])]; exact h6) (by rw [pp_set_s]; exact pp_add j 1) (by rw [pp_wp, ← ep]) (by omega) (fun i hi => by
              by_cases e : i = j
              · rw [e, ← ep]
                refine ⟨hpl, ?_, ?_, ?_⟩
                · rw [pp_rowN (by decide), pp_rowN (by decide), pp_rowN (by decide), pp_set_s]
                · rw [pp_rowN (by decide), pp_rowN (by decide), pp_set_s]
                · rw [pp_rowN (by decide), pp_set_s, hv]
              · obtain ⟨u1, u2, u3, u4⟩ := hw i (by omega)
                refine ⟨u1, ?_, ?_, ?_⟩
                · rw [pp_rowN (by decide), pp_rowN (by decide), pp_rowN (by decide), pp_set_n (by omega), u2]
                · rw [pp_rowN (by decide), pp_rowN (by decide), pp_set_n (by omega), pp_rowN (by decide), u3]
                · rw [pp_rowN (by decide), pp_set_n (by omega), pp_rowN (by decide), pp_rowN (by decide), u4])
            exact ⟨μ1, W, i1, i2, i3, i4, i5, hF.trans i6⟩
          have r46 : ∀ x : Int32, g_set (g_set μ 47 j (pp_i (pp_cd l b p))) 48 j x 45 4 = pp_i j := fun x => by rw [pp_rowN (show (45 : Nat) ≠ 48 by decide), pp_rowN (show (45 : Nat) ≠ 47 by decide), h4]
          by_cases c18 : pp_cd l b p = 18
          · have hd := pp_cd_18 c18
            rw [if_pos c18]
            unfold f_X8_numberOf
            have hnum := pp_X_nv (N := N) (μ := g_set (g_set μ 47 j (pp_i (pp_cd l b p))) 48 j (pp_i p)) (by rw [pp_rowN (show (46 : Nat) ≠ 48 by decide), pp_rowN (show (46 : Nat) ≠ 47 by decide)]; exact hT) hwe.2 (pp_we l b p - p) N p 0 (by omega) (by omega) (pp_we_dg hpl hd.1)
            rw [show pp_i 0 = (0 : Int32) from rfl] at hnum
            rw [hnum]
            simp only [Option.bind_some]
            rw [pp_wr hj200 (by decide)]
            simp only [Option.bind_some]
            rw [pp_rowN (show (45 : Nat) ≠ 49 by decide), r46]
            exact fin _ (by rw [if_pos c18])
          · rw [if_neg c18, show (0 : Int32) = pp_i 0 from rfl, pp_wr hj200 (by decide)]
            simp only [Option.bind_some]
            rw [pp_rowN (show (45 : Nat) ≠ 49 by decide), r46]
            exact fin 0 (by rw [if_neg c18])
  have hF0 : pp_F pp_Sp μ (g_set μ 45 4 0) := pp_F.set (by simp [pp_Sp])
  obtain ⟨μ1, W, i1, i2, i3, i4, i5, i6⟩ := loop l N 0 0 (g_set μ 45 4 0) (by omega) (by omega) (by rw [pp_rowN (by decide)]; exact hT) (by rw [pp_set_n (by decide)]; exact h6) (by rw [pp_set_s]; rfl) rfl (Nat.le_refl _) (fun i hi => absurd hi (Nat.not_lt_zero i))
  rw [show pp_i 0 = (0 : Int32) from rfl] at i1
  have h6' : μ1 45 6 = pp_i l := by rw [i6 45 6 (by simp [pp_Sp]), pp_set_n (by decide), h6]
  have hFl : pp_F pp_Sp μ1 (g_set (g_set μ1 47 W 26) 48 W (pp_i l)) := (pp_F.set (by simp [pp_Sp])).trans (pp_F.set (by simp [pp_Sp]))
  refine ⟨g_set (g_set μ1 47 W 26) 48 W (pp_i l), W, ?_, ⟨i2, i3, ?_, ?_, ?_, fun j hj => ?_⟩, (hF0.trans i6).trans hFl⟩
  · unfold f_X8_splitTape
    simp only [Option.bind_some]
    rw [i1]
    simp only [Option.bind_some]
    rw [i4, pp_wr (by omega) (by decide)]
    simp only [Option.bind_some]
    rw [pp_rowN (show (45 : Nat) ≠ 47 by decide), i4, h6', pp_wr (by omega) (by decide)]
    rfl
  · rw [pp_rowN (by decide), pp_rowN (by decide), i4]
  · rw [pp_rowN (by decide), pp_set_s]; rfl
  · rw [pp_set_s]
  · obtain ⟨u1, u2, u3, u4⟩ := i5 j hj
    refine ⟨u1, ?_, ?_, ?_⟩
    · rw [pp_rowN (by decide), pp_set_n (by omega), u2]
    · rw [pp_set_n (by omega), pp_rowN (by decide), u3]
    · rw [pp_rowN (by decide), pp_rowN (by decide), u4]
