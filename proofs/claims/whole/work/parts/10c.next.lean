/-! ===== the reference's next token ===== -/
def pp_tkn (b : Nat) : Nat := if pp_al b = true then 1 else if pp_dg b = true then 2 else 3
def pp_rv (b : Nat → Nat) : Nat → Nat → Nat → Nat
  | 0, _, v => v
  | m + 1, p, v => pp_rv b m (p + 1) (if v ≤ 9999 then 10 * v + b p - 48 else v)
theorem pp_rv_nv {b : Nat → Nat} : ∀ (m p v : Nat), v * 10 ^ m + 10 ^ m ≤ 10000 → (∀ k, k < m → pp_dg (b (p + k)) = true) → pp_rv b m p v = pp_nv b m p v
  | 0, _, _, _, _ => rfl
  | m + 1, p, v, h, hd => by
    have h0 := of_decide_eq_true (hd 0 (by omega))
    rw [Nat.add_zero] at h0
    have hp : 1 ≤ 10 ^ m := Nat.one_le_pow _ _ (by decide)
    have e : v * 10 ^ (m + 1) = (v * 10) * 10 ^ m := by rw [Nat.pow_succ, Nat.mul_assoc, Nat.mul_comm (10 ^ m)]
    have e2 : 10 ^ (m + 1) = 10 * 10 ^ m := by rw [Nat.pow_succ, Nat.mul_comm]
    rw [e, e2] at h
    have hv : v ≤ 9999 := by
      have : v * 10 * 1 ≤ v * 10 * 10 ^ m := Nat.mul_le_mul_left _ hp
      omega
    rw [pp_rv, pp_nv, if_pos hv, Nat.mul_comm 10 v]
    refine pp_rv_nv m (p + 1) _ ?_ (fun k hk => by
      have := hd (k + 1) (by omega)
      rwa [show p + (k + 1) = p + 1 + k by omega] at this)
    have : (v * 10 + b p - 48) * 10 ^ m ≤ (v * 10 + 9) * 10 ^ m := Nat.mul_le_mul_right _ (by omega)
    rw [Nat.add_mul] at this
    omega
theorem pp_M_by {l k : Nat} {b : Nat → Nat} {μ : g_M} (hT : pp_TB (μ 4) l b) (h5 : μ 0 5 = pp_i l) (hk : k < 1000) : f_X12_byteAt (pp_i k) μ = some (if k < l then pp_i (b k) else -1) := by
  have hl := hT.1
  unfold f_X12_byteAt
  rw [h5, pp_ite (pp_ge (by omega) (by omega))]
  by_cases c : k < l
  · rw [if_neg (by omega), if_pos c, pp_rd (by omega) (by decide), (hT.2 k c).1]
    rfl
  · rw [if_pos (by omega), if_neg c]
theorem pp_M_al {b : Nat} (h : b < 256) : (f_X12_isAlpha (pp_i b) = 0) = ¬ (pp_al b = true) := pp_X_al h
theorem pp_M_dg {b : Nat} (h : b < 256) : (f_X12_isDigit (pp_i b) = 0) = ¬ (pp_dg b = true) := pp_X_dg h
def pp_nt (N : Nat) (tk : Int32) (μ4 : g_M) : Option g_M :=
  (some (g_set μ4 0 8 tk)).bind fun μ10 => (some (g_set μ10 0 11 0)).bind fun μ11 => (f_X12_nextToken_L91 N N μ11).bind fun μ12 => (f_X12_nextToken_L126 N N μ12).bind fun μ14 =>
  if (μ14 0 8) ≤ 2 then ((some (g_set μ14 0 10 ((μ14 0 10) + 0))).bind fun μ17 => some μ17) else ((some (g_set μ14 0 10 ((μ14 0 10) + 1))).bind fun μ18 => some μ18)
theorem pp_nt_eq {N : Nat} {μ : g_M} : f_X12_nextToken N μ = (some (g_set μ 0 9 (μ 0 10))).bind fun μ1 => (f_X12_nextToken_L8 N N μ1).bind fun μ2 => (some (g_set μ2 0 10 (μ2 0 9))).bind fun μ4 => (f_X12_byteAt (μ4 0 9) μ4).bind fun x5 =>
    if x5 ≥ 0 then (if (f_X12_isAlpha x5) = 0 then (if (f_X12_isDigit x5) = 0 then pp_nt N 3 μ4 else pp_nt N 2 μ4) else pp_nt N 1 μ4) else pp_nt N 0 μ4 := rfl
def pp_St (a b : Nat) : Bool := decide (a = 0 ∧ (b = 8 ∨ b = 9 ∨ b = 10 ∨ b = 11))
/-- the reference's token is the word at p -/
def pp_TK (μ : g_M) (l : Nat) (b : Nat → Nat) (p : Nat) : Prop := μ 0 9 = pp_i p ∧ p ≤ l ∧ (p < l → μ 0 10 = pp_i (pp_we l b p) ∧ μ 0 8 = pp_i (pp_tkn (b p)) ∧ (pp_dg (b p) = true → pp_we l b p - p ≤ 4 → μ 0 11 = pp_i (pp_nv b (pp_we l b p - p) p 0))) ∧ (p = l → μ 0 10 = pp_i l ∧ μ 0 8 = 0)
theorem pp_M_L91 {N l : Nat} {b : Nat → Nat} : ∀ (m fuel k : Nat) (μ : g_M), k + m = l → m < fuel → pp_TB (μ 4) l b → μ 0 5 = pp_i l → μ 0 8 = 1 → μ 0 10 = pp_i k → ∃ μ1 : g_M, f_X12_nextToken_L91 N fuel μ = some μ1 ∧ μ1 0 10 = pp_i (pp_rl pp_al b m k) ∧ pp_F (fun a b => decide (a = 0 ∧ b = 10)) μ μ1 := by
  intro m
  induction m with
  | zero =>
    intro fuel k μ hk hf hT h5 h8 h10
    obtain ⟨f, rfl⟩ := pp_fu hf
    have hl := hT.1
    rw [f_X12_nextToken_L91, if_pos h8, h10, pp_M_by hT h5 (by omega), if_neg (by omega)]
    simp only [Option.bind_some]
    rw [if_pos (by decide)]
    exact ⟨μ, rfl, h10, pp_F.refl⟩
  | succ m ih =>
    intro fuel k μ hk hf hT h5 h8 h10
    obtain ⟨f, rfl⟩ := pp_fu hf
    have hl := hT.1
    have hb := hT.2 k (by omega)
    rw [f_X12_nextToken_L91, if_pos h8, h10, pp_M_by hT h5 (by omega), if_pos (by omega), pp_rl]
    simp only [Option.bind_some]
    rw [pp_ite (pp_M_al hb.2)]
    by_cases c : pp_al (b k) = true
    · rw [if_neg (fun q => q c), if_pos c, show pp_i k + 1 = pp_i (k + 1) from pp_add k 1]
      obtain ⟨μ1, i1, i2, i3⟩ := ih f (k + 1) (g_set μ 0 10 (pp_i (k + 1))) (by omega) (by omega) (by rw [pp_rowN (by decide)]; exact hT) (by rw [pp_set_n (by decide)]; exact h5) (by rw [pp_set_n (by decide)]; exact h8) pp_set_s
      exact ⟨μ1, i1, i2, (pp_F.set (by decide)).trans i3⟩
    · rw [if_pos c, if_neg c]
      exact ⟨μ, rfl, h10, pp_F.refl⟩
theorem pp_M_L126 {N l : Nat} {b : Nat → Nat} : ∀ (m fuel k v : Nat) (μ : g_M), k + m = l → m < fuel → pp_TB (μ 4) l b → μ 0 5 = pp_i l → μ 0 8 = 2 → μ 0 10 = pp_i k → μ 0 11 = pp_i v → v < 1000000 → ∃ μ1 : g_M, f_X12_nextToken_L126 N fuel μ = some μ1 ∧ μ1 0 10 = pp_i (pp_rl pp_dg b m k) ∧ μ1 0 11 = pp_i (pp_rv b (pp_rl pp_dg b m k - k) k v) ∧ pp_F (fun a b => decide (a = 0 ∧ (b = 10 ∨ b = 11))) μ μ1 := by
  intro m
  induction m with
  | zero =>
    intro fuel k v μ hk hf hT h5 h8 h10 h11 hv
    obtain ⟨f, rfl⟩ := pp_fu hf
    have hl := hT.1
    rw [f_X12_nextToken_L126, if_pos h8, h10, pp_M_by hT h5 (by omega), if_neg (by omega)]
    simp only [Option.bind_some]
    rw [if_pos (by decide), pp_rl, Nat.sub_self]
    exact ⟨μ, rfl, h10, h11, pp_F.refl⟩
  | succ m ih =>
    intro fuel k v μ hk hf hT h5 h8 h10 h11 hv
    obtain ⟨f, rfl⟩ := pp_fu hf
    have hl := hT.1
    have hb := hT.2 k (by omega)
    have hrl := pp_rl_le (f := pp_dg) (b := b) m (k + 1)
    rw [f_X12_nextToken_L126, if_pos h8, h10, pp_M_by hT h5 (by omega), if_pos (by omega), pp_rl]
    simp only [Option.bind_some]
    rw [pp_ite (pp_M_dg hb.2)]
    by_cases c : pp_dg (b k) = true
    · have hd := of_decide_eq_true c
      rw [if_neg (fun q => q c), if_pos c, h11, show (9999 : Int32) = pp_i 9999 from rfl, pp_ite (pp_le (by omega) (by omega)), show pp_rl pp_dg b m (k + 1) - k = (pp_rl pp_dg b m (k + 1) - (k + 1)) + 1 by omega, pp_rv]
      have key : ∀ v2 : Nat, v2 < 1000000 → v2 = (if v ≤ 9999 then 10 * v + b k - 48 else v) → ∃ μ1 : g_M, f_X12_nextToken_L126 N f (g_set (g_set μ 0 11 (pp_i v2)) 0 10 (pp_i (k + 1))) = some μ1 ∧ μ1 0 10 = pp_i (pp_rl pp_dg b m (k + 1)) ∧ μ1 0 11 = pp_i (pp_rv b (pp_rl pp_dg b m (k + 1) - (k + 1)) (k + 1) (if v ≤ 9999 then 10 * v + b k - 48 else v)) ∧ pp_F (fun a b => decide (a = 0 ∧ (b = 10 ∨ b = 11))) μ μ1 := by
        intro v2 hv2 e2
        obtain ⟨μ1, i1, i2, i3, i4⟩ := ih f (k + 1) v2 (g_set (g_set μ 0 11 (pp_i v2)) 0 10 (pp_i (k + 1))) (by omega) (by omega) (by rw [pp_rowN (by decide), pp_rowN (by decide)]; exact hT) (by rw [pp_set_n (by decide), pp_set_n (by decide)]; exact h5) (by rw [pp_set_n (by decide), pp_set_n (by decide)]; exact h8) pp_set_s (by rw [pp_set_n (by decide), pp_set_s]) hv2
        rw [← e2]
        exact ⟨μ1, i1, i2, i3, ((pp_F.set (by decide)).trans (pp_F.set (by decide))).trans i4⟩
      by_cases c2 : v ≤ 9999
      · rw [if_pos c2, pp_set_n (by decide), h10, show pp_i k + 1 = pp_i (k + 1) from pp_add k 1, show (10 : Int32) = pp_i 10 from rfl, show (48 : Int32) = pp_i 48 from rfl, pp_mul, pp_add, pp_sub (by omega)]
        exact key _ (by omega) (by rw [if_pos c2])
      · rw [if_neg c2, pp_set_n (by decide), h10, show pp_i k + 1 = pp_i (k + 1) from pp_add k 1]
        exact key v hv (by rw [if_neg c2])
    · rw [if_pos c, if_neg c, Nat.sub_self]
      exact ⟨μ, rfl, h10, h11, pp_F.refl⟩
theorem pp_M_next {N l e : Nat} {b : Nat → Nat} {μ : g_M} (hN : 300 ≤ N) (hT : pp_TB (μ 4) l b) (h5 : μ 0 5 = pp_i l) (h10 : μ 0 10 = pp_i e) (he : e ≤ l) : ∃ μ1 : g_M, f_X12_nextToken N μ = some μ1 ∧ pp_TK μ1 l b (pp_sk l b e) ∧ pp_F pp_St μ μ1 := by
  have hl := hT.1
  have hsk := pp_sk_le (b := b) he
  have L8 : ∀ (m fuel k : Nat) (μ : g_M), k + m = l → m < fuel → pp_TB (μ 4) l b → μ 0 5 = pp_i l → μ 0 9 = pp_i k → ∃ μ1 : g_M, f_X12_nextToken_L8 N fuel μ = some μ1 ∧ μ1 0 9 = pp_i (pp_sk l b k) ∧ pp_F (fun a b => decide (a = 0 ∧ b = 9)) μ μ1 := by
    intro m
    induction m with
    | zero =>
      intro fuel k μ hk hf hT h5 h9
      obtain ⟨f, rfl⟩ := pp_fu hf
      rw [f_X12_nextToken_L8, h9, pp_M_by hT h5 (by omega), if_neg (by omega)]
      simp only [Option.bind_some]
      rw [if_neg (by decide), show k = l by omega, pp_sk_end]
      exact ⟨μ, rfl, by rw [h9, show k = l by omega], pp_F.refl⟩
    | succ m ih =>
      intro fuel k μ hk hf hT h5 h9
      obtain ⟨f, rfl⟩ := pp_fu hf
      have hb := hT.2 k (by omega)
      have hb2 := hb.2
      rw [f_X12_nextToken_L8, h9, pp_M_by hT h5 (by omega), if_pos (by omega)]
      simp only [Option.bind_some]
      rw [show (32 : Int32) = pp_i 32 from rfl, pp_ite (pp_eq (by omega) (by omega)), show pp_i k + 1 = pp_i (k + 1) from pp_add k 1]
      by_cases c : b k = 32
      · rw [if_pos c, pp_sk_32 (by omega) c]
        obtain ⟨μ1, i1, i2, i3⟩ := ih f (k + 1) (g_set μ 0 9 (pp_i (k + 1))) (by omega) (by omega) (by rw [pp_rowN (by decide)]; exact hT) (by rw [pp_set_n (by decide)]; exact h5) pp_set_s
        exact ⟨μ1, i1, i2, (pp_F.set (by decide)).trans i3⟩
      · rw [if_neg c, pp_sk_no (by omega) c]
        exact ⟨μ, rfl, h9, pp_F.refl⟩
  obtain ⟨μ2, i1, i2, i3⟩ := L8 (l - e) N e (g_set μ 0 9 (pp_i e)) (by omega) (by omega) (by rw [pp_rowN (by decide)]; exact hT) (by rw [pp_set_n (by decide)]; exact h5) pp_set_s
  rw [pp_nt_eq, h10]
  simp only [Option.bind_some]
  rw [i1]
  simp only [Option.bind_some]
  rw [i2, pp_set_n (show ¬ ((0 : Nat) = 0 ∧ (9 : Nat) = 10) by decide), i2]
  generalize pp_sk l b e = p at hsk i2 ⊢
  generalize hμ4 : g_set μ2 0 10 (pp_i p) = μ4
  have hF2 : pp_F pp_St μ μ2 := (pp_F.set (by decide)).trans (i3.mono (fun a b h => by
    unfold pp_St at h
    simp only [decide_eq_false_iff_not] at h ⊢
    omega))
  have hF4 : pp_F pp_St μ μ4 := hF2.trans (by rw [← hμ4]; exact pp_F.set (by decide))
  have t4 : pp_TB (μ4 4) l b := by rw [hF4.row (a := 4) (fun b => by simp [pp_St])]; exact hT
  have t5 : μ4 0 5 = pp_i l := by rw [hF4 0 5 (by decide)]; exact h5
  have t9 : μ4 0 9 = pp_i p := by rw [← hμ4, pp_set_n (by decide), i2]
  have t10 : μ4 0 10 = pp_i p := by rw [← hμ4, pp_set_s]
  rw [pp_M_by t4 t5 (by omega)]
  simp only [Option.bind_some]
  have h91 : ∀ (μ : g_M), ¬ μ 0 8 = 1 → f_X12_nextToken_L91 N N μ = some μ := by
    intro μ h
    obtain ⟨f, hf⟩ := pp_fu (show 0 < N by omega)
    conv => lhs; rw [show f_X12_nextToken_L91 N N = f_X12_nextToken_L91 N (f + 1) from congrArg _ hf]
    rw [f_X12_nextToken_L91, if_neg h]
  have h126 : ∀ (μ : g_M), ¬ μ 0 8 = 2 → f_X12_nextToken_L126 N N μ = some μ := by
    intro μ h
    obtain ⟨f, hf⟩ := pp_fu (show 0 < N by omega)
    conv => lhs; rw [show f_X12_nextToken_L126 N N = f_X12_nextToken_L126 N (f + 1) from congrArg _ hf]
    rw [f_X12_nextToken_L126, if_neg h]
  by_cases cp : p < l
  · have hb := t4.2 p cp
    have hb2 := hb.2
    rw [if_pos cp, if_pos (show pp_i (b p) ≥ 0 by
      show (0 : Int32) ≤ _
      rw [show (0 : Int32) = pp_i 0 from rfl, pp_le (by omega) (by omega)]
      omega), pp_ite (pp_M_al hb.2), pp_ite (pp_M_dg hb.2)]
    by_cases c1 : pp_al (b p) = true
    · rw [if_neg (fun q => q c1)]
      unfold pp_nt
      simp only [Option.bind_some]
      have hF11 : pp_F pp_St μ4 (g_set (g_set μ4 0 8 1) 0 11 0) := (pp_F.set (by decide)).trans (pp_F.set (by decide))
      obtain ⟨μ5, j1, j2, j3⟩ := pp_M_L91 (N := N) (l := l) (l - p) N p (g_set (g_set μ4 0 8 1) 0 11 0) (by omega) (by omega) (by rw [pp_rowN (by decide), pp_rowN (by decide)]; exact t4) (by rw [pp_set_n (by decide), pp_set_n (by decide)]; exact t5) (by rw [pp_set_n (by decide), pp_set_s]) (by rw [pp_set_n (by decide), pp_set_n (by decide)]; exact t10)
      have e8 : μ5 0 8 = 1 := by rw [j3 0 8 (by decide), pp_set_n (by decide), pp_set_s]
      rw [j1]
      simp only [Option.bind_some]
      rw [h126 μ5 (by rw [e8]; decide)]
      simp only [Option.bind_some]
      rw [e8, if_pos (by decide), j2]
      have ewe : pp_rl pp_al b (l - p) p = pp_we l b p := by
        unfold pp_we
        rw [if_neg (by omega), if_pos c1, show l - p = (l - (p + 1)) + 1 by omega, pp_rl, if_pos c1]
      refine ⟨_, rfl, ⟨?_, by omega, fun _ => ⟨?_, ?_, fun q => absurd c1 (pp_al_dg q)⟩, fun q => by omega⟩, (hF4.trans hF11).trans ((j3.mono (fun a b h => by
        unfold pp_St at h
        simp only [decide_eq_false_iff_not] at h ⊢
        omega)).trans (pp_F.set (by decide)))⟩
      · rw [pp_set_n (by decide), j3 0 9 (by decide), pp_set_n (by decide), pp_set_n (by decide), t9]
      · rw [pp_set_s, ewe]; exact Int32.add_zero _
      · rw [pp_set_n (by decide), e8]
        unfold pp_tkn
        rw [if_pos c1]; rfl
    · rw [if_pos c1]
      by_cases c2 : pp_dg (b p) = true
      · rw [if_neg (fun q => q c2)]
        unfold pp_nt
        simp only [Option.bind_some]
        have hF11 : pp_F pp_St μ4 (g_set (g_set μ4 0 8 2) 0 11 0) := (pp_F.set (by decide)).trans (pp_F.set (by decide))
        rw [h91 _ (by rw [pp_set_n (by decide), pp_set_s]; decide)]
        simp only [Option.bind_some]
        obtain ⟨μ5, j1, j2, j4, j3⟩ := pp_M_L126 (N := N) (l := l) (l - p) N p 0 (g_set (g_set μ4 0 8 2) 0 11 0) (by omega) (by omega) (by rw [pp_rowN (by decide), pp_rowN (by decide)]; exact t4) (by rw [pp_set_n (by decide), pp_set_n (by decide)]; exact t5) (by rw [pp_set_n (by decide), pp_set_s]) (by rw [pp_set_n (by decide), pp_set_n (by decide)]; exact t10) (by rw [pp_set_s]; rfl) (by decide)
        have e8 : μ5 0 8 = 2 := by rw [j3 0 8 (by decide), pp_set_n (by decide), pp_set_s]
        rw [j1]
        simp only [Option.bind_some]
        rw [e8, if_pos (by decide), j2]
        have ewe : pp_rl pp_dg b (l - p) p = pp_we l b p := by
          unfold pp_we
          rw [if_neg (by omega), if_neg c1, if_pos c2, show l - p = (l - (p + 1)) + 1 by omega, pp_rl, if_pos c2]
        refine ⟨_, rfl, ⟨?_, by omega, fun _ => ⟨?_, ?_, fun _ h4 => ?_⟩, fun q => by omega⟩, (hF4.trans hF11).trans ((j3.mono (fun a b h => by
          unfold pp_St at h
          simp only [decide_eq_false_iff_not] at h ⊢
          omega)).trans (pp_F.set (by decide)))⟩
        · rw [pp_set_n (by decide), j3 0 9 (by decide), pp_set_n (by decide), pp_set_n (by decide), t9]
        · rw [pp_set_s, ewe]; exact Int32.add_zero _
        · rw [pp_set_n (by decide), e8]
          unfold pp_tkn
          rw [if_neg c1, if_pos c2]; rfl
        · rw [pp_set_n (by decide), j4, ewe]
          congr 1
          refine pp_rv_nv _ p 0 ?_ (pp_we_dg cp c2)
          rw [Nat.zero_mul, Nat.zero_add]
          exact Nat.pow_le_pow_right (n := 10) (by decide) h4
      · rw [if_pos c2]
        unfold pp_nt
        simp only [Option.bind_some]
        have hF11 : pp_F pp_St μ4 (g_set (g_set μ4 0 8 3) 0 11 0) := (pp_F.set (by decide)).trans (pp_F.set (by decide))
        rw [h91 _ (by rw [pp_set_n (by decide), pp_set_s]; decide)]
        simp only [Option.bind_some]
        rw [h126 _ (by rw [pp_set_n (by decide), pp_set_s]; decide)]
        simp only [Option.bind_some]
        have e8 : g_set (g_set μ4 0 8 3) 0 11 0 0 8 = 3 := by rw [pp_set_n (by decide), pp_set_s]
        have e10 : g_set (g_set μ4 0 8 3) 0 11 0 0 10 = pp_i p := by rw [pp_set_n (by decide), pp_set_n (by decide), t10]
        rw [e8, if_neg (by decide), e10]
        have ewe : p + 1 = pp_we l b p := by
          unfold pp_we
          rw [if_neg (by omega), if_neg c1, if_neg c2]
        refine ⟨_, rfl, ⟨?_, by omega, fun _ => ⟨?_, ?_, fun q => absurd q c2⟩, fun q => by omega⟩, (hF4.trans hF11).trans (pp_F.set (by decide))⟩
        · rw [pp_set_n (by decide), pp_set_n (by decide), pp_set_n (by decide), t9]
        · rw [pp_set_s, ← ewe]; exact pp_add p 1
        · rw [pp_set_n (by decide), e8]
          unfold pp_tkn
          rw [if_neg c1, if_neg c2]; rfl
  · rw [if_neg cp, if_neg (by decide)]
    unfold pp_nt
    simp only [Option.bind_some]
    have hF11 : pp_F pp_St μ4 (g_set (g_set μ4 0 8 0) 0 11 0) := (pp_F.set (by decide)).trans (pp_F.set (by decide))
    rw [h91 _ (by rw [pp_set_n (by decide), pp_set_s]; decide)]
    simp only [Option.bind_some]
    rw [h126 _ (by rw [pp_set_n (by decide), pp_set_s]; decide)]
    simp only [Option.bind_some]
    have e8 : g_set (g_set μ4 0 8 0) 0 11 0 0 8 = 0 := by rw [pp_set_n (by decide), pp_set_s]
    have e10 : g_set (g_set μ4 0 8 0) 0 11 0 0 10 = pp_i p := by rw [pp_set_n (by decide), pp_set_n (by decide), t10]
    rw [e8, if_pos (by decide), e10]
    refine ⟨_, rfl, ⟨?_, by omega, fun q => by omega, fun _ => ⟨?_, ?_⟩⟩, (hF4.trans hF11).trans (pp_F.set (by decide))⟩
    · rw [pp_set_n (by decide), pp_set_n (by decide), pp_set_n (by decide), t9]
    · rw [pp_set_s, show p = l by omega]; exact Int32.add_zero _
    · rw [pp_set_n (by decide), e8]
