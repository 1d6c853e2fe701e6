/-! ===== the reference's plans ===== -/
theorem pp_m1_int {M : Nat} (h : M < 2147483648) : (pp_i M - 1).toInt = (M : Int) - 1 := by
  cases M with
  | zero => rfl
  | succ k =>
    rw [show (1 : Int32) = pp_i 1 from rfl, pp_sub (by omega), pp_int (by omega)]
    omega
theorem pp_m1_le {x M : Nat} (hx : x < 2147483648) (hM : M < 2147483648) : (pp_i x ≤ pp_i M - 1) = (x < M) := by
  rw [Int32.le_iff_toInt_le, pp_m1_int hM, pp_int hx]
  exact propext ⟨fun q => by omega, fun q => by omega⟩
theorem pp_m1_eq {x M : Nat} (hx : x < 2147483648) (hM : M < 2147483648) : (pp_i x = pp_i M - 1) = (x + 1 = M) := by
  rw [← Int32.toInt_inj, pp_m1_int hM, pp_int hx]
  exact propext ⟨fun q => by omega, fun q => by omega⟩
theorem pp_m1_ge {x M : Nat} (hx : x < 2147483648) (hM : M < 2147483648) : (pp_i x ≤ pp_i M - 1) = ¬ (M ≤ x) := by
  rw [pp_m1_le hx hM]
  exact propext ⟨fun q => by omega, fun q => by omega⟩
def pp_tl (N : Nat) (a4 : Int32) (μ13 : g_M) : Option g_M :=
  (f_X12_home N μ13).bind fun x14 => (some (g_set μ13 0 27 ((μ13 0 27) ||| x14))).bind fun μ16 =>
  if ((μ16 0 25) &&& (x14 ^^^ (-1))) = 0 then (if a4 ≥ (μ16 0 26) then ((some (g_set μ16 0 26 (μ16 0 26))).bind fun μ20 => some μ20) else ((some (g_set μ16 0 26 a4)).bind fun μ21 => some μ21)) else ((some (g_set μ16 0 26 (μ16 0 26))).bind fun μ18 => some μ18)
def pp_ll (N n : Nat) (a1 a3 a4 : Int32) (μ : g_M) : Option g_M :=
  if a3 ≤ (μ 0 22) then (if a3 = (μ 0 22) then ((some (g_set μ 0 23 ((μ 0 23) + 1))).bind fun μ13 => pp_tl N a4 μ13) else ((some (g_set μ 0 23 ((μ 0 23) + 0))).bind fun μ4 => pp_tl N a4 μ4))
  else ((some (g_set μ 0 22 a3)).bind fun μ22 => (some (g_set μ22 0 23 0)).bind fun μ23 => (some (g_set μ23 0 24 a1)).bind fun μ24 => (f_X12_plans_L38 (f_X12_plans N n) N N a3 a4 0 μ24).bind fun μ25 =>
    if a3 = (μ25 0 22) then ((some (g_set μ25 0 23 ((μ25 0 23) + 1))).bind fun μ37 => pp_tl N a4 μ37) else ((some (g_set μ25 0 23 ((μ25 0 23) + 0))).bind fun μ28 => pp_tl N a4 μ28))
theorem pp_plans_eq {N n : Nat} {a1 a2 a3 a4 : Int32} {μ : g_M} : f_X12_plans N (n + 1) a1 a2 a3 a4 μ = if a1 = a2 then pp_ll N n a1 a3 a4 μ else (if (f_X12_isOver μ) = 0 then ((f_X12_laysAside N a1 μ).bind fun μ49 => (f_X12_plans_L146 (f_X12_plans N n) N N a1 a2 a3 a4 0 μ49).bind fun μ50 => some μ50) else pp_ll N n a1 a3 a4 μ) := by
  rw [f_X12_plans]
  rfl
theorem pp_M_homeL {N : Nat} {s : Nat → Int32} {t : Nat} {w : Nat → Nat} {sc : Int32} {μ : g_M} (hB : pp_B s) (hw : ∀ o, o < pp_n s → w o < 16) (h1 : μ 1 = pp_put s t w sc) : ∀ (m fuel o : Nat), o + m = pp_n s → m < fuel → f_X12_home_L4 N fuel (pp_i (pp_hm o w)) (pp_i o) μ = some (pp_i (pp_hm (pp_n s) w)) := by
  have hB2 := hB.2
  have h0 : μ 1 0 = pp_i (pp_n s) := by rw [h1, pp_put_0, hB.1]
  intro m
  induction m with
  | zero =>
    intro fuel o ho hf
    obtain ⟨k, rfl⟩ := pp_fu hf
    rw [f_X12_home_L4, h0, pp_ite (pp_ge (by omega) (by omega)), if_pos (by omega), show o = pp_n s by omega]
  | succ m ih =>
    intro fuel o ho hf
    obtain ⟨f, rfl⟩ := pp_fu hf
    have hlt := hw o (by omega)
    have hih := ih f (o + 1) (by omega) (by omega)
    have q4 : f_X12_its (pp_i o) 4 μ = some (pp_i (w o)) := by
      rw [show (4 : Int32) = pp_i 4 from rfl, pp_M_its (by omega), h1, pp_put_w (by omega)]
    rw [f_X12_home_L4, h0, pp_ite (pp_ge (by omega) (by omega)), if_neg (by omega), q4, show pp_i o + 1 = pp_i (o + 1) from pp_add o 1]
    simp only [Option.bind_some]
    rw [pp_ite (pp_e0 (by omega))]
    unfold pp_hm at hih ⊢
    rw [pp_mk] at hih
    by_cases c : w o = 0
    · rw [if_pos c, pp_mk_or1 (by omega)]
      rw [if_pos (decide_eq_true c)] at hih
      exact hih
    · rw [if_neg c, pp_or0 (pp_mk_64 (by omega))]
      rw [if_neg (by simpa using c), Nat.add_zero] at hih
      exact hih
theorem pp_M_home {N : Nat} {s : Nat → Int32} {t : Nat} {w : Nat → Nat} {sc : Int32} {μ : g_M} (hN : 200 ≤ N) (hB : pp_B s) (hw : ∀ o, o < pp_n s → w o < 16) (h1 : μ 1 = pp_put s t w sc) : f_X12_home N μ = some (pp_i (pp_hm (pp_n s) w)) := by
  have hB2 := hB.2
  have := pp_M_homeL (N := N) hB hw h1 (pp_n s) N 0 (by omega) (by omega)
  unfold f_X12_home
  rw [show pp_i (pp_hm 0 w) = (0 : Int32) from rfl, show pp_i 0 = (0 : Int32) from rfl] at this
  rw [this]
  rfl
/-- what the plans so far come to -/
def pp_PR (μ : g_M) (wd : Nat) (a : pp_PA) : Prop := μ 0 25 = pp_i wd ∧ μ 0 22 = pp_i a.1 - 1 ∧ μ 0 23 = pp_i a.2.1 ∧ μ 0 24 = pp_i a.2.2.1.length ∧ (∀ i, i < a.2.2.1.length → μ 10 i = pp_i (a.2.2.1.getD i 0)) ∧ μ 0 26 = pp_i a.2.2.2.1 ∧ μ 0 27 = pp_i a.2.2.2.2 ∧ a.1 ≤ 10000 ∧ a.2.2.2.1 ≤ 1000 ∧ a.2.2.2.2 < 64
def pp_SP (a b : Nat) : Bool := decide (a = 1 ∨ a = 3 ∨ a = 5 ∨ a = 9 ∨ a = 10 ∨ (a = 0 ∧ (b = 7 ∨ b = 15 ∨ b = 22 ∨ b = 23 ∨ b = 24 ∨ b = 26 ∨ b = 27)))
def pp_SQ (a b : Nat) : Bool := decide (a = 10 ∨ (a = 0 ∧ (b = 22 ∨ b = 23 ∨ b = 24 ∨ b = 26 ∨ b = 27)))
theorem pp_M_tl {N : Nat} {s : Nat → Int32} {t wd ch H FA : Nat} {w : Nat → Nat} {sc : Int32} {μ : g_M} (hN : 200 ≤ N) (hB : pp_B s) (hw : ∀ o, o < pp_n s → w o < 16) (hwd : wd < 64) (h1 : μ 1 = pp_put s t w sc) (h25 : μ 0 25 = pp_i wd) (h26 : μ 0 26 = pp_i FA) (h27 : μ 0 27 = pp_i H) (hch : ch ≤ 1000) (hFA : FA ≤ 1000) :
    pp_tl N (pp_i ch) μ = some (g_set (g_set μ 0 27 (pp_i (H ||| pp_hm (pp_n s) w))) 0 26 (pp_i (if ch + (if wd &&& pp_hm (pp_n s) w = wd then 0 else 1000) < FA then ch + (if wd &&& pp_hm (pp_n s) w = wd then 0 else 1000) else FA))) := by
  have hh : pp_hm (pp_n s) w < 64 := pp_mk_64 hB.2
  have e2 := pp_bit_an ⟨pp_hm (pp_n s) w, hh⟩ ⟨wd, hwd⟩
  dsimp only at e2
  have hle : wd &&& pp_hm (pp_n s) w ≤ wd := Nat.and_le_left
  unfold pp_tl
  rw [pp_M_home hN hB hw h1]
  simp only [Option.bind_some]
  rw [h27, pp_or, pp_set_n (show ¬ ((0 : Nat) = 0 ∧ (25 : Nat) = 27) by decide), h25, pp_set_n (show ¬ ((0 : Nat) = 0 ∧ (26 : Nat) = 27) by decide), h26, pp_not_lit, e2, pp_ite (pp_e0 (by omega)), pp_ite (pp_ge (by omega) (by omega))]
  by_cases c : wd &&& pp_hm (pp_n s) w = wd
  · rw [if_pos (by omega), if_pos c]
    by_cases c2 : FA ≤ ch
    · rw [if_pos c2, if_neg (by omega)]
    · rw [if_neg c2, if_pos (by omega)]
      rfl
  · rw [if_neg (by omega), if_neg c, if_neg (by omega)]
theorem pp_M_copyA {N : Nat} {F : Int32 → Int32 → Int32 → Int32 → g_M → Option g_M} {a3 a4 : Int32} : ∀ (m fuel k : Nat) (μ : g_M), k + m = 4 → m < fuel → ∃ μ1 : g_M, f_X12_plans_L38 F N fuel a3 a4 (pp_i k) μ = some μ1 ∧ (∀ i, k ≤ i → i < 4 → μ1 10 i = μ 9 i) ∧ (∀ i, i < k → μ1 10 i = μ 10 i) ∧ ∀ a, a ≠ 10 → μ1 a = μ a := by
  intro m
  induction m with
  | zero =>
    intro fuel k μ hk hf
    obtain ⟨f, rfl⟩ := pp_fu hf
    rw [f_X12_plans_L38, show (4 : Int32) = pp_i 4 from rfl, pp_ite (pp_ge (by omega) (by omega)), if_pos (by omega)]
    exact ⟨μ, rfl, fun i h1 h2 => by omega, fun _ _ => rfl, fun _ _ => rfl⟩
  | succ m ih =>
    intro fuel k μ hk hf
    obtain ⟨f, rfl⟩ := pp_fu hf
    rw [f_X12_plans_L38, show (4 : Int32) = pp_i 4 from rfl, pp_ite (pp_ge (by omega) (by omega)), if_neg (by omega), pp_rd (by omega) (by decide), show pp_i k + 1 = pp_i (k + 1) from pp_add k 1]
    simp only [Option.bind_some]
    rw [pp_wr (by omega) (by decide)]
    simp only [Option.bind_some]
    obtain ⟨μ1, i1, i2, i3, i4⟩ := ih f (k + 1) (g_set μ 10 k (μ 9 k)) (by omega) (by omega)
    refine ⟨μ1, i1, fun i h1 h2 => ?_, fun i h1 => ?_, fun a ha => by rw [i4 a ha, pp_rowN ha]⟩
    · by_cases e : i = k
      · subst e
        rw [i3 i (by omega), pp_set_s]
      · rw [i2 i (by omega) h2, pp_rowN (by decide)]
    · rw [i3 i (by omega), pp_set_n (by omega)]
theorem pp_M_ll {N n : Nat} {s : Nat → Int32} {t wd ch x k : Nat} {w : Nat → Nat} {sc : Int32} {μ : g_M} {acc : pp_PA} {p : List Nat} (hN : 200 ≤ N) (hB : pp_B s) (hw : ∀ o, o < pp_n s → w o < 16) (hwd : wd < 64) (h1 : μ 1 = pp_put s t w sc) (hP : pp_PR μ wd acc) (hp : p.length = k) (hk : k ≤ 4) (h9 : ∀ i, i < k → μ 9 i = pp_i (p.getD i 0)) (hx : x ≤ 5000) (hch : ch ≤ 10) :
    ∃ μ1 : g_M, pp_ll N n (pp_i k) (pp_i x) (pp_i ch) μ = some μ1 ∧ pp_PR μ1 wd (pp_mg acc (pp_sf x ch p (pp_lf (pp_n s) wd w))) ∧ pp_F pp_SQ μ μ1 := by
  obtain ⟨q25, q22, q23, q24, q10, q26, q27, b1, b2, b3⟩ := hP
  have hh : pp_hm (pp_n s) w < 64 := pp_mk_64 hB.2
  unfold pp_ll
  rw [q22, pp_ite (pp_m1_le (by omega) (by omega)), pp_ite (pp_m1_eq (by omega) (by omega)), q23]
  -- the end, alike in each case
  have fin : ∀ (μ2 : g_M) (M C : Nat) (A : List Nat), μ2 1 = pp_put s t w sc → μ2 0 25 = pp_i wd → μ2 0 22 = pp_i M - 1 → μ2 0 23 = pp_i C → μ2 0 24 = pp_i A.length → (∀ i, i < A.length → μ2 10 i = pp_i (A.getD i 0)) → μ2 0 26 = pp_i acc.2.2.2.1 → μ2 0 27 = pp_i acc.2.2.2.2 → M ≤ 10000 → pp_F pp_SQ μ μ2 →
      M = (pp_mg acc (pp_sf x ch p (pp_lf (pp_n s) wd w))).1 → C = (pp_mg acc (pp_sf x ch p (pp_lf (pp_n s) wd w))).2.1 → A = (pp_mg acc (pp_sf x ch p (pp_lf (pp_n s) wd w))).2.2.1 →
      ∃ μ1 : g_M, pp_tl N (pp_i ch) μ2 = some μ1 ∧ pp_PR μ1 wd (pp_mg acc (pp_sf x ch p (pp_lf (pp_n s) wd w))) ∧ pp_F pp_SQ μ μ1 := by
    intro μ2 M C A r1 r25 r22 r23 r24 r10 r26 r27 rM rF eM eC eA
    refine ⟨_, pp_M_tl hN hB hw hwd r1 r25 r26 r27 (by omega) b2, ⟨?_, ?_, ?_, ?_, ?_, ?_, ?_, ?_, ?_, ?_⟩, (rF.trans (pp_F.set (by decide))).trans (pp_F.set (by decide))⟩
    · rw [pp_set_n (by decide), pp_set_n (by decide), r25]
    · rw [pp_set_n (by decide), pp_set_n (by decide), r22, eM]
    · rw [pp_set_n (by decide), pp_set_n (by decide), r23, eC]
    · rw [pp_set_n (by decide), pp_set_n (by decide), r24, eA]
    · intro i hi
      rw [pp_set_n (fun q => absurd q.1 (by decide)), pp_set_n (fun q => absurd q.1 (by decide)), ← eA]
      exact r10 i (by rw [eA]; exact hi)
    · rw [pp_set_s]
      rfl
    · rw [pp_set_n (by decide), pp_set_s]
      rfl
    · rw [← eM]; exact rM
    · unfold pp_mg
      dsimp only
      split <;> omega
    · exact Nat.or_lt_two_pow (n := 6) b3 hh
  have m1 : (pp_sf x ch p (pp_lf (pp_n s) wd w)).1 = 1 + x := rfl
  have m2 : (pp_sf x ch p (pp_lf (pp_n s) wd w)).2.1 = 1 := rfl
  have m3 : (pp_sf x ch p (pp_lf (pp_n s) wd w)).2.2.1 = p := List.append_nil p
  by_cases c1 : x < acc.1
  · rw [if_pos c1]
    by_cases c2 : x + 1 = acc.1
    · rw [if_pos c2]
      simp only [Option.bind_some]
      refine fin _ acc.1 (acc.2.1 + 1) acc.2.2.1 (by rw [pp_rowN (by decide), h1]) (by rw [pp_set_n (by decide), q25]) (by rw [pp_set_n (by decide), q22]) (by rw [pp_set_s]; exact pp_add _ 1) (by rw [pp_set_n (by decide), q24]) (fun i hi => by rw [pp_rowN (by decide), q10 i hi]) (by rw [pp_set_n (by decide), q26]) (by rw [pp_set_n (by decide), q27]) b1 (pp_F.set (by decide)) ?_ ?_ ?_
      · unfold pp_mg; dsimp only; rw [m1, if_neg (by omega)]
      · unfold pp_mg; dsimp only; rw [m1, m2, if_neg (by omega), if_pos (by omega)]
      · unfold pp_mg; dsimp only; rw [m1, if_neg (by omega)]
    · rw [if_neg c2]
      simp only [Option.bind_some]
      refine fin _ acc.1 acc.2.1 acc.2.2.1 (by rw [pp_rowN (by decide), h1]) (by rw [pp_set_n (by decide), q25]) (by rw [pp_set_n (by decide), q22]) (by rw [pp_set_s]; exact Int32.add_zero _) (by rw [pp_set_n (by decide), q24]) (fun i hi => by rw [pp_rowN (by decide), q10 i hi]) (by rw [pp_set_n (by decide), q26]) (by rw [pp_set_n (by decide), q27]) b1 (pp_F.set (by decide)) ?_ ?_ ?_
      · unfold pp_mg; dsimp only; rw [m1, if_neg (by omega)]
      · unfold pp_mg; dsimp only; rw [m1, m2, if_neg (by omega), if_neg (by omega)]
      · unfold pp_mg; dsimp only; rw [m1, if_neg (by omega)]
  · rw [if_neg c1]
    simp only [Option.bind_some]
    obtain ⟨μ5, i1, i2, i3, i4⟩ := pp_M_copyA (N := N) (F := f_X12_plans N n) (a3 := pp_i x) (a4 := pp_i ch) 4 N 0 (g_set (g_set (g_set μ 0 22 (pp_i x)) 0 23 0) 0 24 (pp_i k)) (by omega) (by omega)
    rw [show pp_i 0 = (0 : Int32) from rfl] at i1
    rw [i1]
    simp only [Option.bind_some]
    have z22 : μ5 0 22 = pp_i x := by rw [i4 0 (by decide), pp_set_n (by decide), pp_set_n (by decide), pp_set_s]
    have z23 : μ5 0 23 = 0 := by rw [i4 0 (by decide), pp_set_n (by decide), pp_set_s]
    have z24 : μ5 0 24 = pp_i k := by rw [i4 0 (by decide), pp_set_s]
    have zz : ∀ b, b ≠ 22 → b ≠ 23 → b ≠ 24 → μ5 0 b = μ 0 b := fun b h2 h3 h4 => by rw [i4 0 (by decide), pp_set_n (fun q => h4 q.2), pp_set_n (fun q => h3 q.2), pp_set_n (fun q => h2 q.2)]
    have zr : ∀ a, a ≠ 0 → a ≠ 10 → μ5 a = μ a := fun a h2 h3 => by rw [i4 a h3, pp_rowN h2, pp_rowN h2, pp_rowN h2]
    rw [z22, if_pos rfl, z23]
    refine fin _ (1 + x) 1 p (by rw [pp_rowN (by decide), zr 1 (by decide) (by decide), h1]) (by rw [pp_set_n (by decide), zz 25 (by decide) (by decide) (by decide), q25]) (by rw [pp_set_n (by decide), z22, show (1 : Int32) = pp_i 1 from rfl, pp_sub (by omega), Nat.add_sub_cancel_left]) (by rw [pp_set_s]; rfl) (by rw [pp_set_n (by decide), z24, hp]) (fun i hi => by rw [pp_rowN (by decide), i2 i (by omega) (by omega), pp_rowN (by decide), pp_rowN (by decide), pp_rowN (by decide), h9 i (by omega)]) (by rw [pp_set_n (by decide), zz 26 (by decide) (by decide) (by decide), q26]) (by rw [pp_set_n (by decide), zz 27 (by decide) (by decide) (by decide), q27]) (by omega) ?_ ?_ ?_ ?_
    · refine pp_F.trans ?_ (pp_F.set (by decide))
      intro a b hab
      unfold pp_SQ at hab
      simp only [decide_eq_false_iff_not] at hab
      by_cases ha : a = 0
      · subst ha
        exact zz b (by omega) (by omega) (by omega)
      · rw [zr a ha (by omega)]
    · unfold pp_mg; dsimp only; rw [m1, if_pos (by omega)]
    · unfold pp_mg; dsimp only; rw [m1, m2, if_pos (by omega)]
    · unfold pp_mg; dsimp only; rw [m1, m3, if_pos (by omega)]
