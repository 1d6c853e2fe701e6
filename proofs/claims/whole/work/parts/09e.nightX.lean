/-! ===== AWAY of all in one number ===== -/
def pp_pk (w : Nat → Nat) : Nat → Nat
  | 0 => 0
  | n + 1 => pp_pk w n + w n * 16 ^ n
theorem pp_pk_lt {w : Nat → Nat} : ∀ {n : Nat}, (∀ o, o < n → w o < 16) → pp_pk w n < 16 ^ n
  | 0, _ => by simp [pp_pk]
  | n + 1, h => by
    have h1 := pp_pk_lt (w := w) (n := n) (fun o ho => h o (Nat.lt_succ_of_lt ho))
    have h2 := h n (Nat.lt_succ_self n)
    rw [pp_pk, Nat.pow_succ]
    have h3 : w n * 16 ^ n ≤ 15 * 16 ^ n := Nat.mul_le_mul_right _ (by omega)
    omega
theorem pp_pk_24 {w : Nat → Nat} {n : Nat} (hn : n ≤ 6) (h : ∀ o, o < n → w o < 16) : pp_pk w n < 16777216 := by
  have h1 := pp_pk_lt h
  have h2 : 16 ^ n ≤ 16 ^ 6 := Nat.pow_le_pow_right (by decide) hn
  omega
theorem pp_pk_congr {w v : Nat → Nat} : ∀ {n : Nat}, (∀ o, o < n → w o = v o) → pp_pk w n = pp_pk v n
  | 0, _ => rfl
  | n + 1, h => by rw [pp_pk, pp_pk, pp_pk_congr (fun o ho => h o (Nat.lt_succ_of_lt ho)), h n (Nat.lt_succ_self n)]
theorem pp_pk_at {w : Nat → Nat} {o : Nat} : ∀ {n : Nat}, (∀ k, k < n → w k < 16) → pp_pk w n / 16 ^ o % 16 = if o < n then w o else 0
  | 0, _ => by simp [pp_pk]
  | n + 1, h => by
    have hl := pp_pk_lt (w := w) (n := n) (fun o ho => h o (Nat.lt_succ_of_lt ho))
    have ih := pp_pk_at (w := w) (o := o) (n := n) (fun o ho => h o (Nat.lt_succ_of_lt ho))
    have hwn := h n (Nat.lt_succ_self n)
    rw [pp_pk]
    rcases Nat.lt_trichotomy o n with h1 | h1 | h1
    · obtain ⟨k, rfl⟩ : ∃ k, n = o + 1 + k := ⟨n - o - 1, by omega⟩
      have e : w (o + 1 + k) * 16 ^ (o + 1 + k) = 16 ^ o * (16 * (w (o + 1 + k) * 16 ^ k)) := by
        rw [Nat.pow_add, Nat.pow_succ]
        simp only [Nat.mul_comm, Nat.mul_left_comm, Nat.mul_assoc]
      rw [e, Nat.add_mul_div_left _ _ (Nat.pow_pos (by decide)), Nat.add_mul_mod_self_left, ih, if_pos h1, if_pos (by omega)]
    · subst h1
      rw [Nat.add_mul_div_right _ _ (Nat.pow_pos (by decide)), Nat.div_eq_of_lt hl, Nat.zero_add, Nat.mod_eq_of_lt hwn, if_pos (by omega)]
    · have h2 : pp_pk w n + w n * 16 ^ n < 16 ^ o := by
        have h3 := pp_pk_lt h
        rw [pp_pk] at h3
        have h4 : 16 ^ (n + 1) ≤ 16 ^ o := Nat.pow_le_pow_right (by decide) h1
        omega
      rw [Nat.div_eq_of_lt h2, if_neg (by omega)]
theorem pp_pk_up {w : Nat → Nat} {o v : Nat} : ∀ {n : Nat}, o < n → pp_pk (pp_up w o v) n + w o * 16 ^ o = pp_pk w n + v * 16 ^ o
  | 0, h => absurd h (Nat.not_lt_zero _)
  | n + 1, h => by
    rw [pp_pk, pp_pk]
    by_cases e : o = n
    · subst e
      rw [pp_up_s, pp_pk_congr (w := pp_up w o v) (v := w) (fun k hk => pp_up_n (by omega))]
      omega
    · have ih := pp_pk_up (w := w) (o := o) (v := v) (n := n) (by omega)
      rw [pp_up_n (fun q => e q.symm)]
      omega
theorem pp_pk_or {w : Nat → Nat} {o v : Nat} (hv : v < 16) (h0 : w o = 0) : ∀ {n : Nat}, o < n → (∀ k, k < n → w k < 16) → pp_pk w n ||| v * 16 ^ o = pp_pk (pp_up w o v) n
  | 0, h, _ => absurd h (Nat.not_lt_zero _)
  | n + 1, h, hw => by
    have hl := pp_pk_lt (w := w) (n := n) (fun o ho => hw o (Nat.lt_succ_of_lt ho))
    have p16 : ∀ k : Nat, 16 ^ k = 2 ^ (4 * k) := fun k => by rw [Nat.pow_mul]
    have add_or : ∀ (a b k : Nat), a < 16 ^ k → a ||| b * 16 ^ k = a + b * 16 ^ k := by
      intro a b k ha
      have := Nat.two_pow_add_eq_or_of_lt (i := 4 * k) (by rw [← p16]; exact ha) b
      rw [← p16] at this
      rw [Nat.or_comm, Nat.mul_comm b, ← this, Nat.add_comm]
    rw [pp_pk, pp_pk]
    by_cases e : o = n
    · subst e
      rw [h0, Nat.zero_mul, Nat.add_zero, add_or _ _ _ hl, pp_up_s, pp_pk_congr (w := pp_up w o v) (v := w) (fun k hk => pp_up_n (by omega))]
    · have ih := pp_pk_or (w := w) (o := o) (v := v) hv h0 (n := n) (by omega) (fun o ho => hw o (Nat.lt_succ_of_lt ho))
      have hl2 := pp_pk_lt (w := pp_up w o v) (n := n) (fun k hk => by
        unfold pp_up
        split
        · exact hv
        · exact hw k (by omega))
      rw [pp_up_n (fun q => e q.symm), ← add_or _ _ _ hl, ← add_or _ _ _ hl2, ← ih, Nat.or_assoc, Nat.or_comm (w n * 16 ^ n), ← Nat.or_assoc]
theorem pp_bv (a : Nat) : (pp_i a).toBitVec = BitVec.ofNat 32 a := rfl
theorem pp_and (a b : Nat) : (pp_i a &&& pp_i b) = pp_i (a &&& b) := by
  apply Int32.toBitVec_inj.mp
  rw [Int32.toBitVec_and, pp_bv, pp_bv, pp_bv, BitVec.ofNat_and]
theorem pp_or (a b : Nat) : (pp_i a ||| pp_i b) = pp_i (a ||| b) := by
  apply Int32.toBitVec_inj.mp
  rw [Int32.toBitVec_or, pp_bv, pp_bv, pp_bv, BitVec.ofNat_or]
theorem pp_ush32 : ∀ k : Fin 32, ((pp_i k.val).toUInt32 &&& Int32.toUInt32 31) = UInt32.ofNat k.val := by decide +kernel
theorem pp_ush {P k : Nat} (hP : P < 2147483648) (hk : k < 32) : g_ush (pp_i P) (pp_i k) = pp_i (P / 2 ^ k) := by
  unfold g_ush
  rw [pp_ush32 ⟨k, hk⟩]
  apply Int32.toBitVec_inj.mp
  show ((pp_i P).toUInt32 >>> UInt32.ofNat k).toBitVec = _
  rw [pp_bv, UInt32.toBitVec_shiftRight]
  apply BitVec.eq_of_toNat_eq
  have h1 : (UInt32.ofNat k).toBitVec % 32 = BitVec.ofNat 32 k := by
    apply BitVec.eq_of_toNat_eq
    show (BitVec.ofNat 32 k % 32).toNat = _
    rw [BitVec.toNat_umod, BitVec.toNat_ofNat]
    show k % 2 ^ 32 % 32 = _
    omega
  rw [h1, BitVec.ushiftRight_eq', BitVec.toNat_ushiftRight, BitVec.toNat_ofNat, BitVec.toNat_ofNat, Nat.shiftRight_eq_div_pow]
  show (P % 2 ^ 32) / 2 ^ (k % 2 ^ 32) = P / 2 ^ k % 2 ^ 32
  rw [Nat.mod_eq_of_lt (show P < 2 ^ 32 by omega), Nat.mod_eq_of_lt (show k < 2 ^ 32 by omega), Nat.mod_eq_of_lt]
  exact Nat.lt_of_le_of_lt (Nat.div_le_self _ _) (by omega)
theorem pp_aw {P o : Nat} (hP : P < 16777216) (ho : o < 6) : f_X9_awayOf (pp_i P) (pp_i o) = pp_i (P / 16 ^ o % 16) := by
  unfold f_X9_awayOf
  rw [show (4 * pp_i o : Int32) = pp_i (4 * o) from pp_mul 4 o, pp_ush (by omega) (by omega), show (15 : Int32) = pp_i 15 from rfl, pp_and, Nat.pow_mul, show (15 : Nat) = 2 ^ 4 - 1 from rfl, Nat.and_two_pow_sub_one_eq_mod]
theorem pp_awp {w : Nat → Nat} {n o : Nat} (hn : n ≤ 6) (hw : ∀ k, k < n → w k < 16) (ho : o < n) : f_X9_awayOf (pp_i (pp_pk w n)) (pp_i o) = pp_i (w o) := by
  rw [pp_aw (pp_pk_24 hn hw) (by omega), pp_pk_at hw, if_pos ho]
theorem pp_shl4 : ∀ o : Fin 6, ∀ a : Fin 16, (pp_i a.val <<< ((4 * pp_i o.val) &&& 31)) = pp_i (a.val * 16 ^ o.val) := by decide +kernel
/-! ===== the class's night ===== -/
/-- the class's town is as s tells it (the static part) -/
def pp_C (s : Nat → Int32) (μ : g_M) : Prop := μ 1 11 = s 0 ∧ (∀ o, o < pp_n s → μ 9 o = s (8 + 5 * o + 0) ∧ μ 10 o = s (8 + 5 * o + 1) ∧ μ 11 o = s (8 + 5 * o + 2) ∧ μ 12 o = s (8 + 5 * o + 3)) ∧ (∀ o k, o < pp_n s → k < pp_n s → ¬ o = k → μ 13 (o * 6 + k) = pp_ws s o k) ∧ (∀ t o, t ≤ 16 → o < pp_n s → μ 14 (t * 6 + o) = pp_wl s t o)
def pp_Sc (a _b : Nat) : Bool := decide (a = 15)
theorem pp_C.F {s : Nat → Int32} {μ μ1 : g_M} (h : pp_C s μ) (hF : pp_F pp_Sc μ μ1) : pp_C s μ1 := by
  have e : ∀ a, a ≠ 15 → μ1 a = μ a := fun a ha => hF.row (fun b => by simp [pp_Sc, ha])
  unfold pp_C
  rw [e 1 (by decide), e 9 (by decide), e 10 (by decide), e 11 (by decide), e 12 (by decide), e 13 (by decide), e 14 (by decide)]
  exact h
theorem pp_X_home {N : Nat} {s : Nat → Int32} {w : Nat → Nat} {μ : g_M} (hB : pp_B s) (hC : pp_C s μ) (hw : ∀ o, o < pp_n s → w o < 16) : ∀ (m fuel o : Nat), o + m = pp_n s → m < fuel →
    f_X9_homeSet_L4 N fuel (pp_i (pp_pk w (pp_n s))) (pp_i (pp_hm o w)) (pp_i o) μ = some (pp_i (pp_hm (pp_n s) w)) := by
  have hB2 := hB.2
  have h0 : μ 1 11 = pp_i (pp_n s) := hC.1.trans hB.1
  intro m
  induction m with
  | zero =>
    intro fuel o ho hf
    obtain ⟨k, rfl⟩ := pp_fu hf
    rw [f_X9_homeSet_L4, h0, pp_ite (pp_ge (by omega) (by omega)), if_pos (by omega), show o = pp_n s by omega]
  | succ m ih =>
    intro fuel o ho hf
    obtain ⟨f, rfl⟩ := pp_fu hf
    have hlt := hw o (by omega)
    have hih := ih f (o + 1) (by omega) (by omega)
    rw [f_X9_homeSet_L4, h0, pp_ite (pp_ge (by omega) (by omega)), if_neg (by omega), pp_awp hB2 hw (by omega), pp_ite (pp_e0 (by omega)), show pp_i o + 1 = pp_i (o + 1) from pp_add o 1]
    unfold pp_hm at hih ⊢
    rw [pp_mk] at hih
    by_cases c : w o = 0
    · rw [if_pos c, pp_mk_or1 (by omega)]
      rw [if_pos (decide_eq_true c)] at hih
      exact hih
    · rw [if_neg c]
      rw [if_neg (by simpa using c), Nat.add_zero] at hih
      exact hih
theorem pp_X_homeSet {N : Nat} {s : Nat → Int32} {w : Nat → Nat} {μ : g_M} (hN : 200 ≤ N) (hB : pp_B s) (hC : pp_C s μ) (hw : ∀ o, o < pp_n s → w o < 16) : f_X9_homeSet N (pp_i (pp_pk w (pp_n s))) μ = some (pp_i (pp_hm (pp_n s) w)) := by
  have hB2 := hB.2
  have := pp_X_home (N := N) hB hC hw (pp_n s) N 0 (by omega) (by omega)
  unfold f_X9_homeSet
  rw [show pp_i (pp_hm 0 w) = (0 : Int32) from rfl, show pp_i 0 = (0 : Int32) from rfl] at this
  rw [this]
  rfl
theorem pp_X_will {s : Nat → Int32} {t o : Nat} {μ : g_M} (hB2 : pp_n s ≤ 6) (hC : pp_C s μ) (ht : t ≤ 16) (ho : o < pp_n s) : f_X9_willOf (pp_i o) (pp_i t) μ = some (pp_wl s t o) := by
  unfold f_X9_willOf
  simp (disch := omega) only [pp_lit, pp_mul, pp_add, pp_rd, Option.bind_some]
  rw [hC.2.2.2 t o ht ho]
theorem pp_X_wish {s : Nat → Int32} {o k : Nat} {μ : g_M} (hB2 : pp_n s ≤ 6) (hC : pp_C s μ) (ho : o < pp_n s) (hk : k < pp_n s) (h : ¬ o = k) : f_X9_wishOf (pp_i o) (pp_i k) μ = some (pp_ws s o k) := by
  unfold f_X9_wishOf
  simp (disch := omega) only [pp_lit, pp_mul, pp_add, pp_rd, Option.bind_some]
  rw [hC.2.2.1 o k ho hk h]
theorem pp_mk_an : ∀ a : Fin 64, ∀ o : Fin 6, a.val &&& (2 ^ o.val) = if a.val / 2 ^ o.val % 2 = 1 then 2 ^ o.val else 0 := by decide +kernel
theorem pp_sub_tb : ∀ m a j : Fin 64, j.val < 6 → (m.val - (m.val &&& a.val)).testBit j.val = (m.val.testBit j.val && !(a.val.testBit j.val)) := by
  intro m a j hj
  have hm : m.val - (m.val &&& a.val) = m.val ^^^ (m.val &&& a.val) := by
    revert m a; decide +kernel
  rw [hm, Nat.testBit_xor, Nat.testBit_and]
  cases m.val.testBit j.val <;> cases a.val.testBit j.val <;> rfl
/-- a set less another -/
theorem pp_mk_less {p q : Nat → Bool} {n a : Nat} (hn : n ≤ 6) (ha : a < 64) (h : ∀ x, x < n → q x = (p x && decide (a / 2 ^ x % 2 = 0))) : pp_mk p n - (pp_mk p n &&& a) = pp_mk q n := by
  apply Nat.eq_of_testBit_eq
  intro j
  by_cases hj : j < 6
  · have h1 := pp_sub_tb ⟨pp_mk p n, pp_mk_64 hn⟩ ⟨a, ha⟩ ⟨j, by omega⟩ hj
    dsimp only at h1
    rw [h1, pp_mk_tb, pp_mk_tb, Nat.testBit_eq_decide_div_mod_eq]
    by_cases hjn : j < n
    · rw [h j hjn]
      have h2 : a / 2 ^ j % 2 < 2 := Nat.mod_lt _ (by decide)
      by_cases h3 : a / 2 ^ j % 2 = 1
      · simp [h3]
      · have h4 : a / 2 ^ j % 2 = 0 := by omega
        simp [h4, hjn]
    · simp [hjn]
  · rw [Nat.testBit_lt_two_pow, Nat.testBit_lt_two_pow]
    · exact Nat.lt_of_lt_of_le (pp_mk_64 (p := q) hn) (Nat.pow_le_pow_right (n := 2) (by decide) (show 6 ≤ j by omega))
    · exact Nat.lt_of_le_of_lt (Nat.sub_le _ _) (Nat.lt_of_lt_of_le (pp_mk_64 (p := p) hn) (Nat.pow_le_pow_right (n := 2) (by decide) (show 6 ≤ j by omega)))
theorem pp_not_lit (a : Int32) : (a ^^^ (-1)) = (a ^^^ (-(pp_i 1))) := rfl
theorem pp_X_freeL {N : Nat} {s : Nat → Int32} {t : Nat} {μ : g_M} {p : Nat → Bool} (hB : pp_B s) (hC : pp_C s μ) (ht : t ≤ 16) : ∀ (m fuel o : Nat), o + m = pp_n s → m < fuel →
    f_X9_freeSet_L14 N fuel (pp_i t) (pp_i (pp_mk (fun x => p x && (decide (o ≤ x) || decide (¬ pp_wl s t x = 1))) (pp_n s))) (pp_i o) μ = some (pp_i (pp_mk (fun x => p x && decide (¬ pp_wl s t x = 1)) (pp_n s))) := by
  have hB2 := hB.2
  have h0 : μ 1 11 = pp_i (pp_n s) := hC.1.trans hB.1
  intro m
  induction m with
  | zero =>
    intro fuel o ho hf
    obtain ⟨k, rfl⟩ := pp_fu hf
    rw [f_X9_freeSet_L14, h0, pp_ite (pp_ge (by omega) (by omega)), if_pos (by omega)]
    congr 2
    refine pp_mk_congr (fun x hx => ?_)
    rw [decide_eq_false (show ¬ o ≤ x by omega), Bool.false_or]
  | succ m ih =>
    intro fuel o ho hf
    obtain ⟨f, rfl⟩ := pp_fu hf
    have hih := ih f (o + 1) (by omega) (by omega)
    rw [f_X9_freeSet_L14, h0, pp_ite (pp_ge (by omega) (by omega)), if_neg (by omega), pp_X_will hB2 hC ht (by omega), show pp_i o + 1 = pp_i (o + 1) from pp_add o 1]
    simp only [Option.bind_some]
    by_cases c : pp_wl s t o = 1
    · rw [if_pos c]
      have e1 : ((1 : Int32) <<< (pp_i o &&& 31)) = pp_i (2 ^ o) := pp_bit_shl ⟨o, by omega⟩
      have b1 : 2 ^ o < 64 := Nat.pow_lt_pow_right (a := 2) (n := 6) (by decide) (by omega)
      have e2 := pp_bit_an ⟨2 ^ o, b1⟩ ⟨pp_mk (fun x => p x && (decide (o ≤ x) || decide (¬ pp_wl s t x = 1))) (pp_n s), pp_mk_64 hB2⟩
      dsimp only at e2
      rw [e1, pp_not_lit, e2, pp_mk_less hB2 b1 (q := fun x => p x && (decide (o + 1 ≤ x) || decide (¬ pp_wl s t x = 1)))]
      · exact hih
      · intro x hx
        have h3 : 2 ^ o / 2 ^ x % 2 = if x = o then 1 else 0 := by
          have h6 := Nat.testBit_two_pow (n := o) (m := x)
          rw [Nat.testBit_eq_decide_div_mod_eq, decide_eq_decide] at h6
          have h5 : 2 ^ o / 2 ^ x % 2 < 2 := Nat.mod_lt _ (by decide)
          by_cases e : x = o
          · rw [if_pos e]
            exact h6.mpr e.symm
          · rw [if_neg e]
            have h7 : ¬ 2 ^ o / 2 ^ x % 2 = 1 := fun q => e (h6.mp q).symm
            omega
        rw [h3]
        by_cases e : x = o
        · subst e
          rw [if_pos rfl, decide_eq_false (show ¬ x + 1 ≤ x by omega), c]
          simp
        · rw [if_neg e]
          have h4 : decide (o ≤ x) = decide (o + 1 ≤ x) := by rw [decide_eq_decide]; omega
          rw [h4]
          simp
    · rw [if_neg c]
      refine Eq.trans ?_ hih
      congr 2
      refine pp_mk_congr (fun x hx => ?_)
      by_cases e : x = o
      · subst e
        rw [decide_eq_true c]
        simp
      · have h4 : decide (o ≤ x) = decide (o + 1 ≤ x) := by rw [decide_eq_decide]; omega
        rw [h4]
theorem pp_X_free {N : Nat} {s : Nat → Int32} {t c : Nat} {w : Nat → Nat} {μ : g_M} (hN : 200 ≤ N) (hB : pp_B s) (hC : pp_C s μ) (ht : t ≤ 16) (hc : c < 64) (hw : ∀ o, o < pp_n s → w o < 16) :
    f_X9_freeSet N (pp_i (pp_pk w (pp_n s))) (pp_i t) (pp_i c) μ = some (pp_i (pp_mk (pp_fr s t w c) (pp_n s))) := by
  have hB2 := hB.2
  have e2 := pp_bit_an ⟨c, hc⟩ ⟨pp_hm (pp_n s) w, pp_mk_64 hB2⟩
  dsimp only at e2
  have e3 := pp_X_freeL (N := N) (p := fun x => decide (w x = 0) && decide (c / 2 ^ x % 2 = 0)) hB hC ht (pp_n s) N 0 (by omega) (by omega)
  unfold f_X9_freeSet
  rw [pp_X_homeSet hN hB hC hw]
  simp only [Option.bind_some]
  rw [pp_not_lit, e2]
  unfold pp_hm
  rw [pp_mk_less hB2 hc (q := fun x => decide (w x = 0) && decide (c / 2 ^ x % 2 = 0)) (fun x hx => rfl)]
  rw [show pp_i 0 = (0 : Int32) from rfl] at e3
  have e4 : pp_mk (fun x => decide (w x = 0) && decide (c / 2 ^ x % 2 = 0)) (pp_n s) = pp_mk (fun x => (fun x => decide (w x = 0) && decide (c / 2 ^ x % 2 = 0)) x && (decide (0 ≤ x) || decide (¬ pp_wl s t x = 1))) (pp_n s) := pp_mk_congr (fun x hx => by simp)
  rw [e4, e3]
  simp only [Option.bind_some]
  congr 2
  refine pp_mk_congr (fun x hx => ?_)
  unfold pp_fr
  by_cases a1 : w x = 0 <;> by_cases a2 : c / 2 ^ x % 2 = 0 <;> by_cases a3 : pp_wl s t x = 1 <;> simp [a1, a2, a3]
