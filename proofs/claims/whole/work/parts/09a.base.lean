/-! ===== numbers: Int32 that are small naturals ===== -/
def pp_i (n : Nat) : Int32 := Int32.ofNat n
theorem pp_lit (n : Nat) : (no_index (OfNat.ofNat n) : Int32) = pp_i (OfNat.ofNat n) := rfl
theorem pp_add (a b : Nat) : pp_i a + pp_i b = pp_i (a + b) := (Int32.ofNat_add a b).symm
theorem pp_mul (a b : Nat) : pp_i a * pp_i b = pp_i (a * b) := (Int32.ofNat_mul a b).symm
theorem pp_sub {a b : Nat} (h : b ≤ a) : pp_i a - pp_i b = pp_i (a - b) := (Int32.ofNat_sub a b h).symm
theorem pp_int {a : Nat} (h : a < 2147483648) : (pp_i a).toInt = (a : Int) := Int32.toInt_ofNat_of_lt h
theorem pp_nat {a : Nat} (h : a < 2147483648) : (pp_i a).toNatClampNeg = a := Int32.toNatClampNeg_ofNat_of_lt h
theorem pp_lt {a b : Nat} (ha : a < 2147483648) (hb : b < 2147483648) : (pp_i a < pp_i b) = (a < b) := propext (Int32.ofNat_lt_iff_lt ha hb)
theorem pp_le {a b : Nat} (ha : a < 2147483648) (hb : b < 2147483648) : (pp_i a ≤ pp_i b) = (a ≤ b) := propext (Int32.ofNat_le_iff_le ha hb)
theorem pp_ge {a b : Nat} (ha : a < 2147483648) (hb : b < 2147483648) : (pp_i a ≥ pp_i b) = (b ≤ a) := pp_le hb ha
theorem pp_gt {a b : Nat} (ha : a < 2147483648) (hb : b < 2147483648) : (pp_i a > pp_i b) = (b < a) := pp_lt hb ha
theorem pp_inj {a b : Nat} (ha : a < 2147483648) (hb : b < 2147483648) (h : pp_i a = pp_i b) : a = b := by
  have h1 := congrArg Int32.toNatClampNeg h
  rwa [pp_nat ha, pp_nat hb] at h1
theorem pp_eq {a b : Nat} (ha : a < 2147483648) (hb : b < 2147483648) : (pp_i a = pp_i b) = (a = b) := propext ⟨pp_inj ha hb, fun h => h ▸ rfl⟩
theorem pp_e0 {a : Nat} (ha : a < 2147483648) : (pp_i a = (0 : Int32)) = (a = 0) := pp_eq (b := 0) ha (by decide)
theorem pp_e1 {a : Nat} (ha : a < 2147483648) : (pp_i a = (1 : Int32)) = (a = 1) := pp_eq (b := 1) ha (by decide)
theorem pp_div {a b : Nat} (ha : a < 2147483648) (hb : b < 2147483648) : pp_i a / pp_i b = pp_i (a / b) := (Int32.ofNat_div ha hb).symm
theorem pp_back {x : Int32} (h : 0 ≤ x) : pp_i x.toNatClampNeg = x := Int32.ofNat_toNatClampNeg x h
theorem pp_lo {x : Int32} : x.toNatClampNeg < 2147483648 := Int32.toNatClampNeg_lt x
/-- a value between two -/
theorem pp_of {x : Int32} {lo hi : Nat} (h1 : pp_i lo ≤ x) (h2 : x ≤ pp_i hi) (hh : hi < 2147483648) (hl : lo < 2147483648) : ∃ k : Nat, lo ≤ k ∧ k ≤ hi ∧ x = pp_i k := by
  have h3 := Int32.le_iff_toInt_le.mp h1
  have h4 := Int32.le_iff_toInt_le.mp h2
  rw [pp_int hl] at h3
  rw [pp_int hh] at h4
  have h0 : (0 : Int32) ≤ x := Int32.le_iff_toInt_le.mpr (by
    show (pp_i 0).toInt ≤ _
    rw [pp_int (by decide)]
    omega)
  have h5 := pp_back h0
  refine ⟨x.toNatClampNeg, ?_, ?_, h5.symm⟩
  · have : x.toInt = (x.toNatClampNeg : Int) := by
      conv => lhs; rw [← h5]
      rw [pp_int pp_lo]
    omega
  · have : x.toInt = (x.toNatClampNeg : Int) := by
      conv => lhs; rw [← h5]
      rw [pp_int pp_lo]
    omega
theorem pp_ite {α : Type} {c d : Prop} [Decidable c] [Decidable d] {A B : α} (h : c = d) : (if c then A else B) = if d then A else B := by
  by_cases hc : c
  · rw [if_pos hc, if_pos (h ▸ hc)]
  · rw [if_neg hc, if_neg (h ▸ hc)]
/-! ===== cells ===== -/
theorem pp_rd {μ : g_M} {a n j : Nat} (h : j < n) (hn : n ≤ 2147483648) : g_rd μ a n (pp_i j) = some (μ a j) := by
  have h1 : (pp_i j).toNatClampNeg = j := pp_nat (by omega)
  have h2 : ¬ (pp_i j < 0) := by
    show ¬ (pp_i j < pp_i 0)
    rw [pp_lt (by omega) (by omega)]
    omega
  unfold g_rd
  rw [h1, if_neg (fun q => q.elim h2 (fun q => absurd h (Nat.not_lt.mpr q)))]
theorem pp_wr {μ : g_M} {a n j : Nat} {x : Int32} (h : j < n) (hn : n ≤ 2147483648) : g_wr μ a n (pp_i j) x = some (g_set μ a j x) := by
  have h1 : (pp_i j).toNatClampNeg = j := pp_nat (by omega)
  have h2 : ¬ (pp_i j < 0) := by
    show ¬ (pp_i j < pp_i 0)
    rw [pp_lt (by omega) (by omega)]
    omega
  unfold g_wr
  rw [h1, if_neg (fun q => q.elim h2 (fun q => absurd h (Nat.not_lt.mpr q)))]
/-- a row with one item another -/
def pp_up {α : Type} (f : Nat → α) (b : Nat) (v : α) : Nat → α := fun j => if j = b then v else f j
theorem pp_up_s {α : Type} {f : Nat → α} {b : Nat} {v : α} : pp_up f b v b = v := if_pos rfl
theorem pp_up_n {α : Type} {f : Nat → α} {b j : Nat} {v : α} (h : j ≠ b) : pp_up f b v j = f j := if_neg h
theorem pp_row {μ : g_M} {a b : Nat} {v : Int32} : g_set μ a b v a = pp_up (μ a) b v := by
  funext j
  unfold g_set pp_up
  by_cases h : j = b
  · rw [if_pos h, if_pos ⟨rfl, h⟩]
  · rw [if_neg h, if_neg (fun q => h q.2)]
theorem pp_rowN {μ : g_M} {a b i : Nat} {v : Int32} (h : i ≠ a) : g_set μ a b v i = μ i := by
  funext j
  unfold g_set
  rw [if_neg (fun q => h q.1)]
theorem pp_set_s {μ : g_M} {a b : Nat} {v : Int32} : g_set μ a b v a b = v := if_pos ⟨rfl, rfl⟩
theorem pp_set_n {μ : g_M} {a b i j : Nat} {v : Int32} (h : ¬ (i = a ∧ j = b)) : g_set μ a b v i j = μ i j := if_neg h
/-- only cells of S are another's -/
def pp_F (S : Nat → Nat → Bool) (μ μ1 : g_M) : Prop := ∀ a b : Nat, S a b = false → μ1 a b = μ a b
theorem pp_F.refl {S : Nat → Nat → Bool} {μ : g_M} : pp_F S μ μ := fun _ _ _ => rfl
theorem pp_F.trans {S : Nat → Nat → Bool} {μ μ1 μ2 : g_M} (h : pp_F S μ μ1) (h2 : pp_F S μ1 μ2) : pp_F S μ μ2 := fun a b q => (h2 a b q).trans (h a b q)
theorem pp_F.mono {S S2 : Nat → Nat → Bool} {μ μ1 : g_M} (h : pp_F S μ μ1) (hs : ∀ a b, S2 a b = false → S a b = false) : pp_F S2 μ μ1 := fun a b q => h a b (hs a b q)
theorem pp_F.set {S : Nat → Nat → Bool} {μ : g_M} {a b : Nat} {v : Int32} (h : S a b = true) : pp_F S μ (g_set μ a b v) := fun i j q => pp_set_n (fun e => by rw [e.1, e.2, h] at q; cases q)
theorem pp_F.row {S : Nat → Nat → Bool} {μ μ1 : g_M} {a : Nat} (h : pp_F S μ μ1) (hs : ∀ b, S a b = false) : μ1 a = μ a := funext fun b => h a b (hs b)
/-! ===== bits ===== -/
theorem pp_bit_or : ∀ o : Fin 6, ∀ m : Fin 64, (pp_i m.val ||| (pp_i 1 <<< (pp_i o.val &&& pp_i 31))) = pp_i (m.val ||| 2 ^ o.val) := by decide +kernel
theorem pp_bit_at : ∀ o : Fin 7, ∀ m : Fin 64, ((pp_i m.val >>> (pp_i o.val &&& pp_i 31)) &&& pp_i 1) = pp_i (m.val / 2 ^ o.val % 2) := by decide +kernel
theorem pp_bit_shl : ∀ o : Fin 7, (pp_i 1 <<< (pp_i o.val &&& pp_i 31)) = pp_i (2 ^ o.val) := by decide +kernel
theorem pp_bit_cl : ∀ o : Fin 7, ∀ m : Fin 64, (pp_i m.val &&& ((pp_i 1 <<< (pp_i o.val &&& pp_i 31)) ^^^ (-(pp_i 1)))) = pp_i (if m.val / 2 ^ o.val % 2 = 1 then m.val - 2 ^ o.val else m.val) := by decide +kernel
theorem pp_bit_an : ∀ a : Fin 64, ∀ m : Fin 64, (pp_i m.val &&& (pp_i a.val ^^^ (-(pp_i 1)))) = pp_i (m.val - (m.val &&& a.val)) := by decide +kernel
theorem pp_bit_oo : ∀ a : Fin 64, ∀ m : Fin 64, (pp_i m.val ||| pp_i a.val) = pp_i (m.val ||| a.val) := by decide +kernel
theorem pp_bit_aa : ∀ a : Fin 64, ∀ m : Fin 64, (pp_i m.val &&& pp_i a.val) = pp_i (m.val &&& a.val) := by decide +kernel
/-- a set of numbers below n, as bits -/
def pp_mk (p : Nat → Bool) : Nat → Nat
  | 0 => 0
  | n + 1 => pp_mk p n + (if p n = true then 2 ^ n else 0)
theorem pp_mk_lt (p : Nat → Bool) : ∀ n : Nat, pp_mk p n < 2 ^ n
  | 0 => by simp [pp_mk]
  | n + 1 => by
    have := pp_mk_lt p n
    rw [pp_mk, Nat.pow_succ]
    split <;> omega
theorem pp_mk_at (p : Nat → Bool) (o : Nat) : ∀ n : Nat, pp_mk p n / 2 ^ o % 2 = if o < n ∧ p o = true then 1 else 0
  | 0 => by simp [pp_mk]
  | n + 1 => by
    have ih := pp_mk_at p o n
    have hl := pp_mk_lt p n
    rw [pp_mk]
    rcases Nat.lt_trichotomy o n with h | h | h
    · have h1 : ∃ k, n = o + 1 + k := ⟨n - o - 1, by omega⟩
      obtain ⟨k, rfl⟩ := h1
      have e : (if p (o + 1 + k) = true then 2 ^ (o + 1 + k) else 0) = 2 ^ o * (2 * (if p (o + 1 + k) = true then 2 ^ k else 0)) := by
        split
        · rw [Nat.pow_add, Nat.pow_succ, Nat.mul_assoc]
        · simp
      rw [e, Nat.add_mul_div_left _ _ (Nat.two_pow_pos o), Nat.add_mul_mod_self_left, ih]
      have h2 : (o < o + 1 + k) = True := by simp; omega
      have h3 : (o < o + 1 + k + 1) = True := by simp; omega
      simp only [h2, h3]
    · subst h
      split
      · rename_i hp
        rw [Nat.add_div_right _ (Nat.two_pow_pos o), Nat.div_eq_of_lt hl]
        simp [hp]
      · rename_i hp
        rw [Nat.add_zero, Nat.div_eq_of_lt hl]
        simp [hp]
    · have h1 : pp_mk p n + (if p n = true then 2 ^ n else 0) < 2 ^ o := by
        have h2 : 2 ^ (n + 1) ≤ 2 ^ o := Nat.pow_le_pow_right (by decide) h
        have h3 := pp_mk_lt p (n + 1)
        rw [pp_mk] at h3
        omega
      rw [Nat.div_eq_of_lt h1]
      have h2 : ¬ (o < n + 1) := by omega
      simp [h2]
theorem pp_mk_congr {p q : Nat → Bool} : ∀ {n : Nat}, (∀ o, o < n → p o = q o) → pp_mk p n = pp_mk q n
  | 0, _ => rfl
  | n + 1, h => by rw [pp_mk, pp_mk, pp_mk_congr (fun o ho => h o (Nat.lt_succ_of_lt ho)), h n (Nat.lt_succ_self n)]
