/-! ===== conditions: the reference's long and the class's int both hold a small number ===== -/
/-- one step, on numbers -/
def pp_ns (q : Int32) (c : Bool) (x : Nat) : Nat :=
  if q < 3 then 2 * x + (if c = true then 1 else 0) else if q = 3 then (if x % 2 = 0 then x + 1 else x - 1) else if q = 4 then (if x % 2 = 1 then x / 2 else x / 2 - x / 2 % 2) else (if x % 2 = 1 ∧ x / 2 % 2 = 0 then x / 2 + 1 else x / 2)
/-- the class's step -/
def pp_xs (q : Int32) (c : Bool) (x : Int32) : Int32 :=
  if q > 2 then (if q = 3 then x ^^^ 1 else if q = 4 then (g_ush x 1) &&& ((x &&& 1) ||| (-2)) else (g_ush x 1) ||| (x &&& 1)) else (x <<< (1 &&& 31)) ||| (if c = true then 1 else 0)
def pp_l (n : Nat) : Int64 := Int64.ofNat n
theorem pp_lbv (a : Nat) : (pp_l a).toBitVec = BitVec.ofNat 64 a := rfl
theorem pp_land (a b : Nat) : (pp_l a &&& pp_l b) = pp_l (a &&& b) := by
  apply Int64.toBitVec_inj.mp
  rw [Int64.toBitVec_and, pp_lbv, pp_lbv, pp_lbv, BitVec.ofNat_and]
theorem pp_lor (a b : Nat) : (pp_l a ||| pp_l b) = pp_l (a ||| b) := by
  apply Int64.toBitVec_inj.mp
  rw [Int64.toBitVec_or, pp_lbv, pp_lbv, pp_lbv, BitVec.ofNat_or]
theorem pp_lxor (a b : Nat) : (pp_l a ^^^ pp_l b) = pp_l (a ^^^ b) := by
  apply Int64.toBitVec_inj.mp
  rw [Int64.toBitVec_xor, pp_lbv, pp_lbv, pp_lbv, BitVec.ofNat_xor]
theorem pp_xor (a b : Nat) : (pp_i a ^^^ pp_i b) = pp_i (a ^^^ b) := by
  apply Int32.toBitVec_inj.mp
  rw [Int32.toBitVec_xor, pp_bv, pp_bv, pp_bv, BitVec.ofNat_xor]
theorem pp_ladd (a b : Nat) : pp_l a + pp_l b = pp_l (a + b) := (Int64.ofNat_add a b).symm
theorem pp_lmul (a b : Nat) : pp_l a * pp_l b = pp_l (a * b) := (Int64.ofNat_mul a b).symm
theorem pp_ldiv {a b : Nat} (ha : a < 2 ^ 63) (hb : b < 2 ^ 63) : pp_l a / pp_l b = pp_l (a / b) := (Int64.ofNat_div ha hb).symm
theorem pp_lsub {a b : Nat} (h : b ≤ a) : pp_l a - pp_l b = pp_l (a - b) := (Int64.ofNat_sub a b h).symm
theorem pp_lint {a : Nat} (h : a < 2 ^ 63) : (pp_l a).toInt = (a : Int) := Int64.toInt_ofNat_of_lt h
theorem pp_leq {a b : Nat} (ha : a < 2 ^ 63) (hb : b < 2 ^ 63) : (pp_l a = pp_l b) = (a = b) := by
  rw [← Int64.toInt_inj, pp_lint ha, pp_lint hb]
  exact propext ⟨fun q => by omega, fun q => by omega⟩
theorem pp_xor1 (x : Nat) : x ^^^ 1 = if x % 2 = 0 then x + 1 else x - 1 := by
  have h1 : (x ^^^ 1) / 2 = x / 2 := by
    have := Nat.xor_div_two_pow (a := x) (b := 1) (n := 1)
    rw [show (2 : Nat) ^ 1 = 2 from rfl] at this
    rw [this, show 1 / 2 = 0 from rfl, Nat.xor_zero]
  have h2 : (x ^^^ 1) % 2 = (x + 1) % 2 := by
    have := Nat.xor_mod_two_pow (a := x) (b := 1) (n := 1)
    rw [show (2 : Nat) ^ 1 = 2 from rfl] at this
    rw [this]
    have h3 : x % 2 = 0 ∨ x % 2 = 1 := by omega
    rcases h3 with h3 | h3
    · rw [h3, show (0 : Nat) ^^^ 1 % 2 = 1 from rfl]; omega
    · rw [h3, show (1 : Nat) ^^^ 1 % 2 = 0 from rfl]; omega
  split <;> omega
theorem pp_and1 (x : Nat) : x &&& 1 = x % 2 := Nat.and_one_is_mod x
theorem pp_or1 (x b : Nat) (hb : b < 2) : x ||| b = if b = 1 ∧ x % 2 = 0 then x + 1 else x := by
  have h : b = 0 ∨ b = 1 := by omega
  rcases h with rfl | rfl
  · rw [Nat.or_zero, if_neg (by omega)]
  · have h1 : (x ||| 1) / 2 = x / 2 := by
      have := Nat.or_div_two_pow (a := x) (b := 1) (n := 1)
      rw [show (2 : Nat) ^ 1 = 2 from rfl] at this
      rw [this, show 1 / 2 = 0 from rfl, Nat.or_zero]
    have h2 : (x ||| 1) % 2 = 1 := by
      have := Nat.or_mod_two_pow (a := x) (b := 1) (n := 1)
      rw [show (2 : Nat) ^ 1 = 2 from rfl] at this
      rw [this]
      have h3 : x % 2 = 0 ∨ x % 2 = 1 := by omega
      rcases h3 with h3 | h3 <;> rw [h3] <;> rfl
    split <;> omega
theorem pp_lcmp {a b : Nat} (ha : a < 2 ^ 63) (hb : b < 2 ^ 63) : (lg_cmp (pp_l a) (pp_l b) = 0) = (a = b) := (propext (lg_cmp_eq _ _)).trans (pp_leq ha hb)
theorem pp_andm2 (x : Nat) (h : x < 2 ^ 31) : (pp_l x &&& (-2)) = pp_l (x - x % 2) := by
  have e : (-2 : Int64) = pp_l (2 ^ 64 - 2) := rfl
  rw [e, pp_land]
  apply Int64.toBitVec_inj.mp
  rw [pp_lbv, pp_lbv]
  congr 1
  have h1 : (x &&& (2 ^ 64 - 2)) / 2 = x / 2 := by
    have := Nat.and_div_two_pow (a := x) (b := 2 ^ 64 - 2) (n := 1)
    rw [show (2 : Nat) ^ 1 = 2 from rfl] at this
    rw [this, show (2 ^ 64 - 2) / 2 = 2 ^ 63 - 1 from rfl, Nat.and_two_pow_sub_one_eq_mod]
    exact Nat.mod_eq_of_lt (by omega)
  have h2 : (x &&& (2 ^ 64 - 2)) % 2 = 0 := by
    have := Nat.and_mod_two_pow (a := x) (b := 2 ^ 64 - 2) (n := 1)
    rw [show (2 : Nat) ^ 1 = 2 from rfl] at this
    rw [this, show (2 ^ 64 - 2) % 2 = 0 from rfl, Nat.and_zero]
  omega
theorem pp_st1_n {q : Int32} {c : Bool} {x : Nat} (h : x < 2 ^ 20) : pp_st1 q c (pp_l x) = pp_l (pp_ns q c x) := by
  unfold pp_st1 pp_ns
  have e1 : pp_l x &&& 1 = pp_l (x % 2) := by rw [show (1 : Int64) = pp_l 1 from rfl, pp_land, pp_and1]
  have e2 : pp_l x / 2 = pp_l (x / 2) := pp_ldiv (b := 2) (by omega) (by omega)
  have h2 : x % 2 < 2 := Nat.mod_lt _ (by decide)
  by_cases c1 : q < 3
  · rw [if_pos c1, if_pos c1, show (2 : Int64) = pp_l 2 from rfl, pp_lmul]
    cases c
    · exact pp_ladd _ 0
    · exact pp_ladd _ 1
  · rw [if_neg c1, if_neg c1]
    by_cases c2 : q = 3
    · rw [if_pos c2, if_pos c2, show (1 : Int64) = pp_l 1 from rfl, pp_lxor, pp_xor1]
    · rw [if_neg c2, if_neg c2, e1, e2]
      by_cases c3 : q = 4
      · rw [if_pos c3, if_pos c3, show (1 : Int64) = pp_l 1 from rfl, pp_ite (pp_lcmp (by omega) (by omega))]
        by_cases c4 : x % 2 = 1
        · rw [if_pos c4, if_pos c4]
        · rw [if_neg c4, if_neg c4, pp_andm2 _ (by omega)]
      · rw [if_neg c3, if_neg c3, pp_lor, pp_or1 _ _ h2]
theorem pp_xs_n {q : Int32} {c : Bool} {x : Nat} (h : x < 2 ^ 20) : pp_xs q c (pp_i x) = pp_i (pp_ns q c x) := by
  unfold pp_xs pp_ns
  have e1 : pp_i x &&& 1 = pp_i (x % 2) := by rw [show (1 : Int32) = pp_i 1 from rfl, pp_and, pp_and1]
  have e2 : g_ush (pp_i x) 1 = pp_i (x / 2) := pp_ush (k := 1) (by omega) (by omega)
  have h2 : x % 2 < 2 := Nat.mod_lt _ (by decide)
  have hq : (q > 2) = ¬ (q < 3) := by
    show (2 < q) = _
    rw [Int32.lt_iff_toInt_lt, Int32.lt_iff_toInt_lt]
    have a2 : (2 : Int32).toInt = 2 := rfl
    have a3 : (3 : Int32).toInt = 3 := rfl
    exact propext ⟨fun q => by omega, fun q => by omega⟩
  rw [pp_ite hq]
  by_cases c1 : q < 3
  · rw [if_neg (fun q => q c1), if_pos c1]
    have e3 : (pp_i x <<< ((1 : Int32) &&& 31)) = pp_i (2 * x) := by
      rw [show ((1 : Int32) &&& 31) = 1 from rfl]
      have : pp_i x <<< (1 : Int32) = pp_i x + pp_i x := by
        apply Int32.toBitVec_inj.mp
        rw [Int32.toBitVec_add]
        show (pp_i x).toBitVec <<< ((1 : Int32).toBitVec.smod 32) = _
        rw [show ((1 : Int32).toBitVec.smod 32) = 1#32 from by decide]
        apply BitVec.eq_of_toNat_eq
        rw [BitVec.shiftLeft_eq', BitVec.toNat_shiftLeft, BitVec.toNat_add, show (1#32).toNat = 1 from rfl, Nat.shiftLeft_eq]
        congr 1
        omega
      rw [this, pp_add]
      congr 1
      omega
    rw [e3]
    cases c
    · show pp_i (2 * x) ||| pp_i 0 = _
      rw [pp_or, Nat.or_zero]
      rfl
    · show pp_i (2 * x) ||| pp_i 1 = _
      rw [pp_or, pp_or1 _ _ (by decide), if_pos (by omega)]
      rfl
  · rw [if_pos c1, if_neg c1]
    by_cases c2 : q = 3
    · rw [if_pos c2, if_pos c2, show (1 : Int32) = pp_i 1 from rfl, pp_xor, pp_xor1]
    · rw [if_neg c2, if_neg c2, e1, e2]
      by_cases c3 : q = 4
      · rw [if_pos c3, if_pos c3]
        by_cases c4 : x % 2 = 1
        · rw [if_pos c4, c4, show (pp_i 1 ||| (-2 : Int32)) = pp_i (2 ^ 32 - 1) from rfl, pp_and, Nat.and_two_pow_sub_one_eq_mod, Nat.mod_eq_of_lt (by omega)]
        · rw [if_neg c4, show x % 2 = 0 by omega, show (pp_i 0 ||| (-2 : Int32)) = pp_i (2 ^ 32 - 2) from rfl, pp_and]
          congr 1
          have h1 : (x / 2 &&& (2 ^ 32 - 2)) / 2 = x / 2 / 2 := by
            have := Nat.and_div_two_pow (a := x / 2) (b := 2 ^ 32 - 2) (n := 1)
            rw [show (2 : Nat) ^ 1 = 2 from rfl] at this
            rw [this, show (2 ^ 32 - 2) / 2 = 2 ^ 31 - 1 from rfl, Nat.and_two_pow_sub_one_eq_mod]
            exact Nat.mod_eq_of_lt (by omega)
          have h3 : (x / 2 &&& (2 ^ 32 - 2)) % 2 = 0 := by
            have := Nat.and_mod_two_pow (a := x / 2) (b := 2 ^ 32 - 2) (n := 1)
            rw [show (2 : Nat) ^ 1 = 2 from rfl] at this
            rw [this, show (2 ^ 32 - 2) % 2 = 0 from rfl, Nat.and_zero]
          omega
      · rw [if_neg c3, if_neg c3, pp_or, pp_or1 _ _ h2]
