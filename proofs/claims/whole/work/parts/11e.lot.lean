/-! ===== lots ===== -/
theorem pp_ush16 (z : Int32) : g_ush z 16 = pp_i (z.toUInt32.toNat / 65536) := by
  have h : z.toUInt32 >>> ((16 : Int32).toUInt32 &&& Int32.toUInt32 31) = UInt32.ofNat (z.toUInt32.toNat / 65536) := by
    apply UInt32.toNat_inj.mp
    have h2 := z.toUInt32.toNat_lt
    rw [UInt32.toNat_shiftRight, UInt32.toNat_ofNat', Nat.mod_eq_of_lt (a := z.toUInt32.toNat / 65536) (by omega), show ((16 : Int32).toUInt32 &&& Int32.toUInt32 31).toNat % 32 = 16 by decide, Nat.shiftRight_eq_div_pow]
  unfold g_ush
  rw [h]
  rfl
theorem pp_lotn (z : Int32) {n : Nat} (hn : n ≤ 6) : ∃ k : Nat, k ≤ n ∧ g_rmo (g_ush z 16) (pp_i n + 1) = some (pp_i k) := by
  have h2 := z.toUInt32.toNat_lt
  refine ⟨z.toUInt32.toNat / 65536 % (n + 1), by have := Nat.mod_lt (z.toUInt32.toNat / 65536) (show 0 < n + 1 by omega); omega, ?_⟩
  rw [pp_ush16, show pp_i n + 1 = pp_i (n + 1) from pp_add n 1]
  unfold g_rmo
  rw [if_neg (show ¬ pp_i (n + 1) = (0 : Int32) from fun q => absurd (pp_inj (a := n + 1) (b := 0) (by omega) (by omega) q) (by omega)), pp_rem (by omega) (by omega)]
