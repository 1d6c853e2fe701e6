/-! ===== the law's loop ===== -/
theorem gl_and63 (x : Int32) : ∃ n : Nat, n < 64 ∧ x &&& 63 = pp_i n := by
  have h : (x &&& 63).toBitVec.toNat ≤ 63 := by
    rw [Int32.toBitVec_and, BitVec.toNat_and]
    exact Nat.and_le_right
  refine ⟨(x &&& 63).toBitVec.toNat, by omega, ?_⟩
  apply Int32.toInt_inj.mp
  rw [pp_int (by omega)]
  show (x &&& 63).toBitVec.toInt = _
  rw [BitVec.toInt_eq_toNat_of_lt (by omega)]
theorem gl_sub5 {L : Nat} (hL : L ≤ 2560) : (Int32.ofNat L - 5).toInt = (L : Int) - 5 := by
  by_cases h : 5 ≤ L
  · have e : Int32.ofNat L - 5 = pp_i (L - 5) := pp_sub (a := L) (b := 5) h
    rw [e, pp_int (by omega)]
    omega
  · have : L = 0 ∨ L = 1 ∨ L = 2 ∨ L = 3 ∨ L = 4 := by omega
    rcases this with rfl | rfl | rfl | rfl | rfl <;> decide
theorem gl_vp {n L : Nat} (h : n < L) (hL : L ≤ 2560) : vp_in (pp_i n) L := by
  rintro (q | q)
  · rw [Int32.lt_iff_toInt_lt, pp_int (by omega)] at q
    have q' : (n : Int) < 0 := q
    omega
  · rw [pp_nat (by omega)] at q
    omega
theorem gl_inn {j L : Nat} (h : 5 * j + 5 ≤ L) (hL : L ≤ 2560) : gl_in (pp_i (5 * j)) L := by
  have e : ∀ a : Nat, pp_i (5 * j) + pp_i a = pp_i (5 * j + a) := fun a => pp_add _ _
  refine ⟨gl_vp (by omega) hL, ?_, ?_, ?_, ?_⟩
  · rw [show pp_i (5 * j) + 1 = pp_i (5 * j + 1) from e 1]
    exact gl_vp (by omega) hL
  · rw [show pp_i (5 * j) + 2 = pp_i (5 * j + 2) from e 2]
    exact gl_vp (by omega) hL
  · rw [show pp_i (5 * j) + 3 = pp_i (5 * j + 3) from e 3]
    exact gl_vp (by omega) hL
  · rw [show pp_i (5 * j) + 4 = pp_i (5 * j + 4) from e 4]
    exact gl_vp (by omega) hL
section GP
variable {p : Program} {l : Launch} {e : Env} {s : State} {m : MethodId} {below : List Frame} {meth : Method} {c : Code} {sb L : Nat} {xs : Nat → Int32} {D : va_G} {cA : Nat → ClassId}
theorem gl_switch {H : Heap} {cells slots k n : Nat} {i : Int32} {μX μM : g_M} (hn : n < 64) (C0 : lw_At p s m meth c sb L xs) (hF0 : gl_F D cA s) (hI : gl_I D cA s k μX μM H) (hb : cells + 5 ≤ 600000 ∧ slots + 630 ≤ 7302250) (hi : gl_in i L) (hkk : gl_K2 p l e s m below meth c sb D cA i cells slots) : gl_W p l e s m below meth c sb H cells slots 32 (gl_ls sb s.heap.size i) [.int (pp_i n)] := by
  match n, hn with
  | 0, _ => exact gl_tabIn (off := 216) 248 C0 dL_32 (by decide) (by decide) (by decide +kernel) (by decide) (gl_case_oven C0 hF0 hI hb hi hkk)
  | 1, _ => exact gl_tabIn (off := 269) 301 C0 dL_32 (by decide) (by decide) (by decide +kernel) (by decide) (gl_case_ovenOf C0 hF0 hI hb hi hkk)
  | 2, _ => exact gl_tabIn (off := 302) 334 C0 dL_32 (by decide) (by decide) (by decide +kernel) (by decide) (gl_case_change C0 hF0 hI hb hi hkk)
  | 3, _ => exact gl_tabIn (off := 345) 377 C0 dL_32 (by decide) (by decide) (by decide +kernel) (by decide) (gl_case_remake C0 hF0 hI hb hi hkk)
  | 4, _ => exact gl_tabIn (off := 378) 410 C0 dL_32 (by decide) (by decide) (by decide +kernel) (by decide) (gl_case_longing C0 hF0 hI hb hi hkk)
  | 5, _ => exact gl_tabIn (off := 411) 443 C0 dL_32 (by decide) (by decide) (by decide +kernel) (by decide) (gl_case_ends C0 hF0 hI hb hi hkk)
  | 6, _ => exact gl_tabIn (off := 434) 466 C0 dL_32 (by decide) (by decide) (by decide +kernel) (by decide) (gl_case_anew C0 hF0 hI hb hi hkk)
  | 7, _ => exact gl_tabIn (off := 447) 479 C0 dL_32 (by decide) (by decide) (by decide +kernel) (by decide) (gl_case_state C0 hF0 hI hb hi hkk)
  | 8, _ => exact gl_tabIn (off := 470) 502 C0 dL_32 (by decide) (by decide) (by decide +kernel) (by decide) (gl_case_feed C0 hF0 hI hb hi hkk)
  | 9, _ => exact gl_tabIn (off := 533) 565 C0 dL_32 (by decide) (by decide) (by decide +kernel) (by decide) (gl_case_rules C0 hF0 hI hb hi hkk)
  | 10, _ => exact gl_tabIn (off := 546) 578 C0 dL_32 (by decide) (by decide) (by decide +kernel) (by decide) (gl_case_night C0 hF0 hI hb hi hkk)
  | 11, _ => exact gl_tabIn (off := 559) 591 C0 dL_32 (by decide) (by decide) (by decide +kernel) (by decide) (gl_case_on C0 hF0 hI hb hi hkk)
  | 12, _ => exact gl_tabIn (off := 582) 614 C0 dL_32 (by decide) (by decide) (by decide +kernel) (by decide) (gl_case_goes C0 hF0 hI hb hi hkk)
  | 13, _ => exact gl_tabIn (off := 605) 637 C0 dL_32 (by decide) (by decide) (by decide +kernel) (by decide) (gl_case_often C0 hF0 hI hb hi hkk)
  | 14, _ => exact gl_tabIn (off := 628) 660 C0 dL_32 (by decide) (by decide) (by decide +kernel) (by decide) (gl_case_placeFor C0 hF0 hI hb hi hkk)
  | 15, _ => exact gl_tabIn (off := 651) 683 C0 dL_32 (by decide) (by decide) (by decide +kernel) (by decide) (gl_case_warmFor C0 hF0 hI hb hi hkk)
  | 16, _ => exact gl_tabIn (off := 674) 706 C0 dL_32 (by decide) (by decide) (by decide +kernel) (by decide) (gl_case_pairs C0 hF0 hI hb hi hkk)
  | 17, _ => exact gl_tabIn (off := 687) 719 C0 dL_32 (by decide) (by decide) (by decide +kernel) (by decide) (gl_case_weddings C0 hF0 hI hb hi hkk)
  | 18, _ => exact gl_tabIn (off := 710) 742 C0 dL_32 (by decide) (by decide) (by decide +kernel) (by decide) (gl_case_mate C0 hF0 hI hb hi hkk)
  | 19, _ => exact gl_tabIn (off := 733) 765 C0 dL_32 (by decide) (by decide) (by decide +kernel) (by decide) (gl_case_chains C0 hF0 hI hb hi hkk)
  | 20, _ => exact gl_tabIn (off := 756) 788 C0 dL_32 (by decide) (by decide) (by decide +kernel) (by decide) (gl_case_best C0 hF0 hI hb hi hkk)
  | 21, _ => exact gl_tabIn (off := 779) 811 C0 dL_32 (by decide) (by decide) (by decide +kernel) (by decide) (gl_case_ith C0 hF0 hI hb hi hkk)
  | 22, _ => exact gl_tabIn (off := 812) 844 C0 dL_32 (by decide) (by decide) (by decide +kernel) (by decide) (gl_case_ways C0 hF0 hI hb hi hkk)
  | 23, _ => exact gl_tabIn (off := 835) 867 C0 dL_32 (by decide) (by decide) (by decide +kernel) (by decide) (gl_case_kept C0 hF0 hI hb hi hkk)
  | 24, _ => exact gl_tabIn (off := 868) 900 C0 dL_32 (by decide) (by decide) (by decide +kernel) (by decide) (gl_case_bars C0 hF0 hI hb hi hkk)
  | 25, _ => exact gl_tabIn (off := 901) 933 C0 dL_32 (by decide) (by decide) (by decide +kernel) (by decide) (gl_case_game C0 hF0 hI hb hi hkk)
  | 26, _ => exact gl_tabIn (off := 924) 956 C0 dL_32 (by decide) (by decide) (by decide +kernel) (by decide) (gl_case_play C0 hF0 hI hb hi hkk)
  | 27, _ => exact gl_tabIn (off := 947) 979 C0 dL_32 (by decide) (by decide) (by decide +kernel) (by decide) (gl_case_report C0 hF0 hI hb hi hkk)
  | 28, _ => exact gl_tabIn (off := 1000) 1032 C0 dL_32 (by decide) (by decide) (by decide +kernel) (by decide) (gl_case_forget C0 hF0 hI hb hi hkk)
  | 29, _ => exact gl_tabIn (off := 1013) 1045 C0 dL_32 (by decide) (by decide) (by decide +kernel) (by decide) (gl_case_span C0 hF0 hI hb hi hkk)
  | 30, _ => exact gl_tabIn (off := 1036) 1068 C0 dL_32 (by decide) (by decide) (by decide +kernel) (by decide) (gl_case_liar C0 hF0 hI hb hi hkk)
  | 31, _ => exact gl_tabIn (off := 1049) 1081 C0 dL_32 (by decide) (by decide) (by decide +kernel) (by decide) (gl_case_seed C0 hF0 hI hb hi hkk)
  | 32, _ => exact gl_tabIn (off := 1072) 1104 C0 dL_32 (by decide) (by decide) (by decide +kernel) (by decide) (gl_case_lot C0 hF0 hI hb hi hkk)
  | 33, _ => exact gl_tabIn (off := 1085) 1117 C0 dL_32 (by decide) (by decide) (by decide +kernel) (by decide) (gl_case_times C0 hF0 hI hb hi hkk)
  | 34, _ => exact gl_tabIn (off := 1118) 1150 C0 dL_32 (by decide) (by decide) (by decide +kernel) (by decide) (gl_case_prove C0 hF0 hI hb hi hkk)
  | 35, _ => exact gl_tabIn (off := 1141) 1173 C0 dL_32 (by decide) (by decide) (by decide +kernel) (by decide) (gl_case_row C0 hF0 hI hb hi hkk)
  | 36, _ => exact gl_tabIn (off := 1174) 1206 C0 dL_32 (by decide) (by decide) (by decide +kernel) (by decide) (gl_case_alterRow C0 hF0 hI hb hi hkk)
  | 37, _ => exact gl_tabIn (off := 1217) 1249 C0 dL_32 (by decide) (by decide) (by decide +kernel) (by decide) (gl_case_judge C0 hF0 hI hb hi hkk)
  | 38, _ => exact gl_tabIn (off := 1230) 1262 C0 dL_32 (by decide) (by decide) (by decide +kernel) (by decide) (gl_case_sheet C0 hF0 hI hb hi hkk)
  | 39, _ => exact gl_tabIn (off := 1273) 1305 C0 dL_32 (by decide) (by decide) (by decide +kernel) (by decide) (gl_case_write C0 hF0 hI hb hi hkk)
  | 40, _ => exact gl_tabIn (off := 1316) 1348 C0 dL_32 (by decide) (by decide) (by decide +kernel) (by decide) (gl_case_item C0 hF0 hI hb hi hkk)
  | 41, _ => exact gl_tabIn (off := 1359) 1391 C0 dL_32 (by decide) (by decide) (by decide +kernel) (by decide) (gl_case_goAll C0 hF0 hI hb hi hkk)
  | 42, _ => exact gl_tabIn (off := 1402) 1434 C0 dL_32 (by decide) (by decide) (by decide +kernel) (by decide) (gl_case_wouldBe C0 hF0 hI hb hi hkk)
  | 43, _ => exact gl_tabIn (off := 1445) 1477 C0 dL_32 (by decide) (by decide) (by decide +kernel) (by decide) (gl_case_shelf C0 hF0 hI hb hi hkk)
  | 44, _ => exact gl_tabIn (off := 1488) 1520 C0 dL_32 (by decide) (by decide) (by decide +kernel) (by decide) (gl_case_taken C0 hF0 hI hb hi hkk)
  | 45, _ => exact gl_tabIn (off := 1521) 1553 C0 dL_32 (by decide) (by decide) (by decide +kernel) (by decide) (gl_case_act C0 hF0 hI hb hi hkk)
  | 46, _ => exact gl_tabIn (off := 1564) 1596 C0 dL_32 (by decide) (by decide) (by decide +kernel) (by decide) (gl_case_trace C0 hF0 hI hb hi hkk)
  | 47, _ => exact gl_tabIn (off := 1587) 1619 C0 dL_32 (by decide) (by decide) (by decide +kernel) (by decide) (gl_case_many C0 hF0 hI hb hi hkk)
  | 48, _ => exact gl_tabIn (off := 1610) 1642 C0 dL_32 (by decide) (by decide) (by decide +kernel) (by decide) (gl_case_keep C0 hF0 hI hb hi hkk)
  | 49, _ => exact gl_tabIn (off := 1623) 1655 C0 dL_32 (by decide) (by decide) (by decide +kernel) (by decide) (gl_case_again C0 hF0 hI hb hi hkk)
  | n + 50, hn =>
    refine gl_tabOut 1668 C0 dL_32 (Or.inr ?_) (by decide) (hkk k H μX μM cells slots hI (by omega) (by omega))
    rw [pp_int (by omega)]
    omega
theorem gl_loop (C0 : lw_At p s m meth c sb L xs) (hF0 : gl_F D cA s) (hL : L ≤ 2560) : ∀ (q j k : Nat) (μX μM : g_M) (H : Heap) (cells slots : Nat), L < 5 * (j + q) + 5 → 5 * j ≤ L → cells ≤ 100 + 5 * j → slots ≤ 5000 + 630 * j → gl_I D cA s k μX μM H → gl_W p l e s m below meth c sb H cells slots 18 (gl_ls sb s.heap.size (pp_i (5 * j))) [] := by
  intro q
  induction q with
  | zero =>
    intro j k μX μM H cells slots hq hj hc hs hI
    have hA : gl_A s H := by
      obtain ⟨dyn, t, Lt, u, Lu, hS, -⟩ := hI
      exact hS.2.2.2
    refine gl_iload C0 dL_18 rfl ?_
    refine gl_aload C0 dL_19 rfl ?_
    refine gl_slen C0 hA dL_20 ?_
    refine gl_ic5 C0 dL_21 ?_
    refine gl_isub C0 dL_22 ?_
    refine gl_icmp_gt 1674 C0 (by decide) dL_23 (fun c1 => ?_) (fun c1 => absurd ?_ c1)
    · refine gl_ic1 C0 dL_1674 ?_
      exact gl_ret C0 (by omega) (by omega) dL_1675
    · show Int32.ofNat L - 5 < pp_i (5 * j)
      rw [Int32.lt_iff_toInt_lt, gl_sub5 hL, pp_int (by omega)]
      omega
  | succ q ih =>
    intro j k μX μM H cells slots hq hj hc hs hI
    have hA : gl_A s H := by
      obtain ⟨dyn, t, Lt, u, Lu, hS, -⟩ := hI
      exact hS.2.2.2
    refine gl_iload C0 dL_18 rfl ?_
    refine gl_aload C0 dL_19 rfl ?_
    refine gl_slen C0 hA dL_20 ?_
    refine gl_ic5 C0 dL_21 ?_
    refine gl_isub C0 dL_22 ?_
    refine gl_icmp_gt 1674 C0 (by decide) dL_23 (fun c1 => ?_) (fun c1 => ?_)
    · refine gl_ic1 C0 dL_1674 ?_
      exact gl_ret C0 (by omega) (by omega) dL_1675
    have h5 : 5 * j + 5 ≤ L := by
      have c2 : ¬ Int32.ofNat L - 5 < pp_i (5 * j) := c1
      rw [Int32.lt_iff_toInt_lt, gl_sub5 hL, pp_int (by omega)] at c2
      omega
    have hi := gl_inn h5 hL
    refine gl_aload C0 dL_26 rfl ?_
    refine gl_iload C0 dL_27 rfl ?_
    refine gl_sld C0 hA hi.1 dL_28 ?_
    refine gl_bipush (v := 63) C0 dL_29 (by decide) ?_
    refine gl_iand C0 dL_31 ?_
    obtain ⟨n, hn, en⟩ := gl_and63 (xs (pp_i (5 * j)).toNatClampNeg)
    rw [en]
    refine gl_switch hn C0 hF0 hI ⟨by omega, by omega⟩ hi fun k2 H2 μX2 μM2 c2 s2 hI2 hc2 hs2 => ?_
    refine gl_iinc_3 (v := 5) C0 rfl (by decide) dL_1668 ?_
    refine gl_goto 18 C0 (by decide) dL_1671 ?_
    rw [show pp_i (5 * j) + 5 = pp_i (5 * (j + 1)) from pp_add (5 * j) 5]
    have a1 : L < 5 * (j + 1 + q) + 5 := by omega
    have a2 : 5 * (j + 1) ≤ L := by omega
    have a3 : c2 ≤ 100 + 5 * (j + 1) := by omega
    have a4 : s2 ≤ 5000 + 630 * (j + 1) := by
      have e9 : 5000 + 630 * (j + 1) = 5000 + 630 * j + 630 := by rw [Nat.mul_add, Nat.mul_one, Nat.add_assoc]
      rw [e9]
      exact Nat.le_trans hs2 (Nat.add_le_add_right hs 630)
    exact ih (j + 1) k2 μX2 μM2 H2 c2 s2 a1 a2 a3 a4 hI2
end GP
