/-! ===== names and signs, by the reference ===== -/
/-- the bytes, and none behind them -/
def pp_BZ (l : Nat) (b : Nat → Nat) : Prop := (∀ k, b k < 256) ∧ ∀ k, l ≤ k → b k = 0
theorem pp_nm_0 {l p e : Nat} {b : Nat → Nat} (hz : pp_BZ l b) : (pp_nm b p e 0 = true) = (e = p + 4 ∧ b (p + 0) = 111 ∧ b (p + 1) = 118 ∧ b (p + 2) = 101 ∧ b (p + 3) = 110) := by
  have e0 : (pp_i (b (p + 0)) = g_by.getD (0 * 8 + 0) 0) = (b (p + 0) = 111) := pp_eq (b := 111) (Nat.lt_trans (hz.1 _) (by decide)) (by decide)
  have e1 : (pp_i (b (p + 1)) = g_by.getD (0 * 8 + 1) 0) = (b (p + 1) = 118) := pp_eq (b := 118) (Nat.lt_trans (hz.1 _) (by decide)) (by decide)
  have e2 : (pp_i (b (p + 2)) = g_by.getD (0 * 8 + 2) 0) = (b (p + 2) = 101) := pp_eq (b := 101) (Nat.lt_trans (hz.1 _) (by decide)) (by decide)
  have e3 : (pp_i (b (p + 3)) = g_by.getD (0 * 8 + 3) 0) = (b (p + 3) = 110) := pp_eq (b := 110) (Nat.lt_trans (hz.1 _) (by decide)) (by decide)
  unfold pp_nm
  rw [Bool.and_eq_true, show pp_nl.getD 0 0 = 4 from rfl, show List.range 4 = [0, 1, 2, 3] from rfl]
  simp only [List.all_cons, List.all_nil, Bool.and_true, Bool.and_eq_true, decide_eq_true_eq, e0, e1, e2, e3]
theorem pp_nm_1 {l p e : Nat} {b : Nat → Nat} (hz : pp_BZ l b) : (pp_nm b p e 1 = true) = (e = p + 7 ∧ b (p + 0) = 119 ∧ b (p + 1) = 105 ∧ b (p + 2) = 100 ∧ b (p + 3) = 111 ∧ b (p + 4) = 119 ∧ b (p + 5) = 101 ∧ b (p + 6) = 100) := by
  have e0 : (pp_i (b (p + 0)) = g_by.getD (1 * 8 + 0) 0) = (b (p + 0) = 119) := pp_eq (b := 119) (Nat.lt_trans (hz.1 _) (by decide)) (by decide)
  have e1 : (pp_i (b (p + 1)) = g_by.getD (1 * 8 + 1) 0) = (b (p + 1) = 105) := pp_eq (b := 105) (Nat.lt_trans (hz.1 _) (by decide)) (by decide)
  have e2 : (pp_i (b (p + 2)) = g_by.getD (1 * 8 + 2) 0) = (b (p + 2) = 100) := pp_eq (b := 100) (Nat.lt_trans (hz.1 _) (by decide)) (by decide)
  have e3 : (pp_i (b (p + 3)) = g_by.getD (1 * 8 + 3) 0) = (b (p + 3) = 111) := pp_eq (b := 111) (Nat.lt_trans (hz.1 _) (by decide)) (by decide)
  have e4 : (pp_i (b (p + 4)) = g_by.getD (1 * 8 + 4) 0) = (b (p + 4) = 119) := pp_eq (b := 119) (Nat.lt_trans (hz.1 _) (by decide)) (by decide)
  have e5 : (pp_i (b (p + 5)) = g_by.getD (1 * 8 + 5) 0) = (b (p + 5) = 101) := pp_eq (b := 101) (Nat.lt_trans (hz.1 _) (by decide)) (by decide)
  have e6 : (pp_i (b (p + 6)) = g_by.getD (1 * 8 + 6) 0) = (b (p + 6) = 100) := pp_eq (b := 100) (Nat.lt_trans (hz.1 _) (by decide)) (by decide)
  unfold pp_nm
  rw [Bool.and_eq_true, show pp_nl.getD 1 0 = 7 from rfl, show List.range 7 = [0, 1, 2, 3, 4, 5, 6] from rfl]
  simp only [List.all_cons, List.all_nil, Bool.and_true, Bool.and_eq_true, decide_eq_true_eq, e0, e1, e2, e3, e4, e5, e6]
theorem pp_nm_2 {l p e : Nat} {b : Nat → Nat} (hz : pp_BZ l b) : (pp_nm b p e 2 = true) = (e = p + 5 ∧ b (p + 0) = 114 ∧ b (p + 1) = 97 ∧ b (p + 2) = 110 ∧ b (p + 3) = 103 ∧ b (p + 4) = 101) := by
  have e0 : (pp_i (b (p + 0)) = g_by.getD (2 * 8 + 0) 0) = (b (p + 0) = 114) := pp_eq (b := 114) (Nat.lt_trans (hz.1 _) (by decide)) (by decide)
  have e1 : (pp_i (b (p + 1)) = g_by.getD (2 * 8 + 1) 0) = (b (p + 1) = 97) := pp_eq (b := 97) (Nat.lt_trans (hz.1 _) (by decide)) (by decide)
  have e2 : (pp_i (b (p + 2)) = g_by.getD (2 * 8 + 2) 0) = (b (p + 2) = 110) := pp_eq (b := 110) (Nat.lt_trans (hz.1 _) (by decide)) (by decide)
  have e3 : (pp_i (b (p + 3)) = g_by.getD (2 * 8 + 3) 0) = (b (p + 3) = 103) := pp_eq (b := 103) (Nat.lt_trans (hz.1 _) (by decide)) (by decide)
  have e4 : (pp_i (b (p + 4)) = g_by.getD (2 * 8 + 4) 0) = (b (p + 4) = 101) := pp_eq (b := 101) (Nat.lt_trans (hz.1 _) (by decide)) (by decide)
  unfold pp_nm
  rw [Bool.and_eq_true, show pp_nl.getD 2 0 = 5 from rfl, show List.range 5 = [0, 1, 2, 3, 4] from rfl]
  simp only [List.all_cons, List.all_nil, Bool.and_true, Bool.and_eq_true, decide_eq_true_eq, e0, e1, e2, e3, e4]
theorem pp_nm_3 {l p e : Nat} {b : Nat → Nat} (hz : pp_BZ l b) : (pp_nm b p e 3 = true) = (e = p + 6 ∧ b (p + 0) = 100 ∧ b (p + 1) = 111 ∧ b (p + 2) = 111 ∧ b (p + 3) = 114 ∧ b (p + 4) = 101 ∧ b (p + 5) = 100) := by
  have e0 : (pp_i (b (p + 0)) = g_by.getD (3 * 8 + 0) 0) = (b (p + 0) = 100) := pp_eq (b := 100) (Nat.lt_trans (hz.1 _) (by decide)) (by decide)
  have e1 : (pp_i (b (p + 1)) = g_by.getD (3 * 8 + 1) 0) = (b (p + 1) = 111) := pp_eq (b := 111) (Nat.lt_trans (hz.1 _) (by decide)) (by decide)
  have e2 : (pp_i (b (p + 2)) = g_by.getD (3 * 8 + 2) 0) = (b (p + 2) = 111) := pp_eq (b := 111) (Nat.lt_trans (hz.1 _) (by decide)) (by decide)
  have e3 : (pp_i (b (p + 3)) = g_by.getD (3 * 8 + 3) 0) = (b (p + 3) = 114) := pp_eq (b := 114) (Nat.lt_trans (hz.1 _) (by decide)) (by decide)
  have e4 : (pp_i (b (p + 4)) = g_by.getD (3 * 8 + 4) 0) = (b (p + 4) = 101) := pp_eq (b := 101) (Nat.lt_trans (hz.1 _) (by decide)) (by decide)
  have e5 : (pp_i (b (p + 5)) = g_by.getD (3 * 8 + 5) 0) = (b (p + 5) = 100) := pp_eq (b := 100) (Nat.lt_trans (hz.1 _) (by decide)) (by decide)
  unfold pp_nm
  rw [Bool.and_eq_true, show pp_nl.getD 3 0 = 6 from rfl, show List.range 6 = [0, 1, 2, 3, 4, 5] from rfl]
  simp only [List.all_cons, List.all_nil, Bool.and_true, Bool.and_eq_true, decide_eq_true_eq, e0, e1, e2, e3, e4, e5]
theorem pp_nm_4 {l p e : Nat} {b : Nat → Nat} (hz : pp_BZ l b) : (pp_nm b p e 4 = true) = (e = p + 8 ∧ b (p + 0) = 112 ∧ b (p + 1) = 111 ∧ b (p + 2) = 114 ∧ b (p + 3) = 116 ∧ b (p + 4) = 97 ∧ b (p + 5) = 98 ∧ b (p + 6) = 108 ∧ b (p + 7) = 101) := by
  have e0 : (pp_i (b (p + 0)) = g_by.getD (4 * 8 + 0) 0) = (b (p + 0) = 112) := pp_eq (b := 112) (Nat.lt_trans (hz.1 _) (by decide)) (by decide)
  have e1 : (pp_i (b (p + 1)) = g_by.getD (4 * 8 + 1) 0) = (b (p + 1) = 111) := pp_eq (b := 111) (Nat.lt_trans (hz.1 _) (by decide)) (by decide)
  have e2 : (pp_i (b (p + 2)) = g_by.getD (4 * 8 + 2) 0) = (b (p + 2) = 114) := pp_eq (b := 114) (Nat.lt_trans (hz.1 _) (by decide)) (by decide)
  have e3 : (pp_i (b (p + 3)) = g_by.getD (4 * 8 + 3) 0) = (b (p + 3) = 116) := pp_eq (b := 116) (Nat.lt_trans (hz.1 _) (by decide)) (by decide)
  have e4 : (pp_i (b (p + 4)) = g_by.getD (4 * 8 + 4) 0) = (b (p + 4) = 97) := pp_eq (b := 97) (Nat.lt_trans (hz.1 _) (by decide)) (by decide)
  have e5 : (pp_i (b (p + 5)) = g_by.getD (4 * 8 + 5) 0) = (b (p + 5) = 98) := pp_eq (b := 98) (Nat.lt_trans (hz.1 _) (by decide)) (by decide)
  have e6 : (pp_i (b (p + 6)) = g_by.getD (4 * 8 + 6) 0) = (b (p + 6) = 108) := pp_eq (b := 108) (Nat.lt_trans (hz.1 _) (by decide)) (by decide)
  have e7 : (pp_i (b (p + 7)) = g_by.getD (4 * 8 + 7) 0) = (b (p + 7) = 101) := pp_eq (b := 101) (Nat.lt_trans (hz.1 _) (by decide)) (by decide)
  unfold pp_nm
  rw [Bool.and_eq_true, show pp_nl.getD 4 0 = 8 from rfl, show List.range 8 = [0, 1, 2, 3, 4, 5, 6, 7] from rfl]
  simp only [List.all_cons, List.all_nil, Bool.and_true, Bool.and_eq_true, decide_eq_true_eq, e0, e1, e2, e3, e4, e5, e6, e7]
theorem pp_nm_5 {l p e : Nat} {b : Nat → Nat} (hz : pp_BZ l b) : (pp_nm b p e 5 = true) = (e = p + 4 ∧ b (p + 0) = 114 ∧ b (p + 1) = 97 ∧ b (p + 2) = 107 ∧ b (p + 3) = 101) := by
  have e0 : (pp_i (b (p + 0)) = g_by.getD (5 * 8 + 0) 0) = (b (p + 0) = 114) := pp_eq (b := 114) (Nat.lt_trans (hz.1 _) (by decide)) (by decide)
  have e1 : (pp_i (b (p + 1)) = g_by.getD (5 * 8 + 1) 0) = (b (p + 1) = 97) := pp_eq (b := 97) (Nat.lt_trans (hz.1 _) (by decide)) (by decide)
  have e2 : (pp_i (b (p + 2)) = g_by.getD (5 * 8 + 2) 0) = (b (p + 2) = 107) := pp_eq (b := 107) (Nat.lt_trans (hz.1 _) (by decide)) (by decide)
  have e3 : (pp_i (b (p + 3)) = g_by.getD (5 * 8 + 3) 0) = (b (p + 3) = 101) := pp_eq (b := 101) (Nat.lt_trans (hz.1 _) (by decide)) (by decide)
  unfold pp_nm
  rw [Bool.and_eq_true, show pp_nl.getD 5 0 = 4 from rfl, show List.range 4 = [0, 1, 2, 3] from rfl]
  simp only [List.all_cons, List.all_nil, Bool.and_true, Bool.and_eq_true, decide_eq_true_eq, e0, e1, e2, e3]
theorem pp_nm_6 {l p e : Nat} {b : Nat → Nat} (hz : pp_BZ l b) : (pp_nm b p e 6 = true) = (e = p + 2 ∧ b (p + 0) = 103 ∧ b (p + 1) = 111) := by
  have e0 : (pp_i (b (p + 0)) = g_by.getD (6 * 8 + 0) 0) = (b (p + 0) = 103) := pp_eq (b := 103) (Nat.lt_trans (hz.1 _) (by decide)) (by decide)
  have e1 : (pp_i (b (p + 1)) = g_by.getD (6 * 8 + 1) 0) = (b (p + 1) = 111) := pp_eq (b := 111) (Nat.lt_trans (hz.1 _) (by decide)) (by decide)
  unfold pp_nm
  rw [Bool.and_eq_true, show pp_nl.getD 6 0 = 2 from rfl, show List.range 2 = [0, 1] from rfl]
  simp only [List.all_cons, List.all_nil, Bool.and_true, Bool.and_eq_true, decide_eq_true_eq, e0, e1]
theorem pp_nm_7 {l p e : Nat} {b : Nat → Nat} (hz : pp_BZ l b) : (pp_nm b p e 7 = true) = (e = p + 4 ∧ b (p + 0) = 115 ∧ b (p + 1) = 116 ∧ b (p + 2) = 97 ∧ b (p + 3) = 121) := by
  have e0 : (pp_i (b (p + 0)) = g_by.getD (7 * 8 + 0) 0) = (b (p + 0) = 115) := pp_eq (b := 115) (Nat.lt_trans (hz.1 _) (by decide)) (by decide)
  have e1 : (pp_i (b (p + 1)) = g_by.getD (7 * 8 + 1) 0) = (b (p + 1) = 116) := pp_eq (b := 116) (Nat.lt_trans (hz.1 _) (by decide)) (by decide)
  have e2 : (pp_i (b (p + 2)) = g_by.getD (7 * 8 + 2) 0) = (b (p + 2) = 97) := pp_eq (b := 97) (Nat.lt_trans (hz.1 _) (by decide)) (by decide)
  have e3 : (pp_i (b (p + 3)) = g_by.getD (7 * 8 + 3) 0) = (b (p + 3) = 121) := pp_eq (b := 121) (Nat.lt_trans (hz.1 _) (by decide)) (by decide)
  unfold pp_nm
  rw [Bool.and_eq_true, show pp_nl.getD 7 0 = 4 from rfl, show List.range 4 = [0, 1, 2, 3] from rfl]
  simp only [List.all_cons, List.all_nil, Bool.and_true, Bool.and_eq_true, decide_eq_true_eq, e0, e1, e2, e3]
theorem pp_nm_8 {l p e : Nat} {b : Nat → Nat} (hz : pp_BZ l b) : (pp_nm b p e 8 = true) = (e = p + 3 ∧ b (p + 0) = 115 ∧ b (p + 1) = 104 ∧ b (p + 2) = 121) := by
  have e0 : (pp_i (b (p + 0)) = g_by.getD (8 * 8 + 0) 0) = (b (p + 0) = 115) := pp_eq (b := 115) (Nat.lt_trans (hz.1 _) (by decide)) (by decide)
  have e1 : (pp_i (b (p + 1)) = g_by.getD (8 * 8 + 1) 0) = (b (p + 1) = 104) := pp_eq (b := 104) (Nat.lt_trans (hz.1 _) (by decide)) (by decide)
  have e2 : (pp_i (b (p + 2)) = g_by.getD (8 * 8 + 2) 0) = (b (p + 2) = 121) := pp_eq (b := 121) (Nat.lt_trans (hz.1 _) (by decide)) (by decide)
  unfold pp_nm
  rw [Bool.and_eq_true, show pp_nl.getD 8 0 = 3 from rfl, show List.range 3 = [0, 1, 2] from rfl]
  simp only [List.all_cons, List.all_nil, Bool.and_true, Bool.and_eq_true, decide_eq_true_eq, e0, e1, e2]
theorem pp_nm_9 {l p e : Nat} {b : Nat → Nat} (hz : pp_BZ l b) : (pp_nm b p e 9 = true) = (e = p + 2 ∧ b (p + 0) = 105 ∧ b (p + 1) = 102) := by
  have e0 : (pp_i (b (p + 0)) = g_by.getD (9 * 8 + 0) 0) = (b (p + 0) = 105) := pp_eq (b := 105) (Nat.lt_trans (hz.1 _) (by decide)) (by decide)
  have e1 : (pp_i (b (p + 1)) = g_by.getD (9 * 8 + 1) 0) = (b (p + 1) = 102) := pp_eq (b := 102) (Nat.lt_trans (hz.1 _) (by decide)) (by decide)
  unfold pp_nm
  rw [Bool.and_eq_true, show pp_nl.getD 9 0 = 2 from rfl, show List.range 2 = [0, 1] from rfl]
  simp only [List.all_cons, List.all_nil, Bool.and_true, Bool.and_eq_true, decide_eq_true_eq, e0, e1]
theorem pp_nm_10 {l p e : Nat} {b : Nat → Nat} (hz : pp_BZ l b) : (pp_nm b p e 10 = true) = (e = p + 2 ∧ b (p + 0) = 111 ∧ b (p + 1) = 114) := by
  have e0 : (pp_i (b (p + 0)) = g_by.getD (10 * 8 + 0) 0) = (b (p + 0) = 111) := pp_eq (b := 111) (Nat.lt_trans (hz.1 _) (by decide)) (by decide)
  have e1 : (pp_i (b (p + 1)) = g_by.getD (10 * 8 + 1) 0) = (b (p + 1) = 114) := pp_eq (b := 114) (Nat.lt_trans (hz.1 _) (by decide)) (by decide)
  unfold pp_nm
  rw [Bool.and_eq_true, show pp_nl.getD 10 0 = 2 from rfl, show List.range 2 = [0, 1] from rfl]
  simp only [List.all_cons, List.all_nil, Bool.and_true, Bool.and_eq_true, decide_eq_true_eq, e0, e1]
theorem pp_nm_11 {l p e : Nat} {b : Nat → Nat} (hz : pp_BZ l b) : (pp_nm b p e 11 = true) = (e = p + 3 ∧ b (p + 0) = 97 ∧ b (p + 1) = 110 ∧ b (p + 2) = 100) := by
  have e0 : (pp_i (b (p + 0)) = g_by.getD (11 * 8 + 0) 0) = (b (p + 0) = 97) := pp_eq (b := 97) (Nat.lt_trans (hz.1 _) (by decide)) (by decide)
  have e1 : (pp_i (b (p + 1)) = g_by.getD (11 * 8 + 1) 0) = (b (p + 1) = 110) := pp_eq (b := 110) (Nat.lt_trans (hz.1 _) (by decide)) (by decide)
  have e2 : (pp_i (b (p + 2)) = g_by.getD (11 * 8 + 2) 0) = (b (p + 2) = 100) := pp_eq (b := 100) (Nat.lt_trans (hz.1 _) (by decide)) (by decide)
  unfold pp_nm
  rw [Bool.and_eq_true, show pp_nl.getD 11 0 = 3 from rfl, show List.range 3 = [0, 1, 2] from rfl]
  simp only [List.all_cons, List.all_nil, Bool.and_true, Bool.and_eq_true, decide_eq_true_eq, e0, e1, e2]
theorem pp_nm_12 {l p e : Nat} {b : Nat → Nat} (hz : pp_BZ l b) : (pp_nm b p e 12 = true) = (e = p + 3 ∧ b (p + 0) = 110 ∧ b (p + 1) = 111 ∧ b (p + 2) = 116) := by
  have e0 : (pp_i (b (p + 0)) = g_by.getD (12 * 8 + 0) 0) = (b (p + 0) = 110) := pp_eq (b := 110) (Nat.lt_trans (hz.1 _) (by decide)) (by decide)
  have e1 : (pp_i (b (p + 1)) = g_by.getD (12 * 8 + 1) 0) = (b (p + 1) = 111) := pp_eq (b := 111) (Nat.lt_trans (hz.1 _) (by decide)) (by decide)
  have e2 : (pp_i (b (p + 2)) = g_by.getD (12 * 8 + 2) 0) = (b (p + 2) = 116) := pp_eq (b := 116) (Nat.lt_trans (hz.1 _) (by decide)) (by decide)
  unfold pp_nm
  rw [Bool.and_eq_true, show pp_nl.getD 12 0 = 3 from rfl, show List.range 3 = [0, 1, 2] from rfl]
  simp only [List.all_cons, List.all_nil, Bool.and_true, Bool.and_eq_true, decide_eq_true_eq, e0, e1, e2]
theorem pp_nm_13 {l p e : Nat} {b : Nat → Nat} (hz : pp_BZ l b) : (pp_nm b p e 13 = true) = (e = p + 5 ∧ b (p + 0) = 110 ∧ b (p + 1) = 105 ∧ b (p + 2) = 103 ∧ b (p + 3) = 104 ∧ b (p + 4) = 116) := by
  have e0 : (pp_i (b (p + 0)) = g_by.getD (13 * 8 + 0) 0) = (b (p + 0) = 110) := pp_eq (b := 110) (Nat.lt_trans (hz.1 _) (by decide)) (by decide)
  have e1 : (pp_i (b (p + 1)) = g_by.getD (13 * 8 + 1) 0) = (b (p + 1) = 105) := pp_eq (b := 105) (Nat.lt_trans (hz.1 _) (by decide)) (by decide)
  have e2 : (pp_i (b (p + 2)) = g_by.getD (13 * 8 + 2) 0) = (b (p + 2) = 103) := pp_eq (b := 103) (Nat.lt_trans (hz.1 _) (by decide)) (by decide)
  have e3 : (pp_i (b (p + 3)) = g_by.getD (13 * 8 + 3) 0) = (b (p + 3) = 104) := pp_eq (b := 104) (Nat.lt_trans (hz.1 _) (by decide)) (by decide)
  have e4 : (pp_i (b (p + 4)) = g_by.getD (13 * 8 + 4) 0) = (b (p + 4) = 116) := pp_eq (b := 116) (Nat.lt_trans (hz.1 _) (by decide)) (by decide)
  unfold pp_nm
  rw [Bool.and_eq_true, show pp_nl.getD 13 0 = 5 from rfl, show List.range 5 = [0, 1, 2, 3, 4] from rfl]
  simp only [List.all_cons, List.all_nil, Bool.and_true, Bool.and_eq_true, decide_eq_true_eq, e0, e1, e2, e3, e4]
theorem pp_nm_14 {l p e : Nat} {b : Nat → Nat} (hz : pp_BZ l b) : (pp_nm b p e 14 = true) = (e = p + 4 ∧ b (p + 0) = 119 ∧ b (p + 1) = 97 ∧ b (p + 2) = 114 ∧ b (p + 3) = 109) := by
  have e0 : (pp_i (b (p + 0)) = g_by.getD (14 * 8 + 0) 0) = (b (p + 0) = 119) := pp_eq (b := 119) (Nat.lt_trans (hz.1 _) (by decide)) (by decide)
  have e1 : (pp_i (b (p + 1)) = g_by.getD (14 * 8 + 1) 0) = (b (p + 1) = 97) := pp_eq (b := 97) (Nat.lt_trans (hz.1 _) (by decide)) (by decide)
  have e2 : (pp_i (b (p + 2)) = g_by.getD (14 * 8 + 2) 0) = (b (p + 2) = 114) := pp_eq (b := 114) (Nat.lt_trans (hz.1 _) (by decide)) (by decide)
  have e3 : (pp_i (b (p + 3)) = g_by.getD (14 * 8 + 3) 0) = (b (p + 3) = 109) := pp_eq (b := 109) (Nat.lt_trans (hz.1 _) (by decide)) (by decide)
  unfold pp_nm
  rw [Bool.and_eq_true, show pp_nl.getD 14 0 = 4 from rfl, show List.range 4 = [0, 1, 2, 3] from rfl]
  simp only [List.all_cons, List.all_nil, Bool.and_true, Bool.and_eq_true, decide_eq_true_eq, e0, e1, e2, e3]
theorem pp_nm_15 {l p e : Nat} {b : Nat → Nat} (hz : pp_BZ l b) : (pp_nm b p e 15 = true) = (e = p + 5 ∧ b (p + 0) = 112 ∧ b (p + 1) = 108 ∧ b (p + 2) = 97 ∧ b (p + 3) = 99 ∧ b (p + 4) = 101) := by
  have e0 : (pp_i (b (p + 0)) = g_by.getD (15 * 8 + 0) 0) = (b (p + 0) = 112) := pp_eq (b := 112) (Nat.lt_trans (hz.1 _) (by decide)) (by decide)
  have e1 : (pp_i (b (p + 1)) = g_by.getD (15 * 8 + 1) 0) = (b (p + 1) = 108) := pp_eq (b := 108) (Nat.lt_trans (hz.1 _) (by decide)) (by decide)
  have e2 : (pp_i (b (p + 2)) = g_by.getD (15 * 8 + 2) 0) = (b (p + 2) = 97) := pp_eq (b := 97) (Nat.lt_trans (hz.1 _) (by decide)) (by decide)
  have e3 : (pp_i (b (p + 3)) = g_by.getD (15 * 8 + 3) 0) = (b (p + 3) = 99) := pp_eq (b := 99) (Nat.lt_trans (hz.1 _) (by decide)) (by decide)
  have e4 : (pp_i (b (p + 4)) = g_by.getD (15 * 8 + 4) 0) = (b (p + 4) = 101) := pp_eq (b := 101) (Nat.lt_trans (hz.1 _) (by decide)) (by decide)
  unfold pp_nm
  rw [Bool.and_eq_true, show pp_nl.getD 15 0 = 5 from rfl, show List.range 5 = [0, 1, 2, 3, 4] from rfl]
  simp only [List.all_cons, List.all_nil, Bool.and_true, Bool.and_eq_true, decide_eq_true_eq, e0, e1, e2, e3, e4]
theorem pp_nm_16 {l p e : Nat} {b : Nat → Nat} (hz : pp_BZ l b) : (pp_nm b p e 16 = true) = (e = p + 4 ∧ b (p + 0) = 102 ∧ b (p + 1) = 105 ∧ b (p + 2) = 114 ∧ b (p + 3) = 101) := by
  have e0 : (pp_i (b (p + 0)) = g_by.getD (16 * 8 + 0) 0) = (b (p + 0) = 102) := pp_eq (b := 102) (Nat.lt_trans (hz.1 _) (by decide)) (by decide)
  have e1 : (pp_i (b (p + 1)) = g_by.getD (16 * 8 + 1) 0) = (b (p + 1) = 105) := pp_eq (b := 105) (Nat.lt_trans (hz.1 _) (by decide)) (by decide)
  have e2 : (pp_i (b (p + 2)) = g_by.getD (16 * 8 + 2) 0) = (b (p + 2) = 114) := pp_eq (b := 114) (Nat.lt_trans (hz.1 _) (by decide)) (by decide)
  have e3 : (pp_i (b (p + 3)) = g_by.getD (16 * 8 + 3) 0) = (b (p + 3) = 101) := pp_eq (b := 101) (Nat.lt_trans (hz.1 _) (by decide)) (by decide)
  unfold pp_nm
  rw [Bool.and_eq_true, show pp_nl.getD 16 0 = 4 from rfl, show List.range 4 = [0, 1, 2, 3] from rfl]
  simp only [List.all_cons, List.all_nil, Bool.and_true, Bool.and_eq_true, decide_eq_true_eq, e0, e1, e2, e3]
theorem pp_nm_17 {l p e : Nat} {b : Nat → Nat} (hz : pp_BZ l b) : (pp_nm b p e 17 = true) = (e = p + 6 ∧ b (p + 0) = 110 ∧ b (p + 1) = 117 ∧ b (p + 2) = 109 ∧ b (p + 3) = 98 ∧ b (p + 4) = 101 ∧ b (p + 5) = 114) := by
  have e0 : (pp_i (b (p + 0)) = g_by.getD (17 * 8 + 0) 0) = (b (p + 0) = 110) := pp_eq (b := 110) (Nat.lt_trans (hz.1 _) (by decide)) (by decide)
  have e1 : (pp_i (b (p + 1)) = g_by.getD (17 * 8 + 1) 0) = (b (p + 1) = 117) := pp_eq (b := 117) (Nat.lt_trans (hz.1 _) (by decide)) (by decide)
  have e2 : (pp_i (b (p + 2)) = g_by.getD (17 * 8 + 2) 0) = (b (p + 2) = 109) := pp_eq (b := 109) (Nat.lt_trans (hz.1 _) (by decide)) (by decide)
  have e3 : (pp_i (b (p + 3)) = g_by.getD (17 * 8 + 3) 0) = (b (p + 3) = 98) := pp_eq (b := 98) (Nat.lt_trans (hz.1 _) (by decide)) (by decide)
  have e4 : (pp_i (b (p + 4)) = g_by.getD (17 * 8 + 4) 0) = (b (p + 4) = 101) := pp_eq (b := 101) (Nat.lt_trans (hz.1 _) (by decide)) (by decide)
  have e5 : (pp_i (b (p + 5)) = g_by.getD (17 * 8 + 5) 0) = (b (p + 5) = 114) := pp_eq (b := 114) (Nat.lt_trans (hz.1 _) (by decide)) (by decide)
  unfold pp_nm
  rw [Bool.and_eq_true, show pp_nl.getD 17 0 = 6 from rfl, show List.range 6 = [0, 1, 2, 3, 4, 5] from rfl]
  simp only [List.all_cons, List.all_nil, Bool.and_true, Bool.and_eq_true, decide_eq_true_eq, e0, e1, e2, e3, e4, e5]
theorem pp_nm_x : ∀ n m : Fin 18, n ≠ m → pp_nl.getD n.val 0 ≠ pp_nl.getD m.val 0 ∨ ∃ k : Fin 8, k.val < pp_nl.getD n.val 0 ∧ g_by.getD (n.val * 8 + k.val) 0 ≠ g_by.getD (m.val * 8 + k.val) 0 := by decide +kernel
theorem pp_nm_u {b : Nat → Nat} {p e n m : Nat} (hn : n < 18) (hm : m < 18) (h1 : pp_nm b p e n = true) (h2 : pp_nm b p e m = true) : n = m := by
  rcases Nat.decEq n m with h | h
  · unfold pp_nm at h1 h2
    rw [Bool.and_eq_true, List.all_eq_true] at h1 h2
    have l1 := of_decide_eq_true h1.1
    have l2 := of_decide_eq_true h2.1
    rcases pp_nm_x ⟨n, hn⟩ ⟨m, hm⟩ (fun q => h (congrArg Fin.val q)) with q | ⟨k, q1, q2⟩
    · dsimp only at q
      omega
    · dsimp only at q1 q2
      have a1 := of_decide_eq_true (h1.2 k.val (List.mem_range.mpr q1))
      have a2 := of_decide_eq_true (h2.2 k.val (List.mem_range.mpr (by omega)))
      exact absurd (a1.symm.trans a2) q2
  · exact h
theorem pp_f18_n {b : Nat → Nat} {p e n : Nat} (h : pp_nm b p e n = true) (hn : n < 18) : ∀ (m k : Nat), k + m = 18 → k ≤ n → pp_f18 b p e m k = n
  | 0, k, h1, h2 => by omega
  | m + 1, k, h1, h2 => by
    rw [pp_f18]
    by_cases c : pp_nm b p e k = true
    · rw [if_pos c]
      exact pp_nm_u (by omega) hn c h
    · rw [if_neg c]
      have : k ≠ n := fun q => c (by rw [q]; exact h)
      exact pp_f18_n h hn m (k + 1) (by omega) (by omega)
theorem pp_f18_i {b : Nat → Nat} {p e : Nat} : ∀ (m k : Nat), k + m = 18 → pp_f18 b p e m k < 18 → pp_nm b p e (pp_f18 b p e m k) = true
  | 0, k, _, h => absurd h (by show ¬ 25 < 18; decide)
  | m + 1, k, hk, h => by
    rw [pp_f18] at h ⊢
    by_cases c : pp_nm b p e k = true
    · rw [if_pos c]; exact c
    · rw [if_neg c] at h ⊢
      exact pp_f18_i m (k + 1) (by omega) h
/-- the code at p, 26 at the end -/
def pp_cx (l : Nat) (b : Nat → Nat) (p : Nat) : Nat := if p < l then pp_cd l b p else 26
theorem pp_cx_n {l p n : Nat} {b : Nat → Nat} (hn : n < 18) : (pp_cx l b p = n) = (p < l ∧ pp_al (b p) = true ∧ pp_nm b p (pp_we l b p) n = true) := by
  unfold pp_cx
  by_cases c : p < l
  · rw [if_pos c]
    unfold pp_cd
    by_cases c1 : pp_al (b p) = true
    · rw [if_pos c1]
      refine propext ⟨fun q => ⟨c, c1, ?_⟩, fun q => pp_f18_n q.2.2 hn 18 0 rfl (Nat.zero_le _)⟩
      have := pp_f18_i (b := b) (p := p) (e := pp_we l b p) 18 0 rfl (by rw [q]; exact hn)
      rwa [q] at this
    · rw [if_neg c1]
      refine propext ⟨fun q => ?_, fun q => absurd q.2.1 c1⟩
      exfalso
      revert q
      (repeat' split) <;> intro q <;> omega
  · rw [if_neg c]
    exact propext ⟨fun q => by omega, fun q => absurd q.1 c⟩
theorem pp_M_bb {l k c : Nat} {b : Nat → Nat} {μ : g_M} {α : Type} {A B : Option α} (hT : pp_TB (μ 4) l b) (h5 : μ 0 5 = pp_i l) (hz : pp_BZ l b) (hk : k < 1000) (hc : 0 < c) (hc2 : c < 256) : ((f_X12_byteAt (pp_i k) μ).bind fun x => if x = pp_i c then A else B) = if b k = c then A else B := by
  have hb := hz.1 k
  rw [pp_M_by hT h5 hk]
  simp only [Option.bind_some]
  by_cases h : k < l
  · rw [if_pos h, pp_ite (pp_eq (by omega) (by omega))]
  · rw [if_neg h, hz.2 k (by omega), if_neg (show ¬ 0 = c by omega), if_neg]
    intro q
    have := congrArg Int32.toInt q
    rw [pp_int (by omega)] at this
    have h9 : (-1 : Int32).toInt = -1 := rfl
    omega
/-- a name of n letters that begins and ends so -/
def pp_ia (l : Nat) (b : Nat → Nat) (p n c0 c1 c2 c9 : Nat) : Bool := decide (p < l ∧ pp_al (b p) = true ∧ pp_we l b p = p + n ∧ b p = c0 ∧ b (p + 1) = c1 ∧ b (p + 2) = c2 ∧ b (p + n - 1) = c9)
def pp_sa (b : Nat → Nat) (p i c0 c1 c2 : Nat) : Bool := decide (b (p + i) = c0 ∧ b (p + i + 1) = c1 ∧ b (p + i + 2) = c2)
theorem pp_tk1 {l p : Nat} {b : Nat → Nat} {μ : g_M} (hK : pp_TK μ l b p) (v : Nat) (hv : 1 ≤ v) (hv2 : v ≤ 3) : (μ 0 8 = pp_i v) = (p < l ∧ pp_tkn (b p) = v) := by
  obtain ⟨h9, hp, h1, h2⟩ := hK
  have ht : pp_tkn (b p) ≤ 3 := by
    unfold pp_tkn
    (repeat' split) <;> omega
  by_cases c : p < l
  · rw [(h1 c).2.1, pp_eq (by omega) (by omega)]
    exact propext ⟨fun q => ⟨c, q⟩, fun q => q.2⟩
  · rw [(h2 (by omega)).2, show (0 : Int32) = pp_i 0 from rfl, pp_eq (by omega) (by omega)]
    exact propext ⟨fun q => by omega, fun q => absurd q.1 c⟩
theorem pp_tkn1 {x : Nat} : (pp_tkn x = 1) = (pp_al x = true) := by
  unfold pp_tkn
  by_cases c : pp_al x = true
  · rw [if_pos c]; exact propext ⟨fun _ => c, fun _ => rfl⟩
  · rw [if_neg c]
    refine propext ⟨fun q => ?_, fun q => absurd q c⟩
    split at q <;> omega
theorem pp_tkn2 {x : Nat} : (pp_tkn x = 2) = (pp_dg x = true) := by
  unfold pp_tkn
  by_cases c : pp_al x = true
  · rw [if_pos c]
    exact propext ⟨fun q => by omega, fun q => absurd c (pp_al_dg q)⟩
  · rw [if_neg c]
    by_cases c2 : pp_dg x = true
    · rw [if_pos c2]; exact propext ⟨fun _ => c2, fun _ => rfl⟩
    · rw [if_neg c2]; exact propext ⟨fun q => by omega, fun q => absurd q c2⟩
theorem pp_M_ia {l p n c0 c1 c2 c9 : Nat} {b : Nat → Nat} {μ : g_M} (hT : pp_TB (μ 4) l b) (h5 : μ 0 5 = pp_i l) (hz : pp_BZ l b) (hK : pp_TK μ l b p) (hn : 1 ≤ n) (hn2 : n ≤ 8) (h0 : 0 < c0 ∧ c0 < 256) (h1 : 0 < c1 ∧ c1 < 256) (h2 : 0 < c2 ∧ c2 < 256) (h9 : 0 < c9 ∧ c9 < 256) : f_X12_isName (pp_i n) (pp_i c0) (pp_i c1) (pp_i c2) (pp_i c9) μ = some (if pp_ia l b p n c0 c1 c2 c9 = true then 1 else 0) := by
  have hl := hT.1
  have hk1 := pp_tk1 hK 1 (by decide) (by decide)
  rw [pp_tkn1] at hk1
  unfold f_X12_isName pp_ia
  rw [show (1 : Int32) = pp_i 1 from rfl, show (2 : Int32) = pp_i 2 from rfl, hK.1, pp_ite hk1]
  by_cases c : p < l ∧ pp_al (b p) = true
  · rw [if_pos c]
    have hwe := pp_we_le (b := b) c.1
    rw [(hK.2.2.1 c.1).1, pp_sub (by omega), pp_ite (pp_eq (by omega) (by omega)), pp_add, pp_add, pp_sub (by omega), pp_M_bb hT h5 hz (by omega) h0.1 h0.2, pp_M_bb hT h5 hz (by omega) h1.1 h1.2, pp_M_bb hT h5 hz (by omega) h2.1 h2.2, pp_M_bb hT h5 hz (by omega) h9.1 h9.2]
    by_cases d1 : pp_we l b p = p + n
    · rw [if_pos (by omega), d1]
      by_cases d2 : b p = c0
      · rw [if_pos d2]
        by_cases d3 : b (p + 1) = c1
        · rw [if_pos d3]
          by_cases d4 : b (p + 2) = c2
          · rw [if_pos d4]
            by_cases d5 : b (p + n - 1) = c9
            · rw [if_pos d5, if_pos (decide_eq_true ⟨c.1, c.2, rfl, d2, d3, d4, d5⟩)]
            · rw [if_neg d5, if_neg (by simp [d5])]
          · rw [if_neg d4, if_neg (by simp [d4])]
        · rw [if_neg d3, if_neg (by simp [d3])]
      · rw [if_neg d2, if_neg (by simp [d2])]
    · rw [if_neg (by omega), if_neg (by simp [d1])]
  · rw [if_neg c, if_neg (fun q => c ⟨(of_decide_eq_true q).1, (of_decide_eq_true q).2.1⟩)]
theorem pp_M_sa {l p i c0 c1 c2 : Nat} {b : Nat → Nat} {μ : g_M} (hT : pp_TB (μ 4) l b) (h5 : μ 0 5 = pp_i l) (hz : pp_BZ l b) (hK : pp_TK μ l b p) (hi : i ≤ 8) (h0 : 0 < c0 ∧ c0 < 256) (h1 : 0 < c1 ∧ c1 < 256) (h2 : 0 < c2 ∧ c2 < 256) : f_X12_isSame (pp_i i) (pp_i c0) (pp_i c1) (pp_i c2) μ = some (if pp_sa b p i c0 c1 c2 = true then 1 else 0) := by
  have hl := hT.1
  have hp := hK.2.1
  unfold f_X12_isSame pp_sa
  rw [show (1 : Int32) = pp_i 1 from rfl, show (2 : Int32) = pp_i 2 from rfl, hK.1, pp_add, pp_add, pp_add, pp_M_bb hT h5 hz (by omega) h0.1 h0.2, pp_M_bb hT h5 hz (by omega) h1.1 h1.2, pp_M_bb hT h5 hz (by omega) h2.1 h2.2]
  by_cases d2 : b (p + i) = c0
  · rw [if_pos d2]
    by_cases d3 : b (p + i + 1) = c1
    · rw [if_pos d3]
      by_cases d4 : b (p + i + 2) = c2
      · rw [if_pos d4, if_pos (decide_eq_true ⟨d2, d3, d4⟩)]
      · rw [if_neg d4, if_neg (by simp [d4])]
    · rw [if_neg d3, if_neg (by simp [d3])]
  · rw [if_neg d2, if_neg (by simp [d2])]
theorem pp_b0 {A : Bool} : ((if A = true then (1 : Int32) else 0) = 0) = ¬ A = true := by
  cases A
  · exact propext ⟨fun _ q => Bool.noConfusion q, fun _ => rfl⟩
  · exact propext ⟨fun q => absurd q (by decide), fun q => absurd rfl q⟩
theorem pp_at_0 {l p : Nat} {b : Nat → Nat} (hz : pp_BZ l b) : (pp_cx l b p = 0) = (pp_ia l b p 4 111 118 101 110 = true) := by
  rw [pp_cx_n (by decide), pp_nm_0 hz]
  unfold pp_ia
  simp only [decide_eq_true_eq, Nat.add_zero, Nat.add_assoc, Nat.reduceAdd]
  have e9 : p + 4 - 1 = p + 3 := by omega
  rw [e9]
theorem pp_at_1 {l p : Nat} {b : Nat → Nat} (hz : pp_BZ l b) : (pp_cx l b p = 1) = (pp_ia l b p 7 119 105 100 100 = true ∧ pp_sa b p 3 111 119 101 = true) := by
  rw [pp_cx_n (by decide), pp_nm_1 hz]
  unfold pp_ia pp_sa
  simp only [decide_eq_true_eq, Nat.add_zero, Nat.add_assoc, Nat.reduceAdd]
  have e9 : p + 7 - 1 = p + 6 := by omega
  rw [e9]
  refine propext ⟨fun q => ?_, fun q => ?_⟩
  · obtain ⟨h1, h2, h3, k0, k1, k2, k3, k4, k5, k6⟩ := q
    exact ⟨⟨h1, h2, h3, k0, k1, k2, k6⟩, ⟨k3, k4, k5⟩⟩
  · obtain ⟨⟨h1, h2, h3, n0, n1, n2, n9⟩, ⟨m3, m4, m5⟩⟩ := q
    exact ⟨h1, h2, h3, n0, n1, n2, m3, m4, m5, n9⟩
theorem pp_at_2 {l p : Nat} {b : Nat → Nat} (hz : pp_BZ l b) : (pp_cx l b p = 2) = (pp_ia l b p 5 114 97 110 101 = true ∧ b (p + 3) = 103) := by
  rw [pp_cx_n (by decide), pp_nm_2 hz]
  unfold pp_ia
  simp only [decide_eq_true_eq, Nat.add_zero, Nat.add_assoc, Nat.reduceAdd]
  have e9 : p + 5 - 1 = p + 4 := by omega
  rw [e9]
  refine propext ⟨fun q => ?_, fun q => ?_⟩
  · obtain ⟨h1, h2, h3, k0, k1, k2, k3, k4⟩ := q
    exact ⟨⟨h1, h2, h3, k0, k1, k2, k4⟩, k3⟩
  · obtain ⟨⟨h1, h2, h3, n0, n1, n2, n9⟩, m3⟩ := q
    exact ⟨h1, h2, h3, n0, n1, n2, m3, n9⟩
theorem pp_at_3 {l p : Nat} {b : Nat → Nat} (hz : pp_BZ l b) : (pp_cx l b p = 3) = (pp_ia l b p 6 100 111 111 100 = true ∧ pp_sa b p 2 111 114 101 = true) := by
  rw [pp_cx_n (by decide), pp_nm_3 hz]
  unfold pp_ia pp_sa
  simp only [decide_eq_true_eq, Nat.add_zero, Nat.add_assoc, Nat.reduceAdd]
  have e9 : p + 6 - 1 = p + 5 := by omega
  rw [e9]
  refine propext ⟨fun q => ?_, fun q => ?_⟩
  · obtain ⟨h1, h2, h3, k0, k1, k2, k3, k4, k5⟩ := q
    exact ⟨⟨h1, h2, h3, k0, k1, k2, k5⟩, ⟨k2, k3, k4⟩⟩
  · obtain ⟨⟨h1, h2, h3, n0, n1, n2, n9⟩, ⟨m2, m3, m4⟩⟩ := q
    exact ⟨h1, h2, h3, n0, n1, n2, m3, m4, n9⟩
theorem pp_at_4 {l p : Nat} {b : Nat → Nat} (hz : pp_BZ l b) : (pp_cx l b p = 4) = (pp_ia l b p 8 112 111 114 101 = true ∧ pp_sa b p 3 116 97 98 = true ∧ b (p + 6) = 108) := by
  rw [pp_cx_n (by decide), pp_nm_4 hz]
  unfold pp_ia pp_sa
  simp only [decide_eq_true_eq, Nat.add_zero, Nat.add_assoc, Nat.reduceAdd]
  have e9 : p + 8 - 1 = p + 7 := by omega
  rw [e9]
  refine propext ⟨fun q => ?_, fun q => ?_⟩
  · obtain ⟨h1, h2, h3, k0, k1, k2, k3, k4, k5, k6, k7⟩ := q
    exact ⟨⟨h1, h2, h3, k0, k1, k2, k7⟩, ⟨k3, k4, k5⟩, k6⟩
  · obtain ⟨⟨h1, h2, h3, n0, n1, n2, n9⟩, ⟨m3, m4, m5⟩, m6⟩ := q
    exact ⟨h1, h2, h3, n0, n1, n2, m3, m4, m5, m6, n9⟩
theorem pp_at_5 {l p : Nat} {b : Nat → Nat} (hz : pp_BZ l b) : (pp_cx l b p = 5) = (pp_ia l b p 4 114 97 107 101 = true) := by
  rw [pp_cx_n (by decide), pp_nm_5 hz]
  unfold pp_ia
  simp only [decide_eq_true_eq, Nat.add_zero, Nat.add_assoc, Nat.reduceAdd]
  have e9 : p + 4 - 1 = p + 3 := by omega
  rw [e9]
theorem pp_at_7 {l p : Nat} {b : Nat → Nat} (hz : pp_BZ l b) : (pp_cx l b p = 7) = (pp_ia l b p 4 115 116 97 121 = true) := by
  rw [pp_cx_n (by decide), pp_nm_7 hz]
  unfold pp_ia
  simp only [decide_eq_true_eq, Nat.add_zero, Nat.add_assoc, Nat.reduceAdd]
  have e9 : p + 4 - 1 = p + 3 := by omega
  rw [e9]
theorem pp_at_8 {l p : Nat} {b : Nat → Nat} (hz : pp_BZ l b) : (pp_cx l b p = 8) = (pp_ia l b p 3 115 104 121 121 = true) := by
  rw [pp_cx_n (by decide), pp_nm_8 hz]
  unfold pp_ia
  simp only [decide_eq_true_eq, Nat.add_zero, Nat.add_assoc, Nat.reduceAdd]
  have e9 : p + 3 - 1 = p + 2 := by omega
  rw [e9]
  refine propext ⟨fun q => ?_, fun q => ?_⟩
  · obtain ⟨h1, h2, h3, k0, k1, k2⟩ := q
    exact ⟨h1, h2, h3, k0, k1, k2, k2⟩
  · obtain ⟨h1, h2, h3, n0, n1, n2, n9⟩ := q
    exact ⟨h1, h2, h3, n0, n1, n2⟩
theorem pp_at_11 {l p : Nat} {b : Nat → Nat} (hz : pp_BZ l b) : (pp_cx l b p = 11) = (pp_ia l b p 3 97 110 100 100 = true) := by
  rw [pp_cx_n (by decide), pp_nm_11 hz]
  unfold pp_ia
  simp only [decide_eq_true_eq, Nat.add_zero, Nat.add_assoc, Nat.reduceAdd]
  have e9 : p + 3 - 1 = p + 2 := by omega
  rw [e9]
  refine propext ⟨fun q => ?_, fun q => ?_⟩
  · obtain ⟨h1, h2, h3, k0, k1, k2⟩ := q
    exact ⟨h1, h2, h3, k0, k1, k2, k2⟩
  · obtain ⟨h1, h2, h3, n0, n1, n2, n9⟩ := q
    exact ⟨h1, h2, h3, n0, n1, n2⟩
theorem pp_at_12 {l p : Nat} {b : Nat → Nat} (hz : pp_BZ l b) : (pp_cx l b p = 12) = (pp_ia l b p 3 110 111 116 116 = true) := by
  rw [pp_cx_n (by decide), pp_nm_12 hz]
  unfold pp_ia
  simp only [decide_eq_true_eq, Nat.add_zero, Nat.add_assoc, Nat.reduceAdd]
  have e9 : p + 3 - 1 = p + 2 := by omega
  rw [e9]
  refine propext ⟨fun q => ?_, fun q => ?_⟩
  · obtain ⟨h1, h2, h3, k0, k1, k2⟩ := q
    exact ⟨h1, h2, h3, k0, k1, k2, k2⟩
  · obtain ⟨h1, h2, h3, n0, n1, n2, n9⟩ := q
    exact ⟨h1, h2, h3, n0, n1, n2⟩
theorem pp_at_13 {l p : Nat} {b : Nat → Nat} (hz : pp_BZ l b) : (pp_cx l b p = 13) = (pp_ia l b p 5 110 105 103 116 = true ∧ b (p + 3) = 104) := by
  rw [pp_cx_n (by decide), pp_nm_13 hz]
  unfold pp_ia
  simp only [decide_eq_true_eq, Nat.add_zero, Nat.add_assoc, Nat.reduceAdd]
  have e9 : p + 5 - 1 = p + 4 := by omega
  rw [e9]
  refine propext ⟨fun q => ?_, fun q => ?_⟩
  · obtain ⟨h1, h2, h3, k0, k1, k2, k3, k4⟩ := q
    exact ⟨⟨h1, h2, h3, k0, k1, k2, k4⟩, k3⟩
  · obtain ⟨⟨h1, h2, h3, n0, n1, n2, n9⟩, m3⟩ := q
    exact ⟨h1, h2, h3, n0, n1, n2, m3, n9⟩
theorem pp_at_14 {l p : Nat} {b : Nat → Nat} (hz : pp_BZ l b) : (pp_cx l b p = 14) = (pp_ia l b p 4 119 97 114 109 = true) := by
  rw [pp_cx_n (by decide), pp_nm_14 hz]
  unfold pp_ia
  simp only [decide_eq_true_eq, Nat.add_zero, Nat.add_assoc, Nat.reduceAdd]
  have e9 : p + 4 - 1 = p + 3 := by omega
  rw [e9]
theorem pp_at_15 {l p : Nat} {b : Nat → Nat} (hz : pp_BZ l b) : (pp_cx l b p = 15) = (pp_ia l b p 5 112 108 97 101 = true ∧ b (p + 3) = 99) := by
  rw [pp_cx_n (by decide), pp_nm_15 hz]
  unfold pp_ia
  simp only [decide_eq_true_eq, Nat.add_zero, Nat.add_assoc, Nat.reduceAdd]
  have e9 : p + 5 - 1 = p + 4 := by omega
  rw [e9]
  refine propext ⟨fun q => ?_, fun q => ?_⟩
  · obtain ⟨h1, h2, h3, k0, k1, k2, k3, k4⟩ := q
    exact ⟨⟨h1, h2, h3, k0, k1, k2, k4⟩, k3⟩
  · obtain ⟨⟨h1, h2, h3, n0, n1, n2, n9⟩, m3⟩ := q
    exact ⟨h1, h2, h3, n0, n1, n2, m3, n9⟩
theorem pp_at_16 {l p : Nat} {b : Nat → Nat} (hz : pp_BZ l b) : (pp_cx l b p = 16) = (pp_ia l b p 4 102 105 114 101 = true) := by
  rw [pp_cx_n (by decide), pp_nm_16 hz]
  unfold pp_ia
  simp only [decide_eq_true_eq, Nat.add_zero, Nat.add_assoc, Nat.reduceAdd]
  have e9 : p + 4 - 1 = p + 3 := by omega
  rw [e9]
theorem pp_at_17 {l p : Nat} {b : Nat → Nat} (hz : pp_BZ l b) : (pp_cx l b p = 17) = (pp_ia l b p 6 110 117 109 114 = true ∧ pp_sa b p 2 109 98 101 = true) := by
  rw [pp_cx_n (by decide), pp_nm_17 hz]
  unfold pp_ia pp_sa
  simp only [decide_eq_true_eq, Nat.add_zero, Nat.add_assoc, Nat.reduceAdd]
  have e9 : p + 6 - 1 = p + 5 := by omega
  rw [e9]
  refine propext ⟨fun q => ?_, fun q => ?_⟩
  · obtain ⟨h1, h2, h3, k0, k1, k2, k3, k4, k5⟩ := q
    exact ⟨⟨h1, h2, h3, k0, k1, k2, k5⟩, ⟨k2, k3, k4⟩⟩
  · obtain ⟨⟨h1, h2, h3, n0, n1, n2, n9⟩, ⟨m2, m3, m4⟩⟩ := q
    exact ⟨h1, h2, h3, n0, n1, n2, m3, m4, n9⟩
theorem pp_M_kind {l p : Nat} {b : Nat → Nat} {μ : g_M} (hT : pp_TB (μ 4) l b) (h5 : μ 0 5 = pp_i l) (hz : pp_BZ l b) (hK : pp_TK μ l b p) : f_X12_kindHere μ = some (if 0 ≤ pp_cx l b p ∧ pp_cx l b p ≤ 5 then pp_i (pp_cx l b p - 0) else -1) := by
  have hl := hT.1
  have hp := hK.2.1
  have r0 : f_X12_isName 4 111 118 101 110 μ = some (if pp_ia l b p 4 111 118 101 110 = true then 1 else 0) := pp_M_ia (n := 4) (c0 := 111) (c1 := 118) (c2 := 101) (c9 := 110) hT h5 hz hK (by decide) (by decide) (by decide) (by decide) (by decide) (by decide)
  have r1 : f_X12_isName 7 119 105 100 100 μ = some (if pp_ia l b p 7 119 105 100 100 = true then 1 else 0) := pp_M_ia (n := 7) (c0 := 119) (c1 := 105) (c2 := 100) (c9 := 100) hT h5 hz hK (by decide) (by decide) (by decide) (by decide) (by decide) (by decide)
  have s1 : f_X12_isSame 3 111 119 101 μ = some (if pp_sa b p 3 111 119 101 = true then 1 else 0) := pp_M_sa (i := 3) (c0 := 111) (c1 := 119) (c2 := 101) hT h5 hz hK (by decide) (by decide) (by decide) (by decide)
  have r2 : f_X12_isName 5 114 97 110 101 μ = some (if pp_ia l b p 5 114 97 110 101 = true then 1 else 0) := pp_M_ia (n := 5) (c0 := 114) (c1 := 97) (c2 := 110) (c9 := 101) hT h5 hz hK (by decide) (by decide) (by decide) (by decide) (by decide) (by decide)
  have t2 : ∀ A B : Option Int32, ((f_X12_byteAt ((μ 0 9) + 3) μ).bind fun x => if x = 103 then A else B) = if b (p + 3) = 103 then A else B := by
    intro A B
    rw [hK.1, show (3 : Int32) = pp_i 3 from rfl, show (103 : Int32) = pp_i 103 from rfl, pp_add]
    exact pp_M_bb (k := p + 3) (c := 103) hT h5 hz (by omega) (by decide) (by decide)
  have r3 : f_X12_isName 6 100 111 111 100 μ = some (if pp_ia l b p 6 100 111 111 100 = true then 1 else 0) := pp_M_ia (n := 6) (c0 := 100) (c1 := 111) (c2 := 111) (c9 := 100) hT h5 hz hK (by decide) (by decide) (by decide) (by decide) (by decide) (by decide)
  have s3 : f_X12_isSame 2 111 114 101 μ = some (if pp_sa b p 2 111 114 101 = true then 1 else 0) := pp_M_sa (i := 2) (c0 := 111) (c1 := 114) (c2 := 101) hT h5 hz hK (by decide) (by decide) (by decide) (by decide)
  have r4 : f_X12_isName 8 112 111 114 101 μ = some (if pp_ia l b p 8 112 111 114 101 = true then 1 else 0) := pp_M_ia (n := 8) (c0 := 112) (c1 := 111) (c2 := 114) (c9 := 101) hT h5 hz hK (by decide) (by decide) (by decide) (by decide) (by decide) (by decide)
  have s4 : f_X12_isSame 3 116 97 98 μ = some (if pp_sa b p 3 116 97 98 = true then 1 else 0) := pp_M_sa (i := 3) (c0 := 116) (c1 := 97) (c2 := 98) hT h5 hz hK (by decide) (by decide) (by decide) (by decide)
  have t4 : ∀ A B : Option Int32, ((f_X12_byteAt ((μ 0 9) + 6) μ).bind fun x => if x = 108 then A else B) = if b (p + 6) = 108 then A else B := by
    intro A B
    rw [hK.1, show (6 : Int32) = pp_i 6 from rfl, show (108 : Int32) = pp_i 108 from rfl, pp_add]
    exact pp_M_bb (k := p + 6) (c := 108) hT h5 hz (by omega) (by decide) (by decide)
  have r5 : f_X12_isName 4 114 97 107 101 μ = some (if pp_ia l b p 4 114 97 107 101 = true then 1 else 0) := pp_M_ia (n := 4) (c0 := 114) (c1 := 97) (c2 := 107) (c9 := 101) hT h5 hz hK (by decide) (by decide) (by decide) (by decide) (by decide) (by decide)
  unfold f_X12_kindHere
  simp only [r0, r1, s1, r2, t2, r3, s3, r4, s4, t4, r5, Option.bind_some, pp_b0]
  have a0 : pp_cx l b p = 0 ↔ (pp_ia l b p 4 111 118 101 110 = true) := Iff.of_eq (pp_at_0 (l := l) (p := p) hz)
  have a1 : pp_cx l b p = 1 ↔ (pp_ia l b p 7 119 105 100 100 = true ∧ pp_sa b p 3 111 119 101 = true) := Iff.of_eq (pp_at_1 (l := l) (p := p) hz)
  have a2 : pp_cx l b p = 2 ↔ (pp_ia l b p 5 114 97 110 101 = true ∧ b (p + 3) = 103) := Iff.of_eq (pp_at_2 (l := l) (p := p) hz)
  have a3 : pp_cx l b p = 3 ↔ (pp_ia l b p 6 100 111 111 100 = true ∧ pp_sa b p 2 111 114 101 = true) := Iff.of_eq (pp_at_3 (l := l) (p := p) hz)
  have a4 : pp_cx l b p = 4 ↔ (pp_ia l b p 8 112 111 114 101 = true ∧ pp_sa b p 3 116 97 98 = true ∧ b (p + 6) = 108) := Iff.of_eq (pp_at_4 (l := l) (p := p) hz)
  have a5 : pp_cx l b p = 5 ↔ (pp_ia l b p 4 114 97 107 101 = true) := Iff.of_eq (pp_at_5 (l := l) (p := p) hz)
  by_cases c1 : pp_ia l b p 4 111 118 101 110 = true
  · rw [if_neg (fun q => q c1)]
    have hc : pp_cx l b p = 0 := a0.mpr c1
    rw [hc]
    rfl
  · rw [if_pos c1]
    by_cases c2 : pp_ia l b p 7 119 105 100 100 = true
    · rw [if_neg (fun q => q c2)]
      by_cases c3 : pp_sa b p 3 111 119 101 = true
      · rw [if_neg (fun q => q c3)]
        have hc : pp_cx l b p = 1 := a1.mpr ⟨c2, c3⟩
        rw [hc]
        rfl
      · rw [if_pos c3]
        by_cases c4 : pp_ia l b p 5 114 97 110 101 = true
        · rw [if_neg (fun q => q c4)]
          by_cases c5 : b (p + 3) = 103
          · rw [if_pos c5]
            have hc : pp_cx l b p = 2 := a2.mpr ⟨c4, c5⟩
            rw [hc]
            rfl
          · rw [if_neg c5]
            by_cases c6 : pp_ia l b p 6 100 111 111 100 = true
            · rw [if_neg (fun q => q c6)]
              by_cases c7 : pp_sa b p 2 111 114 101 = true
              · rw [if_neg (fun q => q c7)]
                have hc : pp_cx l b p = 3 := a3.mpr ⟨c6, c7⟩
                rw [hc]
                rfl
              · rw [if_pos c7]
                by_cases c8 : pp_ia l b p 8 112 111 114 101 = true
                · rw [if_neg (fun q => q c8)]
                  by_cases c9 : pp_sa b p 3 116 97 98 = true
                  · rw [if_neg (fun q => q c9)]
                    by_cases c10 : b (p + 6) = 108
                    · rw [if_pos c10]
                      have hc : pp_cx l b p = 4 := a4.mpr ⟨c8, c9, c10⟩
                      rw [hc]
                      rfl
                    · rw [if_neg c10]
                      by_cases c11 : pp_ia l b p 4 114 97 107 101 = true
                      · rw [if_neg (fun q => q c11)]
                        have hc : pp_cx l b p = 5 := a5.mpr c11
                        rw [hc]
                        rfl
                      · rw [if_pos c11]
                        have hno : ¬ (0 ≤ pp_cx l b p ∧ pp_cx l b p ≤ 5) := by
                          intro q
                          have hc : pp_cx l b p = 0 ∨ pp_cx l b p = 1 ∨ pp_cx l b p = 2 ∨ pp_cx l b p = 3 ∨ pp_cx l b p = 4 ∨ pp_cx l b p = 5 := by omega
                          rcases hc with hc | hc | hc | hc | hc | hc
                          · have x : pp_ia l b p 4 111 118 101 110 = true := a0.mp hc
                            exact c1 x
                          · have x : pp_ia l b p 7 119 105 100 100 = true ∧ pp_sa b p 3 111 119 101 = true := a1.mp hc
                            exact c3 x.2
                          · have x : pp_ia l b p 5 114 97 110 101 = true ∧ b (p + 3) = 103 := a2.mp hc
                            exact c5 x.2
                          · have x : pp_ia l b p 6 100 111 111 100 = true ∧ pp_sa b p 2 111 114 101 = true := a3.mp hc
                            exact c7 x.2
                          · have x : pp_ia l b p 8 112 111 114 101 = true ∧ pp_sa b p 3 116 97 98 = true ∧ b (p + 6) = 108 := a4.mp hc
                            exact c10 x.2.2
                          · have x : pp_ia l b p 4 114 97 107 101 = true := a5.mp hc
                            exact c11 x
                        rw [if_neg hno]
                  · rw [if_pos c9]
                    by_cases c12 : pp_ia l b p 4 114 97 107 101 = true
                    · rw [if_neg (fun q => q c12)]
                      have hc : pp_cx l b p = 5 := a5.mpr c12
                      rw [hc]
                      rfl
                    · rw [if_pos c12]
                      have hno : ¬ (0 ≤ pp_cx l b p ∧ pp_cx l b p ≤ 5) := by
                        intro q
                        have hc : pp_cx l b p = 0 ∨ pp_cx l b p = 1 ∨ pp_cx l b p = 2 ∨ pp_cx l b p = 3 ∨ pp_cx l b p = 4 ∨ pp_cx l b p = 5 := by omega
                        rcases hc with hc | hc | hc | hc | hc | hc
                        · have x : pp_ia l b p 4 111 118 101 110 = true := a0.mp hc
                          exact c1 x
                        · have x : pp_ia l b p 7 119 105 100 100 = true ∧ pp_sa b p 3 111 119 101 = true := a1.mp hc
                          exact c3 x.2
                        · have x : pp_ia l b p 5 114 97 110 101 = true ∧ b (p + 3) = 103 := a2.mp hc
                          exact c5 x.2
                        · have x : pp_ia l b p 6 100 111 111 100 = true ∧ pp_sa b p 2 111 114 101 = true := a3.mp hc
                          exact c7 x.2
                        · have x : pp_ia l b p 8 112 111 114 101 = true ∧ pp_sa b p 3 116 97 98 = true ∧ b (p + 6) = 108 := a4.mp hc
                          exact c9 x.2.1
                        · have x : pp_ia l b p 4 114 97 107 101 = true := a5.mp hc
                          exact c12 x
                      rw [if_neg hno]
                · rw [if_pos c8]
                  by_cases c13 : pp_ia l b p 4 114 97 107 101 = true
                  · rw [if_neg (fun q => q c13)]
                    have hc : pp_cx l b p = 5 := a5.mpr c13
                    rw [hc]
                    rfl
                  · rw [if_pos c13]
                    have hno : ¬ (0 ≤ pp_cx l b p ∧ pp_cx l b p ≤ 5) := by
                      intro q
                      have hc : pp_cx l b p = 0 ∨ pp_cx l b p = 1 ∨ pp_cx l b p = 2 ∨ pp_cx l b p = 3 ∨ pp_cx l b p = 4 ∨ pp_cx l b p = 5 := by omega
                      rcases hc with hc | hc | hc | hc | hc | hc
                      · have x : pp_ia l b p 4 111 118 101 110 = true := a0.mp hc
                        exact c1 x
                      · have x : pp_ia l b p 7 119 105 100 100 = true ∧ pp_sa b p 3 111 119 101 = true := a1.mp hc
                        exact c3 x.2
                      · have x : pp_ia l b p 5 114 97 110 101 = true ∧ b (p + 3) = 103 := a2.mp hc
                        exact c5 x.2
                      · have x : pp_ia l b p 6 100 111 111 100 = true ∧ pp_sa b p 2 111 114 101 = true := a3.mp hc
                        exact c7 x.2
                      · have x : pp_ia l b p 8 112 111 114 101 = true ∧ pp_sa b p 3 116 97 98 = true ∧ b (p + 6) = 108 := a4.mp hc
                        exact c8 x.1
                      · have x : pp_ia l b p 4 114 97 107 101 = true := a5.mp hc
                        exact c13 x
                    rw [if_neg hno]
            · rw [if_pos c6]
              by_cases c14 : pp_ia l b p 8 112 111 114 101 = true
              · rw [if_neg (fun q => q c14)]
                by_cases c15 : pp_sa b p 3 116 97 98 = true
                · rw [if_neg (fun q => q c15)]
                  by_cases c16 : b (p + 6) = 108
                  · rw [if_pos c16]
                    have hc : pp_cx l b p = 4 := a4.mpr ⟨c14, c15, c16⟩
                    rw [hc]
                    rfl
                  · rw [if_neg c16]
                    by_cases c17 : pp_ia l b p 4 114 97 107 101 = true
                    · rw [if_neg (fun q => q c17)]
                      have hc : pp_cx l b p = 5 := a5.mpr c17
                      rw [hc]
                      rfl
                    · rw [if_pos c17]
                      have hno : ¬ (0 ≤ pp_cx l b p ∧ pp_cx l b p ≤ 5) := by
                        intro q
                        have hc : pp_cx l b p = 0 ∨ pp_cx l b p = 1 ∨ pp_cx l b p = 2 ∨ pp_cx l b p = 3 ∨ pp_cx l b p = 4 ∨ pp_cx l b p = 5 := by omega
                        rcases hc with hc | hc | hc | hc | hc | hc
                        · have x : pp_ia l b p 4 111 118 101 110 = true := a0.mp hc
                          exact c1 x
                        · have x : pp_ia l b p 7 119 105 100 100 = true ∧ pp_sa b p 3 111 119 101 = true := a1.mp hc
                          exact c3 x.2
                        · have x : pp_ia l b p 5 114 97 110 101 = true ∧ b (p + 3) = 103 := a2.mp hc
                          exact c5 x.2
                        · have x : pp_ia l b p 6 100 111 111 100 = true ∧ pp_sa b p 2 111 114 101 = true := a3.mp hc
                          exact c6 x.1
                        · have x : pp_ia l b p 8 112 111 114 101 = true ∧ pp_sa b p 3 116 97 98 = true ∧ b (p + 6) = 108 := a4.mp hc
                          exact c16 x.2.2
                        · have x : pp_ia l b p 4 114 97 107 101 = true := a5.mp hc
                          exact c17 x
                      rw [if_neg hno]
                · rw [if_pos c15]
                  by_cases c18 : pp_ia l b p 4 114 97 107 101 = true
                  · rw [if_neg (fun q => q c18)]
                    have hc : pp_cx l b p = 5 := a5.mpr c18
                    rw [hc]
                    rfl
                  · rw [if_pos c18]
                    have hno : ¬ (0 ≤ pp_cx l b p ∧ pp_cx l b p ≤ 5) := by
                      intro q
                      have hc : pp_cx l b p = 0 ∨ pp_cx l b p = 1 ∨ pp_cx l b p = 2 ∨ pp_cx l b p = 3 ∨ pp_cx l b p = 4 ∨ pp_cx l b p = 5 := by omega
                      rcases hc with hc | hc | hc | hc | hc | hc
                      · have x : pp_ia l b p 4 111 118 101 110 = true := a0.mp hc
                        exact c1 x
                      · have x : pp_ia l b p 7 119 105 100 100 = true ∧ pp_sa b p 3 111 119 101 = true := a1.mp hc
                        exact c3 x.2
                      · have x : pp_ia l b p 5 114 97 110 101 = true ∧ b (p + 3) = 103 := a2.mp hc
                        exact c5 x.2
                      · have x : pp_ia l b p 6 100 111 111 100 = true ∧ pp_sa b p 2 111 114 101 = true := a3.mp hc
                        exact c6 x.1
                      · have x : pp_ia l b p 8 112 111 114 101 = true ∧ pp_sa b p 3 116 97 98 = true ∧ b (p + 6) = 108 := a4.mp hc
                        exact c15 x.2.1
                      · have x : pp_ia l b p 4 114 97 107 101 = true := a5.mp hc
                        exact c18 x
                    rw [if_neg hno]
              · rw [if_pos c14]
                by_cases c19 : pp_ia l b p 4 114 97 107 101 = true
                · rw [if_neg (fun q => q c19)]
                  have hc : pp_cx l b p = 5 := a5.mpr c19
                  rw [hc]
                  rfl
                · rw [if_pos c19]
                  have hno : ¬ (0 ≤ pp_cx l b p ∧ pp_cx l b p ≤ 5) := by
                    intro q
                    have hc : pp_cx l b p = 0 ∨ pp_cx l b p = 1 ∨ pp_cx l b p = 2 ∨ pp_cx l b p = 3 ∨ pp_cx l b p = 4 ∨ pp_cx l b p = 5 := by omega
                    rcases hc with hc | hc | hc | hc | hc | hc
                    · have x : pp_ia l b p 4 111 118 101 110 = true := a0.mp hc
                      exact c1 x
                    · have x : pp_ia l b p 7 119 105 100 100 = true ∧ pp_sa b p 3 111 119 101 = true := a1.mp hc
                      exact c3 x.2
                    · have x : pp_ia l b p 5 114 97 110 101 = true ∧ b (p + 3) = 103 := a2.mp hc
                      exact c5 x.2
                    · have x : pp_ia l b p 6 100 111 111 100 = true ∧ pp_sa b p 2 111 114 101 = true := a3.mp hc
                      exact c6 x.1
                    · have x : pp_ia l b p 8 112 111 114 101 = true ∧ pp_sa b p 3 116 97 98 = true ∧ b (p + 6) = 108 := a4.mp hc
                      exact c14 x.1
                    · have x : pp_ia l b p 4 114 97 107 101 = true := a5.mp hc
                      exact c19 x
                  rw [if_neg hno]
        · rw [if_pos c4]
          by_cases c20 : pp_ia l b p 6 100 111 111 100 = true
          · rw [if_neg (fun q => q c20)]
            by_cases c21 : pp_sa b p 2 111 114 101 = true
            · rw [if_neg (fun q => q c21)]
              have hc : pp_cx l b p = 3 := a3.mpr ⟨c20, c21⟩
              rw [hc]
              rfl
            · rw [if_pos c21]
              by_cases c22 : pp_ia l b p 8 112 111 114 101 = true
              · rw [if_neg (fun q => q c22)]
                by_cases c23 : pp_sa b p 3 116 97 98 = true
                · rw [if_neg (fun q => q c23)]
                  by_cases c24 : b (p + 6) = 108
                  · rw [if_pos c24]
                    have hc : pp_cx l b p = 4 := a4.mpr ⟨c22, c23, c24⟩
                    rw [hc]
                    rfl
                  · rw [if_neg c24]
                    by_cases c25 : pp_ia l b p 4 114 97 107 101 = true
                    · rw [if_neg (fun q => q c25)]
                      have hc : pp_cx l b p = 5 := a5.mpr c25
                      rw [hc]
                      rfl
                    · rw [if_pos c25]
                      have hno : ¬ (0 ≤ pp_cx l b p ∧ pp_cx l b p ≤ 5) := by
                        intro q
                        have hc : pp_cx l b p = 0 ∨ pp_cx l b p = 1 ∨ pp_cx l b p = 2 ∨ pp_cx l b p = 3 ∨ pp_cx l b p = 4 ∨ pp_cx l b p = 5 := by omega
                        rcases hc with hc | hc | hc | hc | hc | hc
                        · have x : pp_ia l b p 4 111 118 101 110 = true := a0.mp hc
                          exact c1 x
                        · have x : pp_ia l b p 7 119 105 100 100 = true ∧ pp_sa b p 3 111 119 101 = true := a1.mp hc
                          exact c3 x.2
                        · have x : pp_ia l b p 5 114 97 110 101 = true ∧ b (p + 3) = 103 := a2.mp hc
                          exact c4 x.1
                        · have x : pp_ia l b p 6 100 111 111 100 = true ∧ pp_sa b p 2 111 114 101 = true := a3.mp hc
                          exact c21 x.2
                        · have x : pp_ia l b p 8 112 111 114 101 = true ∧ pp_sa b p 3 116 97 98 = true ∧ b (p + 6) = 108 := a4.mp hc
                          exact c24 x.2.2
                        · have x : pp_ia l b p 4 114 97 107 101 = true := a5.mp hc
                          exact c25 x
                      rw [if_neg hno]
                · rw [if_pos c23]
                  by_cases c26 : pp_ia l b p 4 114 97 107 101 = true
                  · rw [if_neg (fun q => q c26)]
                    have hc : pp_cx l b p = 5 := a5.mpr c26
                    rw [hc]
                    rfl
                  · rw [if_pos c26]
                    have hno : ¬ (0 ≤ pp_cx l b p ∧ pp_cx l b p ≤ 5) := by
                      intro q
                      have hc : pp_cx l b p = 0 ∨ pp_cx l b p = 1 ∨ pp_cx l b p = 2 ∨ pp_cx l b p = 3 ∨ pp_cx l b p = 4 ∨ pp_cx l b p = 5 := by omega
                      rcases hc with hc | hc | hc | hc | hc | hc
                      · have x : pp_ia l b p 4 111 118 101 110 = true := a0.mp hc
                        exact c1 x
                      · have x : pp_ia l b p 7 119 105 100 100 = true ∧ pp_sa b p 3 111 119 101 = true := a1.mp hc
                        exact c3 x.2
                      · have x : pp_ia l b p 5 114 97 110 101 = true ∧ b (p + 3) = 103 := a2.mp hc
                        exact c4 x.1
                      · have x : pp_ia l b p 6 100 111 111 100 = true ∧ pp_sa b p 2 111 114 101 = true := a3.mp hc
                        exact c21 x.2
                      · have x : pp_ia l b p 8 112 111 114 101 = true ∧ pp_sa b p 3 116 97 98 = true ∧ b (p + 6) = 108 := a4.mp hc
                        exact c23 x.2.1
                      · have x : pp_ia l b p 4 114 97 107 101 = true := a5.mp hc
                        exact c26 x
                    rw [if_neg hno]
              · rw [if_pos c22]
                by_cases c27 : pp_ia l b p 4 114 97 107 101 = true
                · rw [if_neg (fun q => q c27)]
                  have hc : pp_cx l b p = 5 := a5.mpr c27
                  rw [hc]
                  rfl
                · rw [if_pos c27]
                  have hno : ¬ (0 ≤ pp_cx l b p ∧ pp_cx l b p ≤ 5) := by
                    intro q
                    have hc : pp_cx l b p = 0 ∨ pp_cx l b p = 1 ∨ pp_cx l b p = 2 ∨ pp_cx l b p = 3 ∨ pp_cx l b p = 4 ∨ pp_cx l b p = 5 := by omega
                    rcases hc with hc | hc | hc | hc | hc | hc
                    · have x : pp_ia l b p 4 111 118 101 110 = true := a0.mp hc
                      exact c1 x
                    · have x : pp_ia l b p 7 119 105 100 100 = true ∧ pp_sa b p 3 111 119 101 = true := a1.mp hc
                      exact c3 x.2
                    · have x : pp_ia l b p 5 114 97 110 101 = true ∧ b (p + 3) = 103 := a2.mp hc
                      exact c4 x.1
                    · have x : pp_ia l b p 6 100 111 111 100 = true ∧ pp_sa b p 2 111 114 101 = true := a3.mp hc
                      exact c21 x.2
                    · have x : pp_ia l b p 8 112 111 114 101 = true ∧ pp_sa b p 3 116 97 98 = true ∧ b (p + 6) = 108 := a4.mp hc
                      exact c22 x.1
                    · have x : pp_ia l b p 4 114 97 107 101 = true := a5.mp hc
                      exact c27 x
                  rw [if_neg hno]
          · rw [if_pos c20]
            by_cases c28 : pp_ia l b p 8 112 111 114 101 = true
            · rw [if_neg (fun q => q c28)]
              by_cases c29 : pp_sa b p 3 116 97 98 = true
              · rw [if_neg (fun q => q c29)]
                by_cases c30 : b (p + 6) = 108
                · rw [if_pos c30]
                  have hc : pp_cx l b p = 4 := a4.mpr ⟨c28, c29, c30⟩
                  rw [hc]
                  rfl
                · rw [if_neg c30]
                  by_cases c31 : pp_ia l b p 4 114 97 107 101 = true
                  · rw [if_neg (fun q => q c31)]
                    have hc : pp_cx l b p = 5 := a5.mpr c31
                    rw [hc]
                    rfl
                  · rw [if_pos c31]
                    have hno : ¬ (0 ≤ pp_cx l b p ∧ pp_cx l b p ≤ 5) := by
                      intro q
                      have hc : pp_cx l b p = 0 ∨ pp_cx l b p = 1 ∨ pp_cx l b p = 2 ∨ pp_cx l b p = 3 ∨ pp_cx l b p = 4 ∨ pp_cx l b p = 5 := by omega
                      rcases hc with hc | hc | hc | hc | hc | hc
                      · have x : pp_ia l b p 4 111 118 101 110 = true := a0.mp hc
                        exact c1 x
                      · have x : pp_ia l b p 7 119 105 100 100 = true ∧ pp_sa b p 3 111 119 101 = true := a1.mp hc
                        exact c3 x.2
                      · have x : pp_ia l b p 5 114 97 110 101 = true ∧ b (p + 3) = 103 := a2.mp hc
                        exact c4 x.1
                      · have x : pp_ia l b p 6 100 111 111 100 = true ∧ pp_sa b p 2 111 114 101 = true := a3.mp hc
                        exact c20 x.1
                      · have x : pp_ia l b p 8 112 111 114 101 = true ∧ pp_sa b p 3 116 97 98 = true ∧ b (p + 6) = 108 := a4.mp hc
                        exact c30 x.2.2
                      · have x : pp_ia l b p 4 114 97 107 101 = true := a5.mp hc
                        exact c31 x
                    rw [if_neg hno]
              · rw [if_pos c29]
                by_cases c32 : pp_ia l b p 4 114 97 107 101 = true
                · rw [if_neg (fun q => q c32)]
                  have hc : pp_cx l b p = 5 := a5.mpr c32
                  rw [hc]
                  rfl
                · rw [if_pos c32]
                  have hno : ¬ (0 ≤ pp_cx l b p ∧ pp_cx l b p ≤ 5) := by
                    intro q
                    have hc : pp_cx l b p = 0 ∨ pp_cx l b p = 1 ∨ pp_cx l b p = 2 ∨ pp_cx l b p = 3 ∨ pp_cx l b p = 4 ∨ pp_cx l b p = 5 := by omega
                    rcases hc with hc | hc | hc | hc | hc | hc
                    · have x : pp_ia l b p 4 111 118 101 110 = true := a0.mp hc
                      exact c1 x
                    · have x : pp_ia l b p 7 119 105 100 100 = true ∧ pp_sa b p 3 111 119 101 = true := a1.mp hc
                      exact c3 x.2
                    · have x : pp_ia l b p 5 114 97 110 101 = true ∧ b (p + 3) = 103 := a2.mp hc
                      exact c4 x.1
                    · have x : pp_ia l b p 6 100 111 111 100 = true ∧ pp_sa b p 2 111 114 101 = true := a3.mp hc
                      exact c20 x.1
                    · have x : pp_ia l b p 8 112 111 114 101 = true ∧ pp_sa b p 3 116 97 98 = true ∧ b (p + 6) = 108 := a4.mp hc
                      exact c29 x.2.1
                    · have x : pp_ia l b p 4 114 97 107 101 = true := a5.mp hc
                      exact c32 x
                  rw [if_neg hno]
            · rw [if_pos c28]
              by_cases c33 : pp_ia l b p 4 114 97 107 101 = true
              · rw [if_neg (fun q => q c33)]
                have hc : pp_cx l b p = 5 := a5.mpr c33
                rw [hc]
                rfl
              · rw [if_pos c33]
                have hno : ¬ (0 ≤ pp_cx l b p ∧ pp_cx l b p ≤ 5) := by
                  intro q
                  have hc : pp_cx l b p = 0 ∨ pp_cx l b p = 1 ∨ pp_cx l b p = 2 ∨ pp_cx l b p = 3 ∨ pp_cx l b p = 4 ∨ pp_cx l b p = 5 := by omega
                  rcases hc with hc | hc | hc | hc | hc | hc
                  · have x : pp_ia l b p 4 111 118 101 110 = true := a0.mp hc
                    exact c1 x
                  · have x : pp_ia l b p 7 119 105 100 100 = true ∧ pp_sa b p 3 111 119 101 = true := a1.mp hc
                    exact c3 x.2
                  · have x : pp_ia l b p 5 114 97 110 101 = true ∧ b (p + 3) = 103 := a2.mp hc
                    exact c4 x.1
                  · have x : pp_ia l b p 6 100 111 111 100 = true ∧ pp_sa b p 2 111 114 101 = true := a3.mp hc
                    exact c20 x.1
                  · have x : pp_ia l b p 8 112 111 114 101 = true ∧ pp_sa b p 3 116 97 98 = true ∧ b (p + 6) = 108 := a4.mp hc
                    exact c28 x.1
                  · have x : pp_ia l b p 4 114 97 107 101 = true := a5.mp hc
                    exact c33 x
                rw [if_neg hno]
    · rw [if_pos c2]
      by_cases c34 : pp_ia l b p 5 114 97 110 101 = true
      · rw [if_neg (fun q => q c34)]
        by_cases c35 : b (p + 3) = 103
        · rw [if_pos c35]
          have hc : pp_cx l b p = 2 := a2.mpr ⟨c34, c35⟩
          rw [hc]
          rfl
        · rw [if_neg c35]
          by_cases c36 : pp_ia l b p 6 100 111 111 100 = true
          · rw [if_neg (fun q => q c36)]
            by_cases c37 : pp_sa b p 2 111 114 101 = true
            · rw [if_neg (fun q => q c37)]
              have hc : pp_cx l b p = 3 := a3.mpr ⟨c36, c37⟩
              rw [hc]
              rfl
            · rw [if_pos c37]
              by_cases c38 : pp_ia l b p 8 112 111 114 101 = true
              · rw [if_neg (fun q => q c38)]
                by_cases c39 : pp_sa b p 3 116 97 98 = true
                · rw [if_neg (fun q => q c39)]
                  by_cases c40 : b (p + 6) = 108
                  · rw [if_pos c40]
                    have hc : pp_cx l b p = 4 := a4.mpr ⟨c38, c39, c40⟩
                    rw [hc]
                    rfl
                  · rw [if_neg c40]
                    by_cases c41 : pp_ia l b p 4 114 97 107 101 = true
                    · rw [if_neg (fun q => q c41)]
                      have hc : pp_cx l b p = 5 := a5.mpr c41
                      rw [hc]
                      rfl
                    · rw [if_pos c41]
                      have hno : ¬ (0 ≤ pp_cx l b p ∧ pp_cx l b p ≤ 5) := by
                        intro q
                        have hc : pp_cx l b p = 0 ∨ pp_cx l b p = 1 ∨ pp_cx l b p = 2 ∨ pp_cx l b p = 3 ∨ pp_cx l b p = 4 ∨ pp_cx l b p = 5 := by omega
                        rcases hc with hc | hc | hc | hc | hc | hc
                        · have x : pp_ia l b p 4 111 118 101 110 = true := a0.mp hc
                          exact c1 x
                        · have x : pp_ia l b p 7 119 105 100 100 = true ∧ pp_sa b p 3 111 119 101 = true := a1.mp hc
                          exact c2 x.1
                        · have x : pp_ia l b p 5 114 97 110 101 = true ∧ b (p + 3) = 103 := a2.mp hc
                          exact c35 x.2
                        · have x : pp_ia l b p 6 100 111 111 100 = true ∧ pp_sa b p 2 111 114 101 = true := a3.mp hc
                          exact c37 x.2
                        · have x : pp_ia l b p 8 112 111 114 101 = true ∧ pp_sa b p 3 116 97 98 = true ∧ b (p + 6) = 108 := a4.mp hc
                          exact c40 x.2.2
                        · have x : pp_ia l b p 4 114 97 107 101 = true := a5.mp hc
                          exact c41 x
                      rw [if_neg hno]
                · rw [if_pos c39]
                  by_cases c42 : pp_ia l b p 4 114 97 107 101 = true
                  · rw [if_neg (fun q => q c42)]
                    have hc : pp_cx l b p = 5 := a5.mpr c42
                    rw [hc]
                    rfl
                  · rw [if_pos c42]
                    have hno : ¬ (0 ≤ pp_cx l b p ∧ pp_cx l b p ≤ 5) := by
                      intro q
                      have hc : pp_cx l b p = 0 ∨ pp_cx l b p = 1 ∨ pp_cx l b p = 2 ∨ pp_cx l b p = 3 ∨ pp_cx l b p = 4 ∨ pp_cx l b p = 5 := by omega
                      rcases hc with hc | hc | hc | hc | hc | hc
                      · have x : pp_ia l b p 4 111 118 101 110 = true := a0.mp hc
                        exact c1 x
                      · have x : pp_ia l b p 7 119 105 100 100 = true ∧ pp_sa b p 3 111 119 101 = true := a1.mp hc
                        exact c2 x.1
                      · have x : pp_ia l b p 5 114 97 110 101 = true ∧ b (p + 3) = 103 := a2.mp hc
                        exact c35 x.2
                      · have x : pp_ia l b p 6 100 111 111 100 = true ∧ pp_sa b p 2 111 114 101 = true := a3.mp hc
                        exact c37 x.2
                      · have x : pp_ia l b p 8 112 111 114 101 = true ∧ pp_sa b p 3 116 97 98 = true ∧ b (p + 6) = 108 := a4.mp hc
                        exact c39 x.2.1
                      · have x : pp_ia l b p 4 114 97 107 101 = true := a5.mp hc
                        exact c42 x
                    rw [if_neg hno]
              · rw [if_pos c38]
                by_cases c43 : pp_ia l b p 4 114 97 107 101 = true
                · rw [if_neg (fun q => q c43)]
                  have hc : pp_cx l b p = 5 := a5.mpr c43
                  rw [hc]
                  rfl
                · rw [if_pos c43]
                  have hno : ¬ (0 ≤ pp_cx l b p ∧ pp_cx l b p ≤ 5) := by
                    intro q
                    have hc : pp_cx l b p = 0 ∨ pp_cx l b p = 1 ∨ pp_cx l b p = 2 ∨ pp_cx l b p = 3 ∨ pp_cx l b p = 4 ∨ pp_cx l b p = 5 := by omega
                    rcases hc with hc | hc | hc | hc | hc | hc
                    · have x : pp_ia l b p 4 111 118 101 110 = true := a0.mp hc
                      exact c1 x
                    · have x : pp_ia l b p 7 119 105 100 100 = true ∧ pp_sa b p 3 111 119 101 = true := a1.mp hc
                      exact c2 x.1
                    · have x : pp_ia l b p 5 114 97 110 101 = true ∧ b (p + 3) = 103 := a2.mp hc
                      exact c35 x.2
                    · have x : pp_ia l b p 6 100 111 111 100 = true ∧ pp_sa b p 2 111 114 101 = true := a3.mp hc
                      exact c37 x.2
                    · have x : pp_ia l b p 8 112 111 114 101 = true ∧ pp_sa b p 3 116 97 98 = true ∧ b (p + 6) = 108 := a4.mp hc
                      exact c38 x.1
                    · have x : pp_ia l b p 4 114 97 107 101 = true := a5.mp hc
                      exact c43 x
                  rw [if_neg hno]
          · rw [if_pos c36]
            by_cases c44 : pp_ia l b p 8 112 111 114 101 = true
            · rw [if_neg (fun q => q c44)]
              by_cases c45 : pp_sa b p 3 116 97 98 = true
              · rw [if_neg (fun q => q c45)]
                by_cases c46 : b (p + 6) = 108
                · rw [if_pos c46]
                  have hc : pp_cx l b p = 4 := a4.mpr ⟨c44, c45, c46⟩
                  rw [hc]
                  rfl
                · rw [if_neg c46]
                  by_cases c47 : pp_ia l b p 4 114 97 107 101 = true
                  · rw [if_neg (fun q => q c47)]
                    have hc : pp_cx l b p = 5 := a5.mpr c47
                    rw [hc]
                    rfl
                  · rw [if_pos c47]
                    have hno : ¬ (0 ≤ pp_cx l b p ∧ pp_cx l b p ≤ 5) := by
                      intro q
                      have hc : pp_cx l b p = 0 ∨ pp_cx l b p = 1 ∨ pp_cx l b p = 2 ∨ pp_cx l b p = 3 ∨ pp_cx l b p = 4 ∨ pp_cx l b p = 5 := by omega
                      rcases hc with hc | hc | hc | hc | hc | hc
                      · have x : pp_ia l b p 4 111 118 101 110 = true := a0.mp hc
                        exact c1 x
                      · have x : pp_ia l b p 7 119 105 100 100 = true ∧ pp_sa b p 3 111 119 101 = true := a1.mp hc
                        exact c2 x.1
                      · have x : pp_ia l b p 5 114 97 110 101 = true ∧ b (p + 3) = 103 := a2.mp hc
                        exact c35 x.2
                      · have x : pp_ia l b p 6 100 111 111 100 = true ∧ pp_sa b p 2 111 114 101 = true := a3.mp hc
                        exact c36 x.1
                      · have x : pp_ia l b p 8 112 111 114 101 = true ∧ pp_sa b p 3 116 97 98 = true ∧ b (p + 6) = 108 := a4.mp hc
                        exact c46 x.2.2
                      · have x : pp_ia l b p 4 114 97 107 101 = true := a5.mp hc
                        exact c47 x
                    rw [if_neg hno]
              · rw [if_pos c45]
                by_cases c48 : pp_ia l b p 4 114 97 107 101 = true
                · rw [if_neg (fun q => q c48)]
                  have hc : pp_cx l b p = 5 := a5.mpr c48
                  rw [hc]
                  rfl
                · rw [if_pos c48]
                  have hno : ¬ (0 ≤ pp_cx l b p ∧ pp_cx l b p ≤ 5) := by
                    intro q
                    have hc : pp_cx l b p = 0 ∨ pp_cx l b p = 1 ∨ pp_cx l b p = 2 ∨ pp_cx l b p = 3 ∨ pp_cx l b p = 4 ∨ pp_cx l b p = 5 := by omega
                    rcases hc with hc | hc | hc | hc | hc | hc
                    · have x : pp_ia l b p 4 111 118 101 110 = true := a0.mp hc
                      exact c1 x
                    · have x : pp_ia l b p 7 119 105 100 100 = true ∧ pp_sa b p 3 111 119 101 = true := a1.mp hc
                      exact c2 x.1
                    · have x : pp_ia l b p 5 114 97 110 101 = true ∧ b (p + 3) = 103 := a2.mp hc
                      exact c35 x.2
                    · have x : pp_ia l b p 6 100 111 111 100 = true ∧ pp_sa b p 2 111 114 101 = true := a3.mp hc
                      exact c36 x.1
                    · have x : pp_ia l b p 8 112 111 114 101 = true ∧ pp_sa b p 3 116 97 98 = true ∧ b (p + 6) = 108 := a4.mp hc
                      exact c45 x.2.1
                    · have x : pp_ia l b p 4 114 97 107 101 = true := a5.mp hc
                      exact c48 x
                  rw [if_neg hno]
            · rw [if_pos c44]
              by_cases c49 : pp_ia l b p 4 114 97 107 101 = true
              · rw [if_neg (fun q => q c49)]
                have hc : pp_cx l b p = 5 := a5.mpr c49
                rw [hc]
                rfl
              · rw [if_pos c49]
                have hno : ¬ (0 ≤ pp_cx l b p ∧ pp_cx l b p ≤ 5) := by
                  intro q
                  have hc : pp_cx l b p = 0 ∨ pp_cx l b p = 1 ∨ pp_cx l b p = 2 ∨ pp_cx l b p = 3 ∨ pp_cx l b p = 4 ∨ pp_cx l b p = 5 := by omega
                  rcases hc with hc | hc | hc | hc | hc | hc
                  · have x : pp_ia l b p 4 111 118 101 110 = true := a0.mp hc
                    exact c1 x
                  · have x : pp_ia l b p 7 119 105 100 100 = true ∧ pp_sa b p 3 111 119 101 = true := a1.mp hc
                    exact c2 x.1
                  · have x : pp_ia l b p 5 114 97 110 101 = true ∧ b (p + 3) = 103 := a2.mp hc
                    exact c35 x.2
                  · have x : pp_ia l b p 6 100 111 111 100 = true ∧ pp_sa b p 2 111 114 101 = true := a3.mp hc
                    exact c36 x.1
                  · have x : pp_ia l b p 8 112 111 114 101 = true ∧ pp_sa b p 3 116 97 98 = true ∧ b (p + 6) = 108 := a4.mp hc
                    exact c44 x.1
                  · have x : pp_ia l b p 4 114 97 107 101 = true := a5.mp hc
                    exact c49 x
                rw [if_neg hno]
      · rw [if_pos c34]
        by_cases c50 : pp_ia l b p 6 100 111 111 100 = true
        · rw [if_neg (fun q => q c50)]
          by_cases c51 : pp_sa b p 2 111 114 101 = true
          · rw [if_neg (fun q => q c51)]
            have hc : pp_cx l b p = 3 := a3.mpr ⟨c50, c51⟩
            rw [hc]
            rfl
          · rw [if_pos c51]
            by_cases c52 : pp_ia l b p 8 112 111 114 101 = true
            · rw [if_neg (fun q => q c52)]
              by_cases c53 : pp_sa b p 3 116 97 98 = true
              · rw [if_neg (fun q => q c53)]
                by_cases c54 : b (p + 6) = 108
                · rw [if_pos c54]
                  have hc : pp_cx l b p = 4 := a4.mpr ⟨c52, c53, c54⟩
                  rw [hc]
                  rfl
                · rw [if_neg c54]
                  by_cases c55 : pp_ia l b p 4 114 97 107 101 = true
                  · rw [if_neg (fun q => q c55)]
                    have hc : pp_cx l b p = 5 := a5.mpr c55
                    rw [hc]
                    rfl
                  · rw [if_pos c55]
                    have hno : ¬ (0 ≤ pp_cx l b p ∧ pp_cx l b p ≤ 5) := by
                      intro q
                      have hc : pp_cx l b p = 0 ∨ pp_cx l b p = 1 ∨ pp_cx l b p = 2 ∨ pp_cx l b p = 3 ∨ pp_cx l b p = 4 ∨ pp_cx l b p = 5 := by omega
                      rcases hc with hc | hc | hc | hc | hc | hc
                      · have x : pp_ia l b p 4 111 118 101 110 = true := a0.mp hc
                        exact c1 x
                      · have x : pp_ia l b p 7 119 105 100 100 = true ∧ pp_sa b p 3 111 119 101 = true := a1.mp hc
                        exact c2 x.1
                      · have x : pp_ia l b p 5 114 97 110 101 = true ∧ b (p + 3) = 103 := a2.mp hc
                        exact c34 x.1
                      · have x : pp_ia l b p 6 100 111 111 100 = true ∧ pp_sa b p 2 111 114 101 = true := a3.mp hc
                        exact c51 x.2
                      · have x : pp_ia l b p 8 112 111 114 101 = true ∧ pp_sa b p 3 116 97 98 = true ∧ b (p + 6) = 108 := a4.mp hc
                        exact c54 x.2.2
                      · have x : pp_ia l b p 4 114 97 107 101 = true := a5.mp hc
                        exact c55 x
                    rw [if_neg hno]
              · rw [if_pos c53]
                by_cases c56 : pp_ia l b p 4 114 97 107 101 = true
                · rw [if_neg (fun q => q c56)]
                  have hc : pp_cx l b p = 5 := a5.mpr c56
                  rw [hc]
                  rfl
                · rw [if_pos c56]
                  have hno : ¬ (0 ≤ pp_cx l b p ∧ pp_cx l b p ≤ 5) := by
                    intro q
                    have hc : pp_cx l b p = 0 ∨ pp_cx l b p = 1 ∨ pp_cx l b p = 2 ∨ pp_cx l b p = 3 ∨ pp_cx l b p = 4 ∨ pp_cx l b p = 5 := by omega
                    rcases hc with hc | hc | hc | hc | hc | hc
                    · have x : pp_ia l b p 4 111 118 101 110 = true := a0.mp hc
                      exact c1 x
                    · have x : pp_ia l b p 7 119 105 100 100 = true ∧ pp_sa b p 3 111 119 101 = true := a1.mp hc
                      exact c2 x.1
                    · have x : pp_ia l b p 5 114 97 110 101 = true ∧ b (p + 3) = 103 := a2.mp hc
                      exact c34 x.1
                    · have x : pp_ia l b p 6 100 111 111 100 = true ∧ pp_sa b p 2 111 114 101 = true := a3.mp hc
                      exact c51 x.2
                    · have x : pp_ia l b p 8 112 111 114 101 = true ∧ pp_sa b p 3 116 97 98 = true ∧ b (p + 6) = 108 := a4.mp hc
                      exact c53 x.2.1
                    · have x : pp_ia l b p 4 114 97 107 101 = true := a5.mp hc
                      exact c56 x
                  rw [if_neg hno]
            · rw [if_pos c52]
              by_cases c57 : pp_ia l b p 4 114 97 107 101 = true
              · rw [if_neg (fun q => q c57)]
                have hc : pp_cx l b p = 5 := a5.mpr c57
                rw [hc]
                rfl
              · rw [if_pos c57]
                have hno : ¬ (0 ≤ pp_cx l b p ∧ pp_cx l b p ≤ 5) := by
                  intro q
                  have hc : pp_cx l b p = 0 ∨ pp_cx l b p = 1 ∨ pp_cx l b p = 2 ∨ pp_cx l b p = 3 ∨ pp_cx l b p = 4 ∨ pp_cx l b p = 5 := by omega
                  rcases hc with hc | hc | hc | hc | hc | hc
                  · have x : pp_ia l b p 4 111 118 101 110 = true := a0.mp hc
                    exact c1 x
                  · have x : pp_ia l b p 7 119 105 100 100 = true ∧ pp_sa b p 3 111 119 101 = true := a1.mp hc
                    exact c2 x.1
                  · have x : pp_ia l b p 5 114 97 110 101 = true ∧ b (p + 3) = 103 := a2.mp hc
                    exact c34 x.1
                  · have x : pp_ia l b p 6 100 111 111 100 = true ∧ pp_sa b p 2 111 114 101 = true := a3.mp hc
                    exact c51 x.2
                  · have x : pp_ia l b p 8 112 111 114 101 = true ∧ pp_sa b p 3 116 97 98 = true ∧ b (p + 6) = 108 := a4.mp hc
                    exact c52 x.1
                  · have x : pp_ia l b p 4 114 97 107 101 = true := a5.mp hc
                    exact c57 x
                rw [if_neg hno]
        · rw [if_pos c50]
          by_cases c58 : pp_ia l b p 8 112 111 114 101 = true
          · rw [if_neg (fun q => q c58)]
            by_cases c59 : pp_sa b p 3 116 97 98 = true
            · rw [if_neg (fun q => q c59)]
              by_cases c60 : b (p + 6) = 108
              · rw [if_pos c60]
                have hc : pp_cx l b p = 4 := a4.mpr ⟨c58, c59, c60⟩
                rw [hc]
                rfl
              · rw [if_neg c60]
                by_cases c61 : pp_ia l b p 4 114 97 107 101 = true
                · rw [if_neg (fun q => q c61)]
                  have hc : pp_cx l b p = 5 := a5.mpr c61
                  rw [hc]
                  rfl
                · rw [if_pos c61]
                  have hno : ¬ (0 ≤ pp_cx l b p ∧ pp_cx l b p ≤ 5) := by
                    intro q
                    have hc : pp_cx l b p = 0 ∨ pp_cx l b p = 1 ∨ pp_cx l b p = 2 ∨ pp_cx l b p = 3 ∨ pp_cx l b p = 4 ∨ pp_cx l b p = 5 := by omega
                    rcases hc with hc | hc | hc | hc | hc | hc
                    · have x : pp_ia l b p 4 111 118 101 110 = true := a0.mp hc
                      exact c1 x
                    · have x : pp_ia l b p 7 119 105 100 100 = true ∧ pp_sa b p 3 111 119 101 = true := a1.mp hc
                      exact c2 x.1
                    · have x : pp_ia l b p 5 114 97 110 101 = true ∧ b (p + 3) = 103 := a2.mp hc
                      exact c34 x.1
                    · have x : pp_ia l b p 6 100 111 111 100 = true ∧ pp_sa b p 2 111 114 101 = true := a3.mp hc
                      exact c50 x.1
                    · have x : pp_ia l b p 8 112 111 114 101 = true ∧ pp_sa b p 3 116 97 98 = true ∧ b (p + 6) = 108 := a4.mp hc
                      exact c60 x.2.2
                    · have x : pp_ia l b p 4 114 97 107 101 = true := a5.mp hc
                      exact c61 x
                  rw [if_neg hno]
            · rw [if_pos c59]
              by_cases c62 : pp_ia l b p 4 114 97 107 101 = true
              · rw [if_neg (fun q => q c62)]
                have hc : pp_cx l b p = 5 := a5.mpr c62
                rw [hc]
                rfl
              · rw [if_pos c62]
                have hno : ¬ (0 ≤ pp_cx l b p ∧ pp_cx l b p ≤ 5) := by
                  intro q
                  have hc : pp_cx l b p = 0 ∨ pp_cx l b p = 1 ∨ pp_cx l b p = 2 ∨ pp_cx l b p = 3 ∨ pp_cx l b p = 4 ∨ pp_cx l b p = 5 := by omega
                  rcases hc with hc | hc | hc | hc | hc | hc
                  · have x : pp_ia l b p 4 111 118 101 110 = true := a0.mp hc
                    exact c1 x
                  · have x : pp_ia l b p 7 119 105 100 100 = true ∧ pp_sa b p 3 111 119 101 = true := a1.mp hc
                    exact c2 x.1
                  · have x : pp_ia l b p 5 114 97 110 101 = true ∧ b (p + 3) = 103 := a2.mp hc
                    exact c34 x.1
                  · have x : pp_ia l b p 6 100 111 111 100 = true ∧ pp_sa b p 2 111 114 101 = true := a3.mp hc
                    exact c50 x.1
                  · have x : pp_ia l b p 8 112 111 114 101 = true ∧ pp_sa b p 3 116 97 98 = true ∧ b (p + 6) = 108 := a4.mp hc
                    exact c59 x.2.1
                  · have x : pp_ia l b p 4 114 97 107 101 = true := a5.mp hc
                    exact c62 x
                rw [if_neg hno]
          · rw [if_pos c58]
            by_cases c63 : pp_ia l b p 4 114 97 107 101 = true
            · rw [if_neg (fun q => q c63)]
              have hc : pp_cx l b p = 5 := a5.mpr c63
              rw [hc]
              rfl
            · rw [if_pos c63]
              have hno : ¬ (0 ≤ pp_cx l b p ∧ pp_cx l b p ≤ 5) := by
                intro q
                have hc : pp_cx l b p = 0 ∨ pp_cx l b p = 1 ∨ pp_cx l b p = 2 ∨ pp_cx l b p = 3 ∨ pp_cx l b p = 4 ∨ pp_cx l b p = 5 := by omega
                rcases hc with hc | hc | hc | hc | hc | hc
                · have x : pp_ia l b p 4 111 118 101 110 = true := a0.mp hc
                  exact c1 x
                · have x : pp_ia l b p 7 119 105 100 100 = true ∧ pp_sa b p 3 111 119 101 = true := a1.mp hc
                  exact c2 x.1
                · have x : pp_ia l b p 5 114 97 110 101 = true ∧ b (p + 3) = 103 := a2.mp hc
                  exact c34 x.1
                · have x : pp_ia l b p 6 100 111 111 100 = true ∧ pp_sa b p 2 111 114 101 = true := a3.mp hc
                  exact c50 x.1
                · have x : pp_ia l b p 8 112 111 114 101 = true ∧ pp_sa b p 3 116 97 98 = true ∧ b (p + 6) = 108 := a4.mp hc
                  exact c58 x.1
                · have x : pp_ia l b p 4 114 97 107 101 = true := a5.mp hc
                  exact c63 x
              rw [if_neg hno]
theorem pp_M_fact {l p : Nat} {b : Nat → Nat} {μ : g_M} (hT : pp_TB (μ 4) l b) (h5 : μ 0 5 = pp_i l) (hz : pp_BZ l b) (hK : pp_TK μ l b p) : f_X12_factHere μ = some (if 13 ≤ pp_cx l b p ∧ pp_cx l b p ≤ 17 then pp_i (pp_cx l b p - 13) else -1) := by
  have hl := hT.1
  have hp := hK.2.1
  have r13 : f_X12_isName 5 110 105 103 116 μ = some (if pp_ia l b p 5 110 105 103 116 = true then 1 else 0) := pp_M_ia (n := 5) (c0 := 110) (c1 := 105) (c2 := 103) (c9 := 116) hT h5 hz hK (by decide) (by decide) (by decide) (by decide) (by decide) (by decide)
  have t13 : ∀ A B : Option Int32, ((f_X12_byteAt ((μ 0 9) + 3) μ).bind fun x => if x = 104 then A else B) = if b (p + 3) = 104 then A else B := by
    intro A B
    rw [hK.1, show (3 : Int32) = pp_i 3 from rfl, show (104 : Int32) = pp_i 104 from rfl, pp_add]
    exact pp_M_bb (k := p + 3) (c := 104) hT h5 hz (by omega) (by decide) (by decide)
  have r14 : f_X12_isName 4 119 97 114 109 μ = some (if pp_ia l b p 4 119 97 114 109 = true then 1 else 0) := pp_M_ia (n := 4) (c0 := 119) (c1 := 97) (c2 := 114) (c9 := 109) hT h5 hz hK (by decide) (by decide) (by decide) (by decide) (by decide) (by decide)
  have r15 : f_X12_isName 5 112 108 97 101 μ = some (if pp_ia l b p 5 112 108 97 101 = true then 1 else 0) := pp_M_ia (n := 5) (c0 := 112) (c1 := 108) (c2 := 97) (c9 := 101) hT h5 hz hK (by decide) (by decide) (by decide) (by decide) (by decide) (by decide)
  have t15 : ∀ A B : Option Int32, ((f_X12_byteAt ((μ 0 9) + 3) μ).bind fun x => if x = 99 then A else B) = if b (p + 3) = 99 then A else B := by
    intro A B
    rw [hK.1, show (3 : Int32) = pp_i 3 from rfl, show (99 : Int32) = pp_i 99 from rfl, pp_add]
    exact pp_M_bb (k := p + 3) (c := 99) hT h5 hz (by omega) (by decide) (by decide)
  have r16 : f_X12_isName 4 102 105 114 101 μ = some (if pp_ia l b p 4 102 105 114 101 = true then 1 else 0) := pp_M_ia (n := 4) (c0 := 102) (c1 := 105) (c2 := 114) (c9 := 101) hT h5 hz hK (by decide) (by decide) (by decide) (by decide) (by decide) (by decide)
  have r17 : f_X12_isName 6 110 117 109 114 μ = some (if pp_ia l b p 6 110 117 109 114 = true then 1 else 0) := pp_M_ia (n := 6) (c0 := 110) (c1 := 117) (c2 := 109) (c9 := 114) hT h5 hz hK (by decide) (by decide) (by decide) (by decide) (by decide) (by decide)
  have s17 : f_X12_isSame 2 109 98 101 μ = some (if pp_sa b p 2 109 98 101 = true then 1 else 0) := pp_M_sa (i := 2) (c0 := 109) (c1 := 98) (c2 := 101) hT h5 hz hK (by decide) (by decide) (by decide) (by decide)
  unfold f_X12_factHere
  simp only [r13, t13, r14, r15, t15, r16, r17, s17, Option.bind_some, pp_b0]
  have a13 : pp_cx l b p = 13 ↔ (pp_ia l b p 5 110 105 103 116 = true ∧ b (p + 3) = 104) := Iff.of_eq (pp_at_13 (l := l) (p := p) hz)
  have a14 : pp_cx l b p = 14 ↔ (pp_ia l b p 4 119 97 114 109 = true) := Iff.of_eq (pp_at_14 (l := l) (p := p) hz)
  have a15 : pp_cx l b p = 15 ↔ (pp_ia l b p 5 112 108 97 101 = true ∧ b (p + 3) = 99) := Iff.of_eq (pp_at_15 (l := l) (p := p) hz)
  have a16 : pp_cx l b p = 16 ↔ (pp_ia l b p 4 102 105 114 101 = true) := Iff.of_eq (pp_at_16 (l := l) (p := p) hz)
  have a17 : pp_cx l b p = 17 ↔ (pp_ia l b p 6 110 117 109 114 = true ∧ pp_sa b p 2 109 98 101 = true) := Iff.of_eq (pp_at_17 (l := l) (p := p) hz)
  by_cases c1 : pp_ia l b p 5 110 105 103 116 = true
  · rw [if_neg (fun q => q c1)]
    by_cases c2 : b (p + 3) = 104
    · rw [if_pos c2]
      have hc : pp_cx l b p = 13 := a13.mpr ⟨c1, c2⟩
      rw [hc]
      rfl
    · rw [if_neg c2]
      by_cases c3 : pp_ia l b p 4 119 97 114 109 = true
      · rw [if_neg (fun q => q c3)]
        have hc : pp_cx l b p = 14 := a14.mpr c3
        rw [hc]
        rfl
      · rw [if_pos c3]
        by_cases c4 : pp_ia l b p 5 112 108 97 101 = true
        · rw [if_neg (fun q => q c4)]
          by_cases c5 : b (p + 3) = 99
          · rw [if_pos c5]
            have hc : pp_cx l b p = 15 := a15.mpr ⟨c4, c5⟩
            rw [hc]
            rfl
          · rw [if_neg c5]
            by_cases c6 : pp_ia l b p 4 102 105 114 101 = true
            · rw [if_neg (fun q => q c6)]
              have hc : pp_cx l b p = 16 := a16.mpr c6
              rw [hc]
              rfl
            · rw [if_pos c6]
              by_cases c7 : pp_ia l b p 6 110 117 109 114 = true
              · rw [if_neg (fun q => q c7)]
                by_cases c8 : pp_sa b p 2 109 98 101 = true
                · rw [if_neg (fun q => q c8)]
                  have hc : pp_cx l b p = 17 := a17.mpr ⟨c7, c8⟩
                  rw [hc]
                  rfl
                · rw [if_pos c8]
                  have hno : ¬ (13 ≤ pp_cx l b p ∧ pp_cx l b p ≤ 17) := by
                    intro q
                    have hc : pp_cx l b p = 13 ∨ pp_cx l b p = 14 ∨ pp_cx l b p = 15 ∨ pp_cx l b p = 16 ∨ pp_cx l b p = 17 := by omega
                    rcases hc with hc | hc | hc | hc | hc
                    · have x : pp_ia l b p 5 110 105 103 116 = true ∧ b (p + 3) = 104 := a13.mp hc
                      exact c2 x.2
                    · have x : pp_ia l b p 4 119 97 114 109 = true := a14.mp hc
                      exact c3 x
                    · have x : pp_ia l b p 5 112 108 97 101 = true ∧ b (p + 3) = 99 := a15.mp hc
                      exact c5 x.2
                    · have x : pp_ia l b p 4 102 105 114 101 = true := a16.mp hc
                      exact c6 x
                    · have x : pp_ia l b p 6 110 117 109 114 = true ∧ pp_sa b p 2 109 98 101 = true := a17.mp hc
                      exact c8 x.2
                  rw [if_neg hno]
              · rw [if_pos c7]
                have hno : ¬ (13 ≤ pp_cx l b p ∧ pp_cx l b p ≤ 17) := by
                  intro q
                  have hc : pp_cx l b p = 13 ∨ pp_cx l b p = 14 ∨ pp_cx l b p = 15 ∨ pp_cx l b p = 16 ∨ pp_cx l b p = 17 := by omega
                  rcases hc with hc | hc | hc | hc | hc
                  · have x : pp_ia l b p 5 110 105 103 116 = true ∧ b (p + 3) = 104 := a13.mp hc
                    exact c2 x.2
                  · have x : pp_ia l b p 4 119 97 114 109 = true := a14.mp hc
                    exact c3 x
                  · have x : pp_ia l b p 5 112 108 97 101 = true ∧ b (p + 3) = 99 := a15.mp hc
                    exact c5 x.2
                  · have x : pp_ia l b p 4 102 105 114 101 = true := a16.mp hc
                    exact c6 x
                  · have x : pp_ia l b p 6 110 117 109 114 = true ∧ pp_sa b p 2 109 98 101 = true := a17.mp hc
                    exact c7 x.1
                rw [if_neg hno]
        · rw [if_pos c4]
          by_cases c9 : pp_ia l b p 4 102 105 114 101 = true
          · rw [if_neg (fun q => q c9)]
            have hc : pp_cx l b p = 16 := a16.mpr c9
            rw [hc]
            rfl
          · rw [if_pos c9]
            by_cases c10 : pp_ia l b p 6 110 117 109 114 = true
            · rw [if_neg (fun q => q c10)]
              by_cases c11 : pp_sa b p 2 109 98 101 = true
              · rw [if_neg (fun q => q c11)]
                have hc : pp_cx l b p = 17 := a17.mpr ⟨c10, c11⟩
                rw [hc]
                rfl
              · rw [if_pos c11]
                have hno : ¬ (13 ≤ pp_cx l b p ∧ pp_cx l b p ≤ 17) := by
                  intro q
                  have hc : pp_cx l b p = 13 ∨ pp_cx l b p = 14 ∨ pp_cx l b p = 15 ∨ pp_cx l b p = 16 ∨ pp_cx l b p = 17 := by omega
                  rcases hc with hc | hc | hc | hc | hc
                  · have x : pp_ia l b p 5 110 105 103 116 = true ∧ b (p + 3) = 104 := a13.mp hc
                    exact c2 x.2
                  · have x : pp_ia l b p 4 119 97 114 109 = true := a14.mp hc
                    exact c3 x
                  · have x : pp_ia l b p 5 112 108 97 101 = true ∧ b (p + 3) = 99 := a15.mp hc
                    exact c4 x.1
                  · have x : pp_ia l b p 4 102 105 114 101 = true := a16.mp hc
                    exact c9 x
                  · have x : pp_ia l b p 6 110 117 109 114 = true ∧ pp_sa b p 2 109 98 101 = true := a17.mp hc
                    exact c11 x.2
                rw [if_neg hno]
            · rw [if_pos c10]
              have hno : ¬ (13 ≤ pp_cx l b p ∧ pp_cx l b p ≤ 17) := by
                intro q
                have hc : pp_cx l b p = 13 ∨ pp_cx l b p = 14 ∨ pp_cx l b p = 15 ∨ pp_cx l b p = 16 ∨ pp_cx l b p = 17 := by omega
                rcases hc with hc | hc | hc | hc | hc
                · have x : pp_ia l b p 5 110 105 103 116 = true ∧ b (p + 3) = 104 := a13.mp hc
                  exact c2 x.2
                · have x : pp_ia l b p 4 119 97 114 109 = true := a14.mp hc
                  exact c3 x
                · have x : pp_ia l b p 5 112 108 97 101 = true ∧ b (p + 3) = 99 := a15.mp hc
                  exact c4 x.1
                · have x : pp_ia l b p 4 102 105 114 101 = true := a16.mp hc
                  exact c9 x
                · have x : pp_ia l b p 6 110 117 109 114 = true ∧ pp_sa b p 2 109 98 101 = true := a17.mp hc
                  exact c10 x.1
              rw [if_neg hno]
  · rw [if_pos c1]
    by_cases c12 : pp_ia l b p 4 119 97 114 109 = true
    · rw [if_neg (fun q => q c12)]
      have hc : pp_cx l b p = 14 := a14.mpr c12
      rw [hc]
      rfl
    · rw [if_pos c12]
      by_cases c13 : pp_ia l b p 5 112 108 97 101 = true
      · rw [if_neg (fun q => q c13)]
        by_cases c14 : b (p + 3) = 99
        · rw [if_pos c14]
          have hc : pp_cx l b p = 15 := a15.mpr ⟨c13, c14⟩
          rw [hc]
          rfl
        · rw [if_neg c14]
          by_cases c15 : pp_ia l b p 4 102 105 114 101 = true
          · rw [if_neg (fun q => q c15)]
            have hc : pp_cx l b p = 16 := a16.mpr c15
            rw [hc]
            rfl
          · rw [if_pos c15]
            by_cases c16 : pp_ia l b p 6 110 117 109 114 = true
            · rw [if_neg (fun q => q c16)]
              by_cases c17 : pp_sa b p 2 109 98 101 = true
              · rw [if_neg (fun q => q c17)]
                have hc : pp_cx l b p = 17 := a17.mpr ⟨c16, c17⟩
                rw [hc]
                rfl
              · rw [if_pos c17]
                have hno : ¬ (13 ≤ pp_cx l b p ∧ pp_cx l b p ≤ 17) := by
                  intro q
                  have hc : pp_cx l b p = 13 ∨ pp_cx l b p = 14 ∨ pp_cx l b p = 15 ∨ pp_cx l b p = 16 ∨ pp_cx l b p = 17 := by omega
                  rcases hc with hc | hc | hc | hc | hc
                  · have x : pp_ia l b p 5 110 105 103 116 = true ∧ b (p + 3) = 104 := a13.mp hc
                    exact c1 x.1
                  · have x : pp_ia l b p 4 119 97 114 109 = true := a14.mp hc
                    exact c12 x
                  · have x : pp_ia l b p 5 112 108 97 101 = true ∧ b (p + 3) = 99 := a15.mp hc
                    exact c14 x.2
                  · have x : pp_ia l b p 4 102 105 114 101 = true := a16.mp hc
                    exact c15 x
                  · have x : pp_ia l b p 6 110 117 109 114 = true ∧ pp_sa b p 2 109 98 101 = true := a17.mp hc
                    exact c17 x.2
                rw [if_neg hno]
            · rw [if_pos c16]
              have hno : ¬ (13 ≤ pp_cx l b p ∧ pp_cx l b p ≤ 17) := by
                intro q
                have hc : pp_cx l b p = 13 ∨ pp_cx l b p = 14 ∨ pp_cx l b p = 15 ∨ pp_cx l b p = 16 ∨ pp_cx l b p = 17 := by omega
                rcases hc with hc | hc | hc | hc | hc
                · have x : pp_ia l b p 5 110 105 103 116 = true ∧ b (p + 3) = 104 := a13.mp hc
                  exact c1 x.1
                · have x : pp_ia l b p 4 119 97 114 109 = true := a14.mp hc
                  exact c12 x
                · have x : pp_ia l b p 5 112 108 97 101 = true ∧ b (p + 3) = 99 := a15.mp hc
                  exact c14 x.2
                · have x : pp_ia l b p 4 102 105 114 101 = true := a16.mp hc
                  exact c15 x
                · have x : pp_ia l b p 6 110 117 109 114 = true ∧ pp_sa b p 2 109 98 101 = true := a17.mp hc
                  exact c16 x.1
              rw [if_neg hno]
      · rw [if_pos c13]
        by_cases c18 : pp_ia l b p 4 102 105 114 101 = true
        · rw [if_neg (fun q => q c18)]
          have hc : pp_cx l b p = 16 := a16.mpr c18
          rw [hc]
          rfl
        · rw [if_pos c18]
          by_cases c19 : pp_ia l b p 6 110 117 109 114 = true
          · rw [if_neg (fun q => q c19)]
            by_cases c20 : pp_sa b p 2 109 98 101 = true
            · rw [if_neg (fun q => q c20)]
              have hc : pp_cx l b p = 17 := a17.mpr ⟨c19, c20⟩
              rw [hc]
              rfl
            · rw [if_pos c20]
              have hno : ¬ (13 ≤ pp_cx l b p ∧ pp_cx l b p ≤ 17) := by
                intro q
                have hc : pp_cx l b p = 13 ∨ pp_cx l b p = 14 ∨ pp_cx l b p = 15 ∨ pp_cx l b p = 16 ∨ pp_cx l b p = 17 := by omega
                rcases hc with hc | hc | hc | hc | hc
                · have x : pp_ia l b p 5 110 105 103 116 = true ∧ b (p + 3) = 104 := a13.mp hc
                  exact c1 x.1
                · have x : pp_ia l b p 4 119 97 114 109 = true := a14.mp hc
                  exact c12 x
                · have x : pp_ia l b p 5 112 108 97 101 = true ∧ b (p + 3) = 99 := a15.mp hc
                  exact c13 x.1
                · have x : pp_ia l b p 4 102 105 114 101 = true := a16.mp hc
                  exact c18 x
                · have x : pp_ia l b p 6 110 117 109 114 = true ∧ pp_sa b p 2 109 98 101 = true := a17.mp hc
                  exact c20 x.2
              rw [if_neg hno]
          · rw [if_pos c19]
            have hno : ¬ (13 ≤ pp_cx l b p ∧ pp_cx l b p ≤ 17) := by
              intro q
              have hc : pp_cx l b p = 13 ∨ pp_cx l b p = 14 ∨ pp_cx l b p = 15 ∨ pp_cx l b p = 16 ∨ pp_cx l b p = 17 := by omega
              rcases hc with hc | hc | hc | hc | hc
              · have x : pp_ia l b p 5 110 105 103 116 = true ∧ b (p + 3) = 104 := a13.mp hc
                exact c1 x.1
              · have x : pp_ia l b p 4 119 97 114 109 = true := a14.mp hc
                exact c12 x
              · have x : pp_ia l b p 5 112 108 97 101 = true ∧ b (p + 3) = 99 := a15.mp hc
                exact c13 x.1
              · have x : pp_ia l b p 4 102 105 114 101 = true := a16.mp hc
                exact c18 x
              · have x : pp_ia l b p 6 110 117 109 114 = true ∧ pp_sa b p 2 109 98 101 = true := a17.mp hc
                exact c19 x.1
            rw [if_neg hno]
