/-! ===== weddings ===== -/
theorem pp_ws_b {s : Nat → Int32} {o k : Nat} (hO : pp_O s) (ho : o < pp_n s) (hk : k < pp_n s) (h : 0 < pp_ws s o k) : pp_ws s o k = pp_i (pp_ws s o k).toNatClampNeg ∧ (pp_ws s o k).toNatClampNeg ≤ 11 := by
  have key : ∀ z : Int, -100 ≤ z → z ≤ 11 → pp_ws s o k = Int32.ofInt z → pp_ws s o k = pp_i (pp_ws s o k).toNatClampNeg ∧ (pp_ws s o k).toNatClampNeg ≤ 11 := by
    intro z h1 h2 e
    have ht : (pp_ws s o k).toInt = z := by rw [e, Int32.toInt_ofInt_of_le (by omega) (by omega)]
    have h0 := Int32.lt_iff_toInt_lt.mp h
    rw [ht] at h0
    have h00 : (0 : Int32).toInt = 0 := rfl
    have e2 : pp_ws s o k = pp_i z.toNat := by
      rw [e, pp_oi]
      congr 1
      omega
    have e3 : (pp_ws s o k).toNatClampNeg = z.toNat := by rw [e2, pp_nat (by omega)]
    rw [e3]
    exact ⟨e2, by omega⟩
  obtain ⟨k1, a1, p1, f1, h1, h2, h3, h4, h5, h6, e1, e2, e3, e4⟩ := hO o ho
  obtain ⟨k2, a2, p2, f2, j1, j2, j3, j4, j5, j6, g1, g2, g3, g4⟩ := hO k hk
  have hap := pp_ap_le h4 j4
  have hd : pp_i a2 - pp_i (pp_ap p1 p2) = Int32.ofInt ((a2 : Int) - (pp_ap p1 p2 : Int)) := by rw [Int32.ofInt_sub, ← pp_oi, ← pp_oi]
  have hd3 : pp_i a2 - pp_i (pp_ap p1 p2) - 3 = Int32.ofInt ((a2 : Int) - (pp_ap p1 p2 : Int) - 3) := by rw [Int32.ofInt_sub, ← hd]; rfl
  have hd2 : pp_i a2 + 2 = Int32.ofInt ((a2 : Int) + 2) := by rw [Int32.ofInt_add, ← pp_oi]; rfl
  have hu : ∀ b : Int32, pp_ws s o k = f_X12_longsBy (pp_i k1) (pp_i a1) (pp_i p1) (pp_i a2) (pp_i p2) (if o < k then 1 else 0) := fun _ => by
    unfold pp_ws
    rw [e1, e2, e3, g2, g3]
  have hk5 : k1 = 1 ∨ k1 = 2 ∨ k1 = 3 ∨ k1 = 4 ∨ k1 = 5 := by omega
  have hu := hu 0
  unfold f_X12_longsBy at hu
  rw [pp_M_ap (by omega) (by omega)] at hu
  rcases hk5 with rfl | rfl | rfl | rfl | rfl
  · exact key ((a2 : Int) - (pp_ap p1 p2 : Int) - 3) (by omega) (by omega) (hu.trans (by rw [if_pos (show pp_i 1 = (1 : Int32) from rfl), hd3]))
  · by_cases c : pp_i a2 < pp_i a1
    · exact key (-1) (by omega) (by omega) (hu.trans (by rw [if_neg (show ¬ pp_i 2 = (1 : Int32) by decide), if_pos (show pp_i 2 = (2 : Int32) from rfl), if_pos c]; rfl))
    · exact key ((a2 : Int) - (pp_ap p1 p2 : Int)) (by omega) (by omega) (hu.trans (by rw [if_neg (show ¬ pp_i 2 = (1 : Int32) by decide), if_pos (show pp_i 2 = (2 : Int32) from rfl), if_neg c, hd]))
  · exact key (-1) (by omega) (by omega) (hu.trans rfl)
  · exact key (a2 : Int) (by omega) (by omega) (hu.trans (by rw [if_neg (show ¬ pp_i 4 = (1 : Int32) by decide), if_neg (show ¬ pp_i 4 = (2 : Int32) by decide), if_neg (show ¬ pp_i 4 = (3 : Int32) by decide), if_pos (show pp_i 4 = (4 : Int32) from rfl), pp_oi]))
  · by_cases c : (if o < k then (1 : Int32) else 0) = 0
    · exact key (a2 : Int) (by omega) (by omega) (hu.trans (by rw [if_neg (show ¬ pp_i 5 = (1 : Int32) by decide), if_neg (show ¬ pp_i 5 = (2 : Int32) by decide), if_neg (show ¬ pp_i 5 = (3 : Int32) by decide), if_neg (show ¬ pp_i 5 = (4 : Int32) by decide), if_pos c, pp_oi]))
    · exact key ((a2 : Int) + 2) (by omega) (by omega) (hu.trans (by rw [if_neg (show ¬ pp_i 5 = (1 : Int32) by decide), if_neg (show ¬ pp_i 5 = (2 : Int32) by decide), if_neg (show ¬ pp_i 5 = (3 : Int32) by decide), if_neg (show ¬ pp_i 5 = (4 : Int32) by decide), if_neg c, hd2]))
/-- a pair that longs for one another -/
def pp_pr (s : Nat → Int32) (o k : Nat) : Bool := decide (0 < pp_ws s o k ∧ 0 < pp_ws s k o)
def pp_lg (s : Nat → Int32) (o k : Nat) : Nat := (pp_ws s o k).toNatClampNeg + (pp_ws s k o).toNatClampNeg
theorem pp_lg_le {s : Nat → Int32} {o k : Nat} (hO : pp_O s) (ho : o < pp_n s) (hk : k < pp_n s) (h : pp_pr s o k = true) : pp_ws s o k = pp_i (pp_ws s o k).toNatClampNeg ∧ pp_ws s k o = pp_i (pp_ws s k o).toNatClampNeg ∧ pp_lg s o k ≤ 22 := by
  have h1 := of_decide_eq_true h
  have a := pp_ws_b hO ho hk h1.1
  have b := pp_ws_b hO hk ho h1.2
  unfold pp_lg
  exact ⟨a.1, b.1, by omega⟩
theorem pp_M_pair {s : Nat → Int32} {μ : g_M} {o k : Nat} (hI : pp_I s) (h1 : μ 1 = s) (ho : o < 6) (hk : k < 6) : f_X12_isPair (pp_i o) (pp_i k) μ = some (if pp_pr s o k = true then 1 else 0) := by
  have h1' : μ 1 = pp_put s (pp_t s) (pp_w s) (s 3) := h1.trans (pp_self hI.2.2.2)
  unfold f_X12_isPair pp_pr
  rw [pp_M_longs (N := 0) h1' ho hk, pp_M_longs (N := 0) h1' hk ho]
  simp only [Option.bind_some]
  by_cases c1 : pp_ws s o k ≤ 0
  · rw [if_pos c1, if_neg]
    intro q
    exact absurd (of_decide_eq_true q).1 (Int32.not_lt.mpr c1)
  · rw [if_neg c1]
    by_cases c2 : pp_ws s k o ≤ 0
    · rw [if_pos c2, if_neg]
      intro q
      exact absurd (of_decide_eq_true q).2 (Int32.not_lt.mpr c2)
    · rw [if_neg c2, if_pos (decide_eq_true ⟨Int32.not_le.mp c1, Int32.not_le.mp c2⟩)]
theorem pp_X_pair {s : Nat → Int32} {μ : g_M} {o k : Nat} (hB2 : pp_n s ≤ 6) (hC : pp_C s μ) (ho : o < pp_n s) (hk : k < pp_n s) (h : ¬ o = k) : f_X9_isPair (pp_i o) (pp_i k) μ = some (if pp_pr s o k = true then 1 else 0) := by
  unfold f_X9_isPair pp_pr
  rw [pp_X_wish hB2 hC ho hk h, pp_X_wish hB2 hC hk ho (fun q => h q.symm)]
  simp only [Option.bind_some]
  by_cases c1 : pp_ws s o k ≤ 0
  · rw [if_pos c1, if_neg]
    intro q
    exact absurd (of_decide_eq_true q).1 (Int32.not_lt.mpr c1)
  · rw [if_neg c1]
    by_cases c2 : pp_ws s k o ≤ 0
    · rw [if_pos c2, if_neg]
      intro q
      exact absurd (of_decide_eq_true q).2 (Int32.not_lt.mpr c2)
    · rw [if_neg c2, if_pos (decide_eq_true ⟨Int32.not_le.mp c1, Int32.not_le.mp c2⟩)]
theorem pp_X_wof {s : Nat → Int32} {μ : g_M} {o k : Nat} (hB2 : pp_n s ≤ 6) (hO : pp_O s) (hC : pp_C s μ) (ho : o < pp_n s) (hk : k < pp_n s) (h : ¬ o = k) (hp : pp_pr s o k = true) : f_X2_weddingOf (pp_i o) (pp_i k) μ = some (pp_i (1000 + pp_lg s o k)) := by
  obtain ⟨a, b, c⟩ := pp_lg_le hO ho hk hp
  unfold f_X2_weddingOf
  rw [pp_X_wish hB2 hC ho hk h, pp_X_wish hB2 hC hk ho (fun q => h q.symm)]
  simp only [Option.bind_some]
  rw [a, b, show (1000 : Int32) = pp_i 1000 from rfl, pp_add, pp_add]
  unfold pp_lg
  rw [Nat.add_assoc]
/-- the most of b and what may be -/
def pp_mx (ok : Nat → Bool) (v : Nat → Nat) : Nat → Nat → Nat → Nat
  | 0, _, b => b
  | m + 1, k, b => pp_mx ok v m (k + 1) (if ok k = true ∧ b < v k then v k else b)
def pp_fm (ok : Nat → Bool) (v : Nat → Nat) (T : Nat) : Nat → Nat → Nat
  | 0, _ => 6
  | m + 1, k => if ok k = true ∧ v k = T then k else pp_fm ok v T m (k + 1)
theorem pp_mx_b {ok : Nat → Bool} {v : Nat → Nat} : ∀ (m k b c : Nat), pp_mx ok v m k (if b < c then c else b) = if pp_mx ok v m k b < c then c else pp_mx ok v m k b
  | 0, _, _, _ => rfl
  | m + 1, k, b, c => by
    rw [pp_mx, pp_mx]
    by_cases h : ok k = true
    · have e : (if ok k = true ∧ (if b < c then c else b) < v k then v k else (if b < c then c else b)) = (if (if ok k = true ∧ b < v k then v k else b) < c then c else (if ok k = true ∧ b < v k then v k else b)) := by
        simp only [h, true_and]
        (repeat' split) <;> omega
      rw [e, pp_mx_b m (k + 1)]
    · have e1 : ∀ z : Nat, (if ok k = true ∧ z < v k then v k else z) = z := fun z => if_neg (fun q => h q.1)
      rw [e1, e1, pp_mx_b m (k + 1)]
theorem pp_mx_ge {ok : Nat → Bool} {v : Nat → Nat} : ∀ (m k b : Nat), b ≤ pp_mx ok v m k b
  | 0, _, _ => Nat.le_refl _
  | m + 1, k, b => by
    rw [pp_mx]
    refine Nat.le_trans ?_ (pp_mx_ge m (k + 1) _)
    split <;> omega
theorem pp_mx_le {ok : Nat → Bool} {v : Nat → Nat} {B n : Nat} (h : ∀ k, k < n → ok k = true → v k ≤ B) : ∀ (m k b : Nat), k + m ≤ n → b ≤ B → pp_mx ok v m k b ≤ B
  | 0, _, _, _, h2 => h2
  | m + 1, k, b, hk, h2 => by
    rw [pp_mx]
    refine pp_mx_le h m (k + 1) _ (by omega) ?_
    split
    · rename_i c
      exact h k (by omega) c.1
    · exact h2
/-- first strictly better ones, then a last one -/
def pp_wf (ok : Nat → Bool) (v : Nat → Nat) (G : Nat → Nat → Nat) (x1 : Nat) : Nat → Nat → Nat × (Nat → Nat) → Nat × (Nat → Nat)
  | 0, _, acc => acc
  | m + 1, k, acc => pp_wf ok v G x1 m (k + 1) (if ok k = true ∧ acc.1 < x1 + v k then (x1 + v k, G k) else acc)
theorem pp_wf_eq {ok : Nat → Bool} {v : Nat → Nat} {G : Nat → Nat → Nat} {x1 b : Nat} {Gn : Nat → Nat} : ∀ (m k : Nat) (acc : Nat × (Nat → Nat)), 1 ≤ k → k + m ≤ 6 →
    (if (pp_wf ok v G x1 m k acc).1 < x1 + b then (x1 + b, Gn) else pp_wf ok v G x1 m k acc) = if acc.1 < x1 + pp_mx ok v m k b then (x1 + pp_mx ok v m k b, if pp_fm ok v (pp_mx ok v m k b) m k = 6 then Gn else G (pp_fm ok v (pp_mx ok v m k b) m k)) else acc
  | 0, _, _, _, _ => rfl
  | m + 1, k, acc, hk1, hk => by
    have e : pp_mx ok v (m + 1) k b = if ok k = true then (if pp_mx ok v m (k + 1) b < v k then v k else pp_mx ok v m (k + 1) b) else pp_mx ok v m (k + 1) b := by
      rw [pp_mx]
      by_cases h : ok k = true
      · rw [if_pos h, ← pp_mx_b]
        simp only [h, true_and]
      · rw [if_neg h, if_neg (fun q => h q.1)]
    by_cases h : ok k = true
    · rw [if_pos h] at e
      by_cases c1 : acc.1 < x1 + v k
      · rw [pp_wf, if_pos (show ok k = true ∧ acc.1 < x1 + v k from ⟨h, c1⟩), pp_wf_eq m (k + 1) _ (by omega) (by omega), e, pp_fm]
        by_cases c2 : pp_mx ok v m (k + 1) b < v k
        · rw [if_pos c2, if_neg (show ¬ (x1 + v k, G k).1 < x1 + pp_mx ok v m (k + 1) b by dsimp only; omega), if_pos c1, if_pos (show ok k = true ∧ v k = v k from ⟨h, rfl⟩), if_neg (show ¬ k = 6 by omega)]
        · rw [if_neg c2]
          by_cases c3 : v k = pp_mx ok v m (k + 1) b
          · rw [if_neg (show ¬ (x1 + v k, G k).1 < x1 + pp_mx ok v m (k + 1) b by dsimp only; omega), if_pos (show acc.1 < x1 + pp_mx ok v m (k + 1) b by omega), if_pos (show ok k = true ∧ v k = pp_mx ok v m (k + 1) b from ⟨h, c3⟩), if_neg (show ¬ k = 6 by omega), c3]
          · rw [if_pos (show (x1 + v k, G k).1 < x1 + pp_mx ok v m (k + 1) b by dsimp only; omega), if_pos (show acc.1 < x1 + pp_mx ok v m (k + 1) b by omega), if_neg (show ¬ (ok k = true ∧ v k = pp_mx ok v m (k + 1) b) from fun q => c3 q.2)]
      · rw [pp_wf, if_neg (show ¬ (ok k = true ∧ acc.1 < x1 + v k) from fun q => c1 q.2), pp_wf_eq m (k + 1) _ (by omega) (by omega), e, pp_fm]
        by_cases c2 : pp_mx ok v m (k + 1) b < v k
        · rw [if_pos c2, if_neg (show ¬ acc.1 < x1 + pp_mx ok v m (k + 1) b by omega), if_neg c1]
        · rw [if_neg c2]
          by_cases c3 : v k = pp_mx ok v m (k + 1) b
          · rw [if_neg (show ¬ acc.1 < x1 + pp_mx ok v m (k + 1) b by omega), if_neg (show ¬ acc.1 < x1 + pp_mx ok v m (k + 1) b by omega)]
          · rw [if_neg (show ¬ (ok k = true ∧ v k = pp_mx ok v m (k + 1) b) from fun q => c3 q.2)]
    · rw [if_neg h] at e
      rw [pp_wf, if_neg (show ¬ (ok k = true ∧ acc.1 < x1 + v k) from fun q => h q.1), pp_wf_eq m (k + 1) _ (by omega) (by omega), e, pp_fm, if_neg (show ¬ (ok k = true ∧ v k = pp_mx ok v m (k + 1) b) from fun q => h q.1)]
/-- the most weddings (a thousand for each, and their longing) of those from o on who aren't wed -/
def pp_mw (s : Nat → Int32) : Nat → Nat → (Nat → Bool) → Nat
  | 0, _, _ => 0
  | r + 1, o, wd => if wd o = true then pp_mw s r (o + 1) wd else pp_mx (fun k => !(wd k) && pp_pr s o k) (fun k => 1000 + pp_lg s o k + pp_mw s r (o + 1) (pp_up wd k true)) r (o + 1) (pp_mw s r (o + 1) wd)
/-- the first mate -/
def pp_f1 (s : Nat → Int32) (r o : Nat) (wd : Nat → Bool) : Nat := pp_fm (fun k => !(wd k) && pp_pr s o k) (fun k => 1000 + pp_lg s o k + pp_mw s r (o + 1) (pp_up wd k true)) (pp_mx (fun k => !(wd k) && pp_pr s o k) (fun k => 1000 + pp_lg s o k + pp_mw s r (o + 1) (pp_up wd k true)) r (o + 1) (pp_mw s r (o + 1) wd)) r (o + 1)
def pp_gm (s : Nat → Int32) : Nat → Nat → (Nat → Bool) → (Nat → Nat) → Nat → Nat
  | 0, _, _, M => M
  | r + 1, o, wd, M => if wd o = true then pp_gm s r (o + 1) wd M else if pp_f1 s r o wd = 6 then pp_gm s r (o + 1) wd (pp_up M o 6) else pp_gm s r (o + 1) (pp_up wd (pp_f1 s r o wd) true) (pp_up (pp_up M o (pp_f1 s r o wd)) (pp_f1 s r o wd) o)
theorem pp_mw_le {s : Nat → Int32} (hO : pp_O s) : ∀ (r o : Nat) (wd : Nat → Bool), o + r = pp_n s → pp_mw s r o wd ≤ 1022 * r
  | 0, _, _, _ => Nat.zero_le _
  | r + 1, o, wd, ho => by
    rw [pp_mw]
    have h1 := pp_mw_le hO r (o + 1) wd (by omega)
    by_cases h : wd o = true
    · rw [if_pos h]; omega
    · rw [if_neg h]
      refine pp_mx_le (n := pp_n s) (fun k hk hok => ?_) r (o + 1) _ (by omega) (by omega)
      rw [Bool.and_eq_true] at hok
      have h2 := pp_mw_le hO r (o + 1) (pp_up wd k true) (by omega)
      have h3 := (pp_lg_le hO (by omega) hk hok.2).2.2
      omega
theorem pp_fm_lt {ok : Nat → Bool} {v : Nat → Nat} {T : Nat} : ∀ (m k : Nat), pp_fm ok v T m k = 6 ∨ (k ≤ pp_fm ok v T m k ∧ pp_fm ok v T m k < k + m ∧ ok (pp_fm ok v T m k) = true)
  | 0, _ => Or.inl rfl
  | m + 1, k => by
    rw [pp_fm]
    split
    · rename_i h
      exact Or.inr ⟨Nat.le_refl _, by omega, h.1⟩
    · rcases @pp_fm_lt ok v T m (k + 1) with h | ⟨h1, h2, h3⟩
      · exact Or.inl h
      · exact Or.inr ⟨by omega, by omega, h3⟩
theorem pp_gm_old {s : Nat → Int32} {i : Nat} : ∀ (r o : Nat) (wd : Nat → Bool) (M : Nat → Nat), (i < o ∨ wd i = true) → pp_gm s r o wd M i = M i
  | 0, _, _, _, _ => rfl
  | r + 1, o, wd, M, h => by
    rw [pp_gm]
    by_cases c : wd o = true
    · rw [if_pos c]
      exact pp_gm_old r (o + 1) wd M (h.elim (fun q => Or.inl (by omega)) Or.inr)
    · have hio : i ≠ o := fun e => h.elim (fun q => by omega) (fun q => c (e ▸ q))
      rw [if_neg c]
      by_cases c2 : pp_f1 s r o wd = 6
      · rw [if_pos c2, pp_gm_old r (o + 1) wd _ (h.elim (fun q => Or.inl (by omega)) Or.inr), pp_up_n hio]
      · rw [if_neg c2]
        have hf : (o + 1 ≤ pp_f1 s r o wd) ∧ wd (pp_f1 s r o wd) = false := by
          unfold pp_f1 at c2 ⊢
          rcases pp_fm_lt (ok := fun k => !(wd k) && pp_pr s o k) (v := fun k => 1000 + pp_lg s o k + pp_mw s r (o + 1) (pp_up wd k true)) (T := pp_mx (fun k => !(wd k) && pp_pr s o k) (fun k => 1000 + pp_lg s o k + pp_mw s r (o + 1) (pp_up wd k true)) r (o + 1) (pp_mw s r (o + 1) wd)) r (o + 1) with h1 | ⟨h1, h2, h3⟩
          · exact absurd h1 c2
          · rw [Bool.and_eq_true] at h3
            refine ⟨h1, ?_⟩
            have h4 := h3.1
            revert h4
            cases wd (pp_fm (fun k => !(wd k) && pp_pr s o k) (fun k => 1000 + pp_lg s o k + pp_mw s r (o + 1) (pp_up wd k true)) (pp_mx (fun k => !(wd k) && pp_pr s o k) (fun k => 1000 + pp_lg s o k + pp_mw s r (o + 1) (pp_up wd k true)) r (o + 1) (pp_mw s r (o + 1) wd)) r (o + 1))
            · exact fun _ => rfl
            · exact fun q => by cases q
        have hif : i ≠ pp_f1 s r o wd := fun e => h.elim (fun q => by omega) (fun q => by rw [e, hf.2] at q; cases q)
        rw [pp_gm_old r (o + 1) _ _ (h.elim (fun q => Or.inl (by omega)) (fun q => Or.inr (by rw [pp_up_n hif]; exact q))), pp_up_n hif, pp_up_n hio]
