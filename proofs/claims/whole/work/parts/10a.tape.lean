/-! ===== THE TAPE's words ===== -/
def pp_al (b : Nat) : Bool := decide (97 ≤ b ∧ b ≤ 122)
def pp_dg (b : Nat) : Bool := decide (48 ≤ b ∧ b ≤ 57)
/-- as long as f goes, to l at most -/
def pp_rl (f : Nat → Bool) (b : Nat → Nat) : Nat → Nat → Nat
  | 0, p => p
  | m + 1, p => if f (b p) = true then pp_rl f b m (p + 1) else p
theorem pp_rl_le {f : Nat → Bool} {b : Nat → Nat} : ∀ (m p : Nat), p ≤ pp_rl f b m p ∧ pp_rl f b m p ≤ p + m
  | 0, p => ⟨Nat.le_refl _, Nat.le_refl _⟩
  | m + 1, p => by
    rw [pp_rl]
    have := pp_rl_le (f := f) (b := b) m (p + 1)
    split <;> omega
theorem pp_rl_all {f : Nat → Bool} {b : Nat → Nat} : ∀ (m p k : Nat), p ≤ k → k < pp_rl f b m p → f (b k) = true
  | 0, p, k, h1, h2 => by rw [pp_rl] at h2; omega
  | m + 1, p, k, h1, h2 => by
    rw [pp_rl] at h2
    by_cases c : f (b p) = true
    · rw [if_pos c] at h2
      by_cases e : k = p
      · rw [e]; exact c
      · exact pp_rl_all m (p + 1) k (by omega) h2
    · rw [if_neg c] at h2
      omega
/-- behind the word at p -/
def pp_we (l : Nat) (b : Nat → Nat) (p : Nat) : Nat := if l ≤ p then p else if pp_al (b p) = true then pp_rl pp_al b (l - (p + 1)) (p + 1) else if pp_dg (b p) = true then pp_rl pp_dg b (l - (p + 1)) (p + 1) else p + 1
/-- behind blanks -/
def pp_sk (l : Nat) (b : Nat → Nat) (p : Nat) : Nat := pp_rl (fun x => decide (x = 32)) b (l - p) p
/-- the words' places -/
def pp_wp (l : Nat) (b : Nat → Nat) : Nat → Nat
  | 0 => pp_sk l b 0
  | j + 1 => pp_sk l b (pp_we l b (pp_wp l b j))
theorem pp_sk_le {l p : Nat} {b : Nat → Nat} (h : p ≤ l) : p ≤ pp_sk l b p ∧ pp_sk l b p ≤ l := by
  have := pp_rl_le (f := fun x => decide (x = 32)) (b := b) (l - p) p
  unfold pp_sk
  omega
theorem pp_sk_32 {l p : Nat} {b : Nat → Nat} (h : p < l) (h2 : b p = 32) : pp_sk l b p = pp_sk l b (p + 1) := by
  unfold pp_sk
  rw [show l - p = (l - (p + 1)) + 1 by omega, pp_rl, if_pos (decide_eq_true h2)]
theorem pp_sk_no {l p : Nat} {b : Nat → Nat} (h : p < l) (h2 : ¬ b p = 32) : pp_sk l b p = p := by
  unfold pp_sk
  rw [show l - p = (l - (p + 1)) + 1 by omega, pp_rl, if_neg (by simpa using h2)]
theorem pp_sk_end {l : Nat} {b : Nat → Nat} : pp_sk l b l = l := by
  unfold pp_sk
  rw [Nat.sub_self]
  rfl
theorem pp_sk_word {l : Nat} {b : Nat → Nat} : ∀ (m p : Nat), p + m = l → pp_sk l b p < l → ¬ b (pp_sk l b p) = 32
  | 0, p, h, h2 => by
    rw [show p = l by omega, pp_sk_end] at h2
    omega
  | m + 1, p, h, h2 => by
    by_cases c : b p = 32
    · rw [pp_sk_32 (by omega) c] at h2 ⊢
      exact pp_sk_word m (p + 1) (by omega) h2
    · rw [pp_sk_no (by omega) c]
      exact c
theorem pp_we_le {l p : Nat} {b : Nat → Nat} (h : p < l) : p < pp_we l b p ∧ pp_we l b p ≤ l := by
  have h1 := pp_rl_le (f := pp_al) (b := b) (l - (p + 1)) (p + 1)
  have h2 := pp_rl_le (f := pp_dg) (b := b) (l - (p + 1)) (p + 1)
  unfold pp_we
  rw [if_neg (by omega)]
  (repeat' split) <;> omega
theorem pp_we_le2 {l p : Nat} {b : Nat → Nat} (h : p ≤ l) : p ≤ pp_we l b p ∧ pp_we l b p ≤ l := by
  by_cases c : p < l
  · have := pp_we_le (b := b) c
    omega
  · unfold pp_we
    rw [if_pos (by omega)]
    omega
theorem pp_wp_le {l : Nat} {b : Nat → Nat} : ∀ j : Nat, pp_wp l b j ≤ l
  | 0 => (pp_sk_le (Nat.zero_le l)).2
  | j + 1 => (pp_sk_le (pp_we_le2 (pp_wp_le j)).2).2
theorem pp_wp_up {l : Nat} {b : Nat → Nat} {j : Nat} (h : pp_wp l b j < l) : pp_wp l b j < pp_wp l b (j + 1) := by
  have h1 := pp_we_le (b := b) h
  have h2 := (pp_sk_le (b := b) h1.2).1
  rw [pp_wp]
  omega
theorem pp_wp_ge {l : Nat} {b : Nat → Nat} : ∀ j : Nat, pp_wp l b j < l → j ≤ pp_wp l b j
  | 0, _ => Nat.zero_le _
  | j + 1, h => by
    have h0 : pp_wp l b j < l := by
      rcases Nat.lt_or_ge (pp_wp l b j) l with h2 | h2
      · exact h2
      · have h3 := pp_wp_le (l := l) (b := b) j
        have h4 : pp_wp l b j = l := by omega
        rw [pp_wp, h4] at h
        have h5 : pp_we l b l = l := by
          unfold pp_we
          rw [if_pos (Nat.le_refl _)]
        rw [h5, pp_sk_end] at h
        omega
    have := pp_wp_ge j h0
    have := pp_wp_up h0
    omega
theorem pp_wp_nb {l : Nat} {b : Nat → Nat} {j : Nat} (h : pp_wp l b j < l) : ¬ b (pp_wp l b j) = 32 := by
  cases j with
  | zero => exact pp_sk_word (l := l) l 0 (by omega) h
  | succ j =>
    rw [pp_wp] at h ⊢
    have h1 := (pp_we_le2 (b := b) (pp_wp_le (l := l) (b := b) j)).2
    exact pp_sk_word (l := l) (l - pp_we l b (pp_wp l b j)) _ (by omega) h
/-- l bytes b lie in row T -/
def pp_TB (T : Nat → Int32) (l : Nat) (b : Nat → Nat) : Prop := l ≤ 200 ∧ ∀ k, k < l → T k = pp_i (b k) ∧ b k < 256
theorem pp_X_al {b : Nat} (h : b < 256) : (f_X8_isLetter (pp_i b) = 0) = ¬ (pp_al b = true) := by
  unfold f_X8_isLetter pp_al
  rw [show (97 : Int32) = pp_i 97 from rfl, show (122 : Int32) = pp_i 122 from rfl, pp_ite (pp_lt (by omega) (by omega)), pp_ite (pp_gt (by omega) (by omega))]
  refine propext ⟨fun q q2 => ?_, fun q => ?_⟩
  · have := of_decide_eq_true q2
    rw [if_neg (by omega), if_neg (by omega)] at q
    exact absurd q (by decide)
  · by_cases c : b < 97
    · rw [if_pos c]
    · rw [if_neg c]
      by_cases c2 : 122 < b
      · rw [if_pos c2]
      · exact absurd (decide_eq_true ⟨by omega, by omega⟩) q
theorem pp_X_dg {b : Nat} (h : b < 256) : (f_X8_isDigit (pp_i b) = 0) = ¬ (pp_dg b = true) := by
  unfold f_X8_isDigit pp_dg
  rw [show (48 : Int32) = pp_i 48 from rfl, show (57 : Int32) = pp_i 57 from rfl, pp_ite (pp_lt (by omega) (by omega)), pp_ite (pp_gt (by omega) (by omega))]
  refine propext ⟨fun q q2 => ?_, fun q => ?_⟩
  · have := of_decide_eq_true q2
    rw [if_neg (by omega), if_neg (by omega)] at q
    exact absurd q (by decide)
  · by_cases c : b < 48
    · rw [if_pos c]
    · rw [if_neg c]
      by_cases c2 : 57 < b
      · rw [if_pos c2]
      · exact absurd (decide_eq_true ⟨by omega, by omega⟩) q
theorem pp_X_we {N l p : Nat} {b : Nat → Nat} {μ : g_M} (hN : 300 ≤ N) (hT : pp_TB (μ 46) l b) (h6 : μ 45 6 = pp_i l) (hp : p < l) : f_X8_wordEnd N (pp_i p) μ = some (pp_i (pp_we l b p)) := by
  have hl := hT.1
  have r1 : ∀ (m fuel k : Nat), k + m = l → m < fuel → f_X8_wordEnd_L16 N fuel (pp_i k) μ = some (pp_i (pp_rl pp_al b m k)) := by
    intro m
    induction m with
    | zero =>
      intro fuel k hk hf
      obtain ⟨f, rfl⟩ := pp_fu hf
      rw [f_X8_wordEnd_L16, h6, pp_ite (pp_ge (by omega) (by omega)), if_pos (by omega), pp_rl]
    | succ m ih =>
      intro fuel k hk hf
      obtain ⟨f, rfl⟩ := pp_fu hf
      have hb := hT.2 k (by omega)
      rw [f_X8_wordEnd_L16, h6, pp_ite (pp_ge (by omega) (by omega)), if_neg (by omega), pp_rd (by omega) (by decide), hb.1, show pp_i k + 1 = pp_i (k + 1) from pp_add k 1, pp_rl]
      simp only [Option.bind_some]
      rw [pp_ite (pp_X_al hb.2)]
      by_cases c : pp_al (b k) = true
      · rw [if_neg (fun q => q c), if_pos c]
        exact ih f (k + 1) (by omega) (by omega)
      · rw [if_pos c, if_neg c]
  have r2 : ∀ (m fuel k : Nat), k + m = l → m < fuel → f_X8_wordEnd_L54 N fuel (pp_i k) μ = some (pp_i (pp_rl pp_dg b m k)) := by
    intro m
    induction m with
    | zero =>
      intro fuel k hk hf
      obtain ⟨f, rfl⟩ := pp_fu hf
      rw [f_X8_wordEnd_L54, h6, pp_ite (pp_ge (by omega) (by omega)), if_pos (by omega), pp_rl]
    | succ m ih =>
      intro fuel k hk hf
      obtain ⟨f, rfl⟩ := pp_fu hf
      have hb := hT.2 k (by omega)
      rw [f_X8_wordEnd_L54, h6, pp_ite (pp_ge (by omega) (by omega)), if_neg (by omega), pp_rd (by omega) (by decide), hb.1, show pp_i k + 1 = pp_i (k + 1) from pp_add k 1, pp_rl]
      simp only [Option.bind_some]
      rw [pp_ite (pp_X_dg hb.2)]
      by_cases c : pp_dg (b k) = true
      · rw [if_neg (fun q => q c), if_pos c]
        exact ih f (k + 1) (by omega) (by omega)
      · rw [if_pos c, if_neg c]
  have hb := hT.2 p hp
  unfold f_X8_wordEnd pp_we
  rw [pp_rd (by omega) (by decide), hb.1, show pp_i p + 1 = pp_i (p + 1) from pp_add p 1]
  simp only [Option.bind_some]
  rw [pp_ite (pp_X_al hb.2), pp_ite (pp_X_dg hb.2), r1 (l - (p + 1)) N (p + 1) (by omega) (by omega), r2 (l - (p + 1)) N (p + 1) (by omega) (by omega), if_neg (show ¬ l ≤ p by omega)]
  simp only [Option.bind_some]
  by_cases c1 : pp_al (b p) = true
  · rw [if_neg (fun q => q c1), if_pos c1]
  · rw [if_pos c1, if_neg c1]
    by_cases c2 : pp_dg (b p) = true
    · rw [if_neg (fun q => q c2), if_pos c2]
    · rw [if_pos c2, if_neg c2]
/-- the names' lengths -/
def pp_nl : List Nat := [4, 7, 5, 6, 8, 4, 2, 4, 3, 2, 2, 3, 3, 5, 4, 5, 4, 6]
/-- name n is the word from p to e -/
def pp_nm (b : Nat → Nat) (p e n : Nat) : Bool := decide (e = p + pp_nl.getD n 0) && (List.range (pp_nl.getD n 0)).all (fun k => decide (pp_i (b (p + k)) = g_by.getD (n * 8 + k) 0))
def pp_f18 (b : Nat → Nat) (p e : Nat) : Nat → Nat → Nat
  | 0, _ => 25
  | m + 1, n => if pp_nm b p e n = true then n else pp_f18 b p e m (n + 1)
/-- the word's code -/
def pp_cd (l : Nat) (b : Nat → Nat) (p : Nat) : Nat :=
  if pp_al (b p) = true then pp_f18 b p (pp_we l b p) 18 0 else if pp_dg (b p) = true then (if pp_we l b p - p ≤ 4 then 18 else 25)
  else if b p = 40 then 23 else if b p = 41 then 24 else if b p = 59 then 19 else if b p = 60 then 20 else if b p = 61 then 21 else if b p = 62 then 22 else 25
def pp_nv (b : Nat → Nat) : Nat → Nat → Nat → Nat
  | 0, _, v => v
  | m + 1, p, v => pp_nv b m (p + 1) (v * 10 + b p - 48)
theorem pp_nl_ok : ∀ n : Fin 18, pp_nl.getD n.val 0 ≤ 8 ∧ 2 ≤ pp_nl.getD n.val 0 ∧ ∀ k : Fin 8, (k.val < pp_nl.getD n.val 0 → ¬ g_by.getD (n.val * 8 + k.val) 0 = 32) ∧ (¬ k.val < pp_nl.getD n.val 0 → g_by.getD (n.val * 8 + k.val) 0 = 32) := by decide +kernel
theorem pp_ch {n k : Nat} (hn : n < 18) (hk : k < 8) : g_ch (pp_i n * 8 + pp_i k) = some (g_by.getD (n * 8 + k) 0) := by
  unfold g_ch
  rw [show (8 : Int32) = pp_i 8 from rfl, pp_mul, pp_add, pp_nat (by omega), if_neg]
  intro q
  rcases q with q | q
  · rw [show (0 : Int32) = pp_i 0 from rfl, pp_lt (by omega) (by omega)] at q
    omega
  · omega
def pp_nq (b : Nat → Nat) (p len n k : Nat) : Bool := if k < len then decide (pp_i (b (p + k)) = g_by.getD (n * 8 + k) 0) else decide (g_by.getD (n * 8 + k) 0 = 32)
def pp_nx (b : Nat → Nat) (p len n : Nat) : Nat → Nat → Bool
  | 0, _ => true
  | m + 1, k => pp_nq b p len n k && pp_nx b p len n m (k + 1)
theorem pp_nx_all {b : Nat → Nat} {p len n : Nat} : ∀ (m k : Nat), (pp_nx b p len n m k = true) = (∀ j, k ≤ j → j < k + m → pp_nq b p len n j = true)
  | 0, k => propext ⟨fun _ j h1 h2 => by omega, fun _ => rfl⟩
  | m + 1, k => by
    rw [pp_nx, Bool.and_eq_true, pp_nx_all m (k + 1)]
    refine propext ⟨fun q j h1 h2 => ?_, fun q => ⟨q k (Nat.le_refl _) (by omega), fun j h1 h2 => q j (by omega) (by omega)⟩⟩
    by_cases e : j = k
    · rw [e]; exact q.1
    · exact q.2 j (by omega) (by omega)
theorem pp_X_nm {N l p n : Nat} {b : Nat → Nat} {μ : g_M} (hN : 300 ≤ N) (hT : pp_TB (μ 46) l b) (hn : n < 18) {len : Nat} (hle : p + len ≤ l) (hal : ∀ k, k < len → pp_al (b (p + k)) = true) : f_X8_isName N (pp_i n) (pp_i p) (pp_i len) μ = some (if pp_nm b p (p + len) n = true then 1 else 0) := by
  have hl := hT.1
  obtain ⟨o1, o2, o3⟩ := pp_nl_ok ⟨n, hn⟩
  dsimp only at o1 o2 o3
  have loop : ∀ (m fuel k : Nat), k + m = 8 → m < fuel → (match f_X8_isName_L11 N fuel (pp_i n) (pp_i p) (pp_i len) (pp_i k) μ with | none => none | some (.inl q) => some q | some (.inr _) => some 1) = some (if pp_nx b p len n m k = true then 1 else 0) := by
    intro m
    induction m with
    | zero =>
      intro fuel k hk hf
      obtain ⟨f, rfl⟩ := pp_fu hf
      rw [f_X8_isName_L11, show (8 : Int32) = pp_i 8 from rfl, pp_ite (pp_ge (by omega) (by omega)), if_pos (by omega)]
      rfl
    | succ m ih =>
      intro fuel k hk hf
      obtain ⟨f, rfl⟩ := pp_fu hf
      have hih := ih f (k + 1) (by omega) (by omega)
      rw [f_X8_isName_L11, pp_ch hn (by omega), show (8 : Int32) = pp_i 8 from rfl, pp_ite (pp_ge (by omega) (by omega)), if_neg (by omega), pp_ite (pp_ge (by omega) (by omega)), show pp_i k + 1 = pp_i (k + 1) from pp_add k 1, pp_add, pp_nx]
      simp only [Option.bind_some]
      by_cases c : len ≤ k
      · have e : pp_nq b p len n k = decide (g_by.getD (n * 8 + k) 0 = 32) := if_neg (by omega)
        rw [if_pos c, e]
        by_cases c2 : g_by.getD (n * 8 + k) 0 = 32
        · rw [if_pos c2, decide_eq_true c2, Bool.true_and]
          exact hih
        · rw [if_neg c2, decide_eq_false c2, Bool.false_and]
          rfl
      · have hb := hT.2 (p + k) (by omega)
        have e : pp_nq b p len n k = decide (pp_i (b (p + k)) = g_by.getD (n * 8 + k) 0) := if_pos (by omega)
        rw [if_neg c, pp_rd (by omega) (by decide), hb.1, e]
        simp only [Option.bind_some]
        by_cases c2 : pp_i (b (p + k)) = g_by.getD (n * 8 + k) 0
        · rw [if_pos c2.symm, decide_eq_true c2, Bool.true_and]
          exact hih
        · rw [if_neg (fun q => c2 q.symm), decide_eq_false c2, Bool.false_and]
          rfl
  unfold f_X8_isName
  rw [show (8 : Int32) = pp_i 8 from rfl, pp_ite (pp_le (by omega) (by omega))]
  have hb32 : ∀ k, k < len → ¬ pp_i (b (p + k)) = 32 := by
    intro k hk q
    have h1 := hT.2 (p + k) (by omega)
    have h2 := of_decide_eq_true (hal k hk)
    have h3 : pp_i (b (p + k)) = pp_i 32 := q
    have := pp_inj (by omega) (by omega) h3
    omega
  have key : (pp_nm b p (p + len) n = true) = (len ≤ 8 ∧ pp_nx b p len n 8 0 = true) := by
    rw [pp_nx_all]
    unfold pp_nm
    rw [Bool.and_eq_true, List.all_eq_true]
    refine propext ⟨fun q => ?_, fun q => ?_⟩
    · have q1 : len = pp_nl.getD n 0 := by
        have := of_decide_eq_true q.1
        omega
      refine ⟨by omega, fun j _ hj => ?_⟩
      unfold pp_nq
      by_cases c : j < len
      · rw [if_pos c]
        exact q.2 j (List.mem_range.mpr (by omega))
      · rw [if_neg c]
        exact decide_eq_true ((o3 ⟨j, by omega⟩).2 (show ¬ j < pp_nl.getD n 0 by omega))
    · have q1 : len = pp_nl.getD n 0 := by
        rcases Nat.lt_trichotomy len (pp_nl.getD n 0) with h | h | h
        · have h1 := q.2 len (Nat.zero_le _) (by omega)
          unfold pp_nq at h1
          rw [if_neg (Nat.lt_irrefl _)] at h1
          exact absurd (of_decide_eq_true h1) ((o3 ⟨len, by omega⟩).1 h)
        · exact h
        · have h1 := q.2 (pp_nl.getD n 0) (Nat.zero_le _) (by omega)
          unfold pp_nq at h1
          rw [if_pos h, (o3 ⟨pp_nl.getD n 0, by omega⟩).2 (Nat.lt_irrefl _)] at h1
          exact absurd (of_decide_eq_true h1) (hb32 _ h)
      refine ⟨decide_eq_true (by rw [q1]), fun k hk => ?_⟩
      have hk := List.mem_range.mp hk
      have h1 := q.2 k (Nat.zero_le _) (by omega)
      unfold pp_nq at h1
      rw [if_pos (by omega)] at h1
      exact h1
  rw [pp_ite key]
  have h := loop 8 N 0 (by omega) (by omega)
  by_cases c : len ≤ 8
  · rw [if_pos c, show (0 : Int32) = pp_i 0 from rfl]
    have h9 : (if pp_nx b p len n 8 0 = true then (1 : Int32) else pp_i 0) = (if len ≤ 8 ∧ pp_nx b p len n 8 0 = true then 1 else pp_i 0) := pp_ite (propext ⟨fun q => ⟨c, q⟩, fun q => q.2⟩)
    rw [← h9]
    cases hc : f_X8_isName_L11 N N (pp_i n) (pp_i p) (pp_i len) (pp_i 0) μ with
    | none => rw [hc] at h; cases h
    | some q =>
      rw [hc] at h
      cases q with
      | inl q => exact h
      | inr q => exact h
  · rw [if_neg c, if_neg (fun q => c q.1)]
