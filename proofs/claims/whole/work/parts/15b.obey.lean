theorem g_rfX_c (t s r : Nat) : g_sef (g_rfX t s) 1 10 (some r) = g_rfX r s := by
  funext i j
  show (if i = 1 ∧ j = 10 then some r else g_rfX t s i j) = g_rfX r s i j
  unfold g_rfX
  by_cases e : i = 1 ∧ j = 10
  · rw [if_pos e, if_pos (by omega), if_pos e]
  · rw [if_neg e]
    by_cases e1 : i < 63
    · rw [if_pos e1, if_pos e1, if_neg e, if_neg e]
    · rw [if_neg e1, if_neg e1]
section GN
variable {X : g_X} {Y : g_Y} {d mc ms : Nat} {Q : Option Value → g_S → Prop} {k kc ks pc : Nat} {ls : List (Option Value)} {st : List Value} {σ : g_S}
theorem g_aload_nN {i : Fin 4} (hd : decode Y.1 pc = .ok (.aload_n i, 1)) (hv : ls[(i : Nat)]? = some (some .null)) (h : g_V X Y d mc ms Q k kc ks (pc + 1) ls (.null :: st) σ) : g_V X Y d mc ms Q k kc ks pc ls st σ := by
  intro l p e s m args below meth c H locs lsA hC hP hz hS hl
  exact lv_aload_nN hC.1 hC.2.1 hd rfl (g_loc hl hv) (h l p e s m args below meth c H locs lsA hC hP hz hS hl)
theorem g_astore_1N {a0 a1 : Option Value} {t : List (Option Value)} (hc : g_c1 a0 = true) (hn : 1 < Y.2.1) (hd : decode Y.1 pc = .ok (.astore_n 1, 1)) (h : g_V X Y d mc ms Q k kc ks (pc + 1) (a0 :: some .null :: t) st σ) : g_V X Y d mc ms Q k kc ks pc (a0 :: a1 :: t) (.null :: st) σ := by
  intro l p e s m args below meth c H locs lsA hC hP hz hS hl
  exact lv_astore_nN hC.1 hC.2.1 hd rfl hl hn rfl (fun lsB hlB => h l p e s m args below meth c H locs lsB hC hP hz hS (g_st1 (i := 1) (v := .null) (ls := (a0 :: a1 :: t)) (fun a h9 _ => by cases h9; exact hc) hlB rfl))
end GN
section OB
variable {D : va_G} {cA : Nat → ClassId} {b b2 k : Nat} {dyn : Nat → Nat} {s : Nat}
theorem k_X9_obey_L7 {N r L : Nat} {z : g_M} (hR : g_RO (g_XX D cA b b2 dyn) k (g_rfX r s) r L) : ∀ (n : Nat) (x : Int32) (μ : g_M), pp_obL N r L n x μ = some z → g_V (g_XX D cA b b2 dyn) Y_X9_obey 6 0 0 (fun r1 σ1 => r1 = none ∧ σ1 = (z, g_rfX r s)) k 0 0 7 [some (.ref 1), some (.ref r), some (.int x)] [] (μ, g_rfX r s) := by
  intro n
  induction n with
  | zero => intro x μ h; cases h
  | succ n ih =>
    intro x μ h
    rw [pp_obL] at h
    refine g_iload_n dX9_obey_7 rfl ?_
    refine g_aload_n dX9_obey_8 rfl ?_
    refine m_getI fl_X9_83 rfl rfl dX9_obey_9 ?_
    refine g_icmp_ge 26 (by decide) dX9_obey_12 (fun c1 => ?_) (fun c1 => ?_)
    · rw [if_pos c1] at h
      cases h
      exact g_vret rfl (Nat.le_refl _) rfl dX9_obey_26 ⟨rfl, rfl⟩
    · rw [if_neg c1] at h
      obtain ⟨μ1, q1, h⟩ := g_bind h
      refine g_aload_n dX9_obey_15 rfl ?_
      refine g_iload_n dX9_obey_16 rfl ?_
      refine m_cVv mt_X9_settleWills ml_X9_105 mv_X9_settleWills dX9_obey_17 (k_X9_settleWills hR q1) rfl rfl rfl rfl (by decide) ⟨Nat.le_refl _, Nat.le_refl _⟩ (Nat.le_of_ble_eq_true rfl) ?_
      refine g_iinc_2 (v := 1) rfl (by decide) (Nat.le_of_ble_eq_true rfl) dX9_obey_20 ?_
      refine g_goto 7 (by decide) dX9_obey_23 ?_
      exact ih (x + 1) μ1 h
theorem k_X9_obey {N r L t : Nat} {μ z : g_M} (hR : g_RO (g_XX D cA b b2 dyn) k (g_rfX r s) r L) (h : pp_obL N r L N 0 μ = some z) : g_K (g_XX D cA b b2 dyn) yX9_obey Y_X9_obey 6 0 0 k [.ref 1, .ref r] (μ, g_rfX t s) (fun r1 σ1 => r1 = none ∧ σ1 = (z, g_rfX r s)) := by
  refine g_met 1 (by decide) rfl rfl (Nat.le_of_ble_eq_true rfl) ?_
  refine g_aload_n dX9_obey_0 rfl ?_
  refine g_aload_n dX9_obey_1 rfl ?_
  refine m_putR fl_X9_66 fw_9_10 rfl rfl rfl rfl dX9_obey_2 ?_
  rw [g_rfX_c]
  refine g_ic0 dX9_obey_5 ?_
  refine g_istore_2 rfl (Nat.le_of_ble_eq_true rfl) dX9_obey_6 ?_
  exact k_X9_obey_L7 hR N 0 μ h
theorem g_nx_X {id : Nat} {sp : Nat × Nat × Nat} (hid : id = 63 + k) (h : sp = (if k % 5 = 0 then (2, 7, 6) else if k % 5 = 4 then (0, 0, dyn (k / 5)) else (0, 0, 8))) : g_nx (g_XX D cA b b2 dyn) k id sp := by
  subst hid
  have hs : ∀ K j : Nat, g_shX dyn K (63 + j) = if j < K then some (if j % 5 = 0 then (2, 7, 6) else if j % 5 = 4 then (0, 0, dyn (j / 5)) else (0, 0, 8)) else none := by
    intro K j
    unfold g_shX
    rw [if_neg (by omega), show 63 + j - 63 = j by omega]
    by_cases e : j < K
    · rw [if_pos (by omega), if_pos e]
      by_cases e1 : j % 5 = 0
      · rw [if_pos e1, if_pos e1]
      · rw [if_neg e1, if_neg e1]
        by_cases e2 : j % 5 = 4
        · rw [if_pos e2, if_pos e2]
        · rw [if_neg e2, if_neg e2]
    · rw [if_neg (by omega), if_neg e]
  have hlo : ∀ K a : Nat, a < 63 → g_shX dyn K a = g_shX0 a := fun K a ha => by
    unfold g_shX
    rw [if_pos ha]
  refine ⟨?_, ?_, fun j sj hj => ?_, fun n hn i si h1 h2 => ?_⟩
  · show g_shX dyn k (63 + k) = none
    rw [hs, if_neg (Nat.lt_irrefl k)]
  · show g_shX dyn (k + 1) (63 + k) = some sp
    rw [hs, if_pos (Nat.lt_succ_self k), h]
  · have hj' : g_shX dyn (k + 1) j = some sj := hj
    show j = 63 + k ∨ g_shX dyn k j = some sj
    by_cases e : j < 63
    · right
      rw [hlo _ _ e] at hj' ⊢
      exact hj'
    · obtain ⟨q, rfl⟩ : ∃ q, j = 63 + q := ⟨j - 63, by omega⟩
      rw [hs] at hj' ⊢
      by_cases e2 : q < k
      · right
        rw [if_pos e2]
        rw [if_pos (by omega)] at hj'
        exact hj'
      · left
        by_cases e3 : q < k + 1
        · omega
        · rw [if_neg e3] at hj'
          cases hj'
  · have h1' : g_shX dyn (k + 1) i = none := h1
    have h2' : g_shX dyn (k + 1 + 1) i = some si := h2
    have hn' : (if 63 + k < 63 then b + (63 + k) else b2 + (63 + k - 63)) = n := hn
    rw [if_neg (by omega), show 63 + k - 63 = k by omega] at hn'
    show (if i < 63 then b + i else b2 + (i - 63)) = n + 1
    by_cases e : i < 63
    · rw [hlo _ _ e] at h1' h2'
      rw [h1'] at h2'
      cases h2'
    · obtain ⟨q, rfl⟩ : ∃ q, i = 63 + q := ⟨i - 63, by omega⟩
      rw [hs] at h1' h2'
      rw [if_neg e, show 63 + q - 63 = q by omega]
      by_cases e2 : q < k + 1
      · rw [if_pos e2] at h1'
        cases h1'
      · by_cases e3 : q < k + 1 + 1
        · omega
        · rw [if_neg e3] at h2'
          cases h2'
theorem g_sh_X {K j : Nat} {sp : Nat × Nat × Nat} (hj : j < K) (h : sp = (if j % 5 = 0 then (2, 7, 6) else if j % 5 = 4 then (0, 0, dyn (j / 5)) else (0, 0, 8))) : (g_XX D cA b b2 dyn).2.2.2.1 K (63 + j) = some sp := by
  show g_shX dyn K (63 + j) = some sp
  unfold g_shX
  rw [if_neg (by omega), show 63 + j - 63 = j by omega, if_pos (by omega), h]
  by_cases e1 : j % 5 = 0
  · rw [if_pos e1, if_pos e1]
  · rw [if_neg e1, if_neg e1]
    by_cases e2 : j % 5 = 4
    · rw [if_pos e2, if_pos e2]
    · rw [if_neg e2, if_neg e2]
theorem g_rfX_n {t s a j : Nat} (h : 63 ≤ a) : g_rfX t s a j = if (a - 63) % 5 = 0 ∧ j < 4 then some (a + 1 + j) else none := by
  unfold g_rfX
  rw [if_neg (by omega)]
theorem g_RO_new {t q L : Nat} (hk : k % 5 = 0) (hd : dyn (k / 5) = L) : g_RO (g_XX D cA b b2 dyn) (k + 5) (g_rfX t q) (63 + k) L := by
  refine ⟨g_sh_X (by omega) (by rw [if_pos hk]), g_sh_X (j := k + 1) (by omega) ?_, g_sh_X (j := k + 2) (by omega) ?_, g_sh_X (j := k + 3) (by omega) ?_, g_sh_X (j := k + 4) (by omega) ?_, ?_, ?_, ?_, ?_⟩
  · rw [if_neg (by omega), if_neg (by omega)]
  · rw [if_neg (by omega), if_neg (by omega)]
  · rw [if_neg (by omega), if_neg (by omega)]
  · rw [if_neg (by omega), if_pos (by omega), show (k + 4) / 5 = k / 5 by omega, hd]
  · rw [g_rfX_n (by omega), if_pos (by omega)]
  · rw [g_rfX_n (by omega), if_pos (by omega)]
  · rw [g_rfX_n (by omega), if_pos (by omega)]
  · rw [g_rfX_n (by omega), if_pos (by omega)]
end OB
