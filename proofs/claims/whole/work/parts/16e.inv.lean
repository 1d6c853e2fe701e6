/-! ===== what holds at the head of the law's loop ===== -/
def gl_St (D : va_G) (cA : Nat → ClassId) (s : State) (k : Nat) (dyn : Nat → Nat) (t u : Nat) (μX μM : g_M) (H : Heap) : Prop :=
  g_P (g_XX D cA s.heap.size (s.heap.size + 82) dyn) k (μX, g_rfX t u) H ∧ g_P (g_XM D cA (s.heap.size + 63)) 0 (μM, g_rfM) H ∧ H.size = s.heap.size + 82 + k ∧ gl_A s H
def gl_I (D : va_G) (cA : Nat → ClassId) (s : State) (k : Nat) (μX μM : g_M) (H : Heap) : Prop :=
  ∃ (dyn : Nat → Nat) (t Lt u Lu : Nat), gl_St D cA s k dyn t u μX μM H ∧ k % 5 = 0 ∧ pp_Rel t Lt u Lu μX μM ∧ g_RO (g_XX D cA s.heap.size (s.heap.size + 82) dyn) k (g_rfX t u) t Lt ∧ g_RO (g_XX D cA s.heap.size (s.heap.size + 82) dyn) k (g_rfX t u) u Lu ∧ t + 5 ≤ 63 + k ∧ u + 5 ≤ 63 + k
theorem g_shM_hi (n : Nat) : g_shM (n + 19) = none := rfl
theorem g_shM_lt {a : Nat} {sp : Nat × Nat × Nat} (h : g_shM a = some sp) : a < 19 := by
  by_cases e : a < 19
  · exact e
  · obtain ⟨n, rfl⟩ : ∃ n, a = n + 19 := ⟨a - 19, by omega⟩
    rw [g_shM_hi] at h
    cases h
theorem g_shX_lt {dyn : Nat → Nat} {k a : Nat} {sp : Nat × Nat × Nat} (h : g_shX dyn k a = some sp) : a < 63 + k := by
  unfold g_shX at h
  by_cases e : a < 63
  · omega
  · rw [if_neg e] at h
    by_cases e2 : a < 63 + k
    · exact e2
    · rw [if_neg e2] at h
      cases h
theorem g_J_X {D : va_G} {cA : Nat → ClassId} {b b2 : Nat} {dyn : Nat → Nat} (h : b + 63 ≤ b2) : g_J (g_XX D cA b b2 dyn) := by
  refine ⟨fun k x y p q h1 h2 h3 => ?_, fun k x p h1 => ?_⟩
  · have h3' : (if x < 63 then b + x else b2 + (x - 63)) = (if y < 63 then b + y else b2 + (y - 63)) := h3
    by_cases ex : x < 63
    · by_cases ey : y < 63
      · rw [if_pos ex, if_pos ey] at h3'
        omega
      · rw [if_pos ex, if_neg ey] at h3'
        omega
    · by_cases ey : y < 63
      · rw [if_neg ex, if_pos ey] at h3'
        omega
      · rw [if_neg ex, if_neg ey] at h3'
        omega
  · show (b ≤ (if x < 63 then b + x else b2 + (x - 63)) ∧ (if x < 63 then b + x else b2 + (x - 63)) < b + 63) ∨ b2 ≤ (if x < 63 then b + x else b2 + (x - 63))
    by_cases ex : x < 63
    · rw [if_pos ex]
      exact Or.inl ⟨by omega, by omega⟩
    · rw [if_neg ex]
      exact Or.inr (by omega)
theorem g_J_M {D : va_G} {cA : Nat → ClassId} {b : Nat} : g_J (g_XM D cA b) :=
  ⟨fun k x y p q h1 h2 h3 => by have h3' : b + x = b + y := h3; omega, fun k x p h1 => by
    have := g_shM_lt (show g_shM x = some p from h1)
    exact (⟨by omega, by omega⟩ : b ≤ b + x ∧ b + x < b + 19)⟩
theorem g_hz_M {D : va_G} {cA : Nat → ClassId} {b k n : Nat} : g_hz (g_XM D cA b) k n := fun id sp h1 h2 => by
  have h1' : g_shM id = none := h1
  have h2' : g_shM id = some sp := h2
  rw [h1'] at h2'
  cases h2'
theorem g_P_kept {X : g_X} {k : Nat} {σ : g_S} {H H1 : Heap} (hP : g_P X k σ H) (hz : g_hz X k H1.size) (ho : ∀ (id : Nat) (sp : Nat × Nat × Nat), X.2.2.2.1 k id = some sp → H1[X.2.2.1 id]? = H[X.2.2.1 id]?) : g_P X k σ H1 :=
  ⟨fun id sp hs => g_at_same (hP.1 id sp hs) rfl rfl (ho id sp hs), hz⟩
theorem g_RO_rf {X : g_X} {k t u t' u' r L : Nat} (h : g_RO X k (g_rfX t u) r L) : g_RO X k (g_rfX t' u') r L := by
  have e : ∀ j : Nat, j < 4 → g_rfX t' u' r j = g_rfX t u r j := by
    intro j hj
    unfold g_rfX
    by_cases e1 : r < 63
    · rw [if_pos e1, if_pos e1, if_neg (by omega), if_neg (by omega), if_neg (by omega), if_neg (by omega)]
    · rw [if_neg e1, if_neg e1]
  obtain ⟨h1, h2, h3, h4, h5, h6, h7, h8, h9⟩ := h
  exact ⟨h1, h2, h3, h4, h5, (e 0 (by decide)).trans h6, (e 1 (by decide)).trans h7, (e 2 (by decide)).trans h8, (e 3 (by decide)).trans h9⟩
theorem g_shX_up {dyn dyn' : Nat → Nat} {k k' a : Nat} {sp : Nat × Nat × Nat} (hk : k ≤ k') (h5 : k % 5 = 0) (hd : ∀ i : Nat, i < k / 5 → dyn' i = dyn i) (h : g_shX dyn k a = some sp) : g_shX dyn' k' a = some sp := by
  have hlt := g_shX_lt h
  unfold g_shX at h ⊢
  by_cases e : a < 63
  · rw [if_pos e] at h ⊢
    exact h
  · rw [if_neg e, if_pos hlt] at h
    rw [if_neg e, if_pos (by omega), hd ((a - 63) / 5) (by omega)]
    exact h
theorem g_RO_up {D : va_G} {cA : Nat → ClassId} {b b2 k k' r L : Nat} {dyn dyn' : Nat → Nat} {ρ : g_R} (hk : k ≤ k') (h5 : k % 5 = 0) (hd : ∀ i : Nat, i < k / 5 → dyn' i = dyn i) (h : g_RO (g_XX D cA b b2 dyn) k ρ r L) : g_RO (g_XX D cA b b2 dyn') k' ρ r L := by
  obtain ⟨h1, h2, h3, h4, h5', h6⟩ := h
  exact ⟨g_shX_up hk h5 hd h1, g_shX_up hk h5 hd h2, g_shX_up hk h5 hd h3, g_shX_up hk h5 hd h4, g_shX_up hk h5 hd h5', h6⟩
theorem g_hz_X {D : va_G} {cA : Nat → ClassId} {b b2 k n : Nat} {dyn : Nat → Nat} (h : n = b2 + k) : g_hz (g_XX D cA b b2 dyn) k n := fun id sp h1 h2 => by
  have h1' : g_shX dyn k id = none := h1
  have h2' : g_shX dyn (k + 1) id = some sp := h2
  have hlt := g_shX_lt h2'
  show (if id < 63 then b + id else b2 + (id - 63)) = n
  by_cases e : id < 63
  · exfalso
    unfold g_shX at h1' h2'
    rw [if_pos e] at h1' h2'
    rw [h1'] at h2'
    cases h2'
  · rw [if_neg e]
    by_cases e2 : id < 63 + k
    · exfalso
      unfold g_shX at h1'
      rw [if_neg e, if_pos e2] at h1'
      by_cases e3 : (id - 63) % 5 = 0
      · rw [if_pos e3] at h1'
        cases h1'
      · rw [if_neg e3] at h1'
        by_cases e4 : (id - 63) % 5 = 4
        · rw [if_pos e4] at h1'
          cases h1'
        · rw [if_neg e4] at h1'
          cases h1'
    · omega
/-- another choice for the Rules to come -/
theorem gl_St_dyn {D : va_G} {cA : Nat → ClassId} {s : State} {k t u : Nat} {dyn dyn' : Nat → Nat} {μX μM : g_M} {H : Heap} (h5 : k % 5 = 0) (hd : ∀ i : Nat, i < k / 5 → dyn' i = dyn i) (h : gl_St D cA s k dyn t u μX μM H) : gl_St D cA s k dyn' t u μX μM H := by
  obtain ⟨h1, h2, h3, h4⟩ := h
  refine ⟨⟨fun id sp hs => ?_, g_hz_X h3⟩, h2, h3, h4⟩
  have h9 : g_shX dyn k id = some sp := g_shX_up (Nat.le_refl k) h5 (fun i hi => (hd i hi).symm) (show g_shX dyn' k id = some sp from hs)
  exact h1.1 id sp h9
section GX
variable {p : Program} {l : Launch} {e : Env} {s : State} {m : MethodId} {below : List Frame} {meth : Method} {c : Code} {sb L : Nat} {xs : Nat → Int32} {H : Heap} {cells slots pc : Nat} {ls : List (Option Value)} {st : List Value} {D : va_G} {cA : Nat → ClassId}
theorem gl_callX {k t u t1 u1 mc2 ms2 d2 n index : Nat} {dyn : Nat → Nat} {μX μX1 μM : g_M} {y : MethodName} {Y2 : g_Y} {av S : List Value} {v : Int32} (C0 : lw_At p s m meth c sb L xs) (hF0 : gl_F D cA s) (hS : gl_St D cA s k dyn t u μX μM H) (hT : g_MT y Y2 n) (hl1 : Cond.methodLink RL index y ∈ g_T) (hst : Cond.instanceMethod y ∈ g_T ∧ Cond.selects RX11 y y ∈ g_T) (hd : decode code pc = .ok (.invokevirtual index, 3)) (hK : g_K (g_XX D cA s.heap.size (s.heap.size + 82) dyn) y Y2 d2 mc2 ms2 k (.ref 0 :: av) (μX, g_rfX t u) (fun r1 σ1 => r1 = some (.int v) ∧ σ1 = (μX1, g_rfX t1 u1))) (hS1 : S = (av.map (g_tv (g_XX D cA s.heap.size (s.heap.size + 82) dyn).2.2.1)).reverse ++ .ref s.heap.size :: st) (hn : av.length = n) (hd2 : d2 ≤ 2000) (hc : cells + mc2 ≤ 600000 ∧ slots + ms2 ≤ 7302250) (hw : (st.map fun v => v.category).sum ≤ 8)
    (kk : ∀ H1 : Heap, gl_St D cA s (k + mc2) dyn t1 u1 μX1 μM H1 → gl_W p l e s m below meth c sb H1 (cells + mc2) (slots + ms2) (pc + 3) ls (.int v :: st)) : gl_W p l e s m below meth c sb H cells slots pc ls S := by
  obtain ⟨h1, h2, h3, h4⟩ := hS
  have hA : ∀ q : Nat, (g_XX D cA s.heap.size (s.heap.size + 82) dyn).2.2.2.2 q → s.heap.size ≤ q := fun q hq => by
    have hq' : (s.heap.size ≤ q ∧ q < s.heap.size + 63) ∨ s.heap.size + 82 ≤ q := hq
    omega
  refine gl_call (X := g_XX D cA s.heap.size (s.heap.size + 82) dyn) (a := 0) (ci := 11) (N := 13) (Tt := TX11) C0 hF0 (g_J_X (by omega)) hA h4 h1 hT hl1 hst rfl rfl hd hK hS1 hn hd2 hc hw (fun r σ2 H1 hq hP1 hz1 ho1 => ?_)
  obtain ⟨rfl, rfl⟩ := hq
  refine kk H1 ⟨hP1, g_P_kept h2 g_hz_M (fun id sp hs => ?_), by rw [hz1, h3, Nat.add_assoc], by rw [hz1]; exact Nat.le_trans h4.1 (Nat.le_add_right _ _), fun q hq => ?_⟩
  · have hlt := g_shM_lt (show g_shM id = some sp from hs)
    refine ho1 (s.heap.size + 63 + id) (by omega) fun hq => ?_
    have hq' : (s.heap.size ≤ s.heap.size + 63 + id ∧ s.heap.size + 63 + id < s.heap.size + 63) ∨ s.heap.size + 82 ≤ s.heap.size + 63 + id := hq
    omega
  · exact (ho1 q (Nat.lt_of_lt_of_le hq h4.1) fun h => absurd (hA q h) (Nat.not_le.mpr hq)).trans (h4.2 q hq)
theorem gl_callM {k t u d2 n index : Nat} {dyn : Nat → Nat} {μX μM μM1 : g_M} {y : MethodName} {Y2 : g_Y} {av S : List Value} {v : Int32} (C0 : lw_At p s m meth c sb L xs) (hF0 : gl_F D cA s) (hS : gl_St D cA s k dyn t u μX μM H) (hT : g_MT y Y2 n) (hl1 : Cond.methodLink RL index y ∈ g_T) (hst : Cond.instanceMethod y ∈ g_T ∧ Cond.selects RX12 y y ∈ g_T) (hd : decode code pc = .ok (.invokevirtual index, 3)) (hK : g_K (g_XM D cA (s.heap.size + 63)) y Y2 d2 0 0 0 (.ref 0 :: av) (μM, g_rfM) (fun r1 σ1 => r1 = some (.int v) ∧ σ1 = (μM1, g_rfM))) (hS1 : S = (av.map (g_tv (g_XM D cA (s.heap.size + 63)).2.2.1)).reverse ++ .ref (s.heap.size + 63) :: st) (hn : av.length = n) (hd2 : d2 ≤ 2000) (hc : cells ≤ 600000 ∧ slots ≤ 7302250) (hw : (st.map fun v => v.category).sum ≤ 8)
    (kk : ∀ H1 : Heap, gl_St D cA s k dyn t u μX μM1 H1 → gl_W p l e s m below meth c sb H1 cells slots (pc + 3) ls (.int v :: st)) : gl_W p l e s m below meth c sb H cells slots pc ls S := by
  obtain ⟨h1, h2, h3, h4⟩ := hS
  have hA : ∀ q : Nat, (g_XM D cA (s.heap.size + 63)).2.2.2.2 q → s.heap.size ≤ q := fun q hq => by
    have hq' : s.heap.size + 63 ≤ q ∧ q < s.heap.size + 63 + 19 := hq
    omega
  refine gl_call (X := g_XM D cA (s.heap.size + 63)) (a := 0) (ci := 12) (N := 45) (Tt := TX12) C0 hF0 g_J_M hA h4 h2 hT hl1 hst rfl rfl hd hK hS1 hn hd2 hc hw (fun r σ2 H1 hq hP1 hz1 ho1 => ?_)
  obtain ⟨rfl, rfl⟩ := hq
  refine kk H1 ⟨g_P_kept h1 (by rw [hz1]; exact h1.2) (fun id sp hs => ?_), hP1, hz1.trans h3, by rw [hz1]; exact h4.1, fun q hq => ?_⟩
  · have hlt := g_shX_lt (show g_shX dyn k id = some sp from hs)
    have e9 : (g_XX D cA s.heap.size (s.heap.size + 82) dyn).2.2.1 id = (if id < 63 then s.heap.size + id else s.heap.size + 82 + (id - 63)) := rfl
    rw [e9]
    by_cases e : id < 63
    · rw [if_pos e]
      refine ho1 (s.heap.size + id) (by omega) fun hq => ?_
      have hq' : s.heap.size + 63 ≤ s.heap.size + id ∧ s.heap.size + id < s.heap.size + 63 + 19 := hq
      omega
    · rw [if_neg e]
      refine ho1 (s.heap.size + 82 + (id - 63)) (by omega) fun hq => ?_
      have hq' : s.heap.size + 63 ≤ s.heap.size + 82 + (id - 63) ∧ s.heap.size + 82 + (id - 63) < s.heap.size + 63 + 19 := hq
      omega
  · exact (ho1 q (Nat.lt_of_lt_of_le hq h4.1) fun h => absurd (hA q h) (Nat.not_le.mpr hq)).trans (h4.2 q hq)
end GX
