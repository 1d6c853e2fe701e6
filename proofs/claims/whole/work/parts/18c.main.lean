/-! ===== from the entry to the loop ===== -/
theorem arrV_like {cI : ClassId} {N : Nat} {f g : Nat → Value} (h : ∀ j : Nat, j < N → f j = g j) : arrV cI N f = arrV cI N g := by
  unfold arrV
  congr 1
  exact congrArg _ (funext fun i => h i.1 i.2)
theorem g_at_cv {X X' : g_X} {σ σ' : g_S} {id : Nat} {sp : Nat × Nat × Nat} {H H1 : Heap} (h1 : X'.1 = X.1) (h2 : X'.2.1 = X.2.1) (had : X'.2.2.1 id = X.2.2.1 id) (e1 : σ'.1 id = σ.1 id) (e2 : sp.1 = 0 ∨ ∀ j : Nat, j < sp.2.2 → (σ'.2 id j).map X'.2.2.1 = (σ.2 id j).map X.2.2.1) (ho : H1[X.2.2.1 id]? = H[X.2.2.1 id]?) (h : g_at X σ id sp H) : g_at X' σ' id sp H1 := by
  obtain ⟨t, ci, n⟩ := sp
  match t, h, e2 with
  | 0, h, e2 =>
    show H1[X'.2.2.1 id]? = some (arrV (X'.2.1 0) n (fun j => .int (σ'.1 id j)))
    rw [had, ho, e1, h2]
    exact h
  | 1, h, e2 =>
    have e3 : ∀ j : Nat, j < n → (σ'.2 id j).map X'.2.2.1 = (σ.2 id j).map X.2.2.1 := e2.resolve_left (by show ¬ 1 = 0; decide)
    show H1[X'.2.2.1 id]? = some (arrV (X'.2.1 ci) n (fun j => va_rf ((σ'.2 id j).map X'.2.2.1)))
    rw [had, ho, h2, arrV_like (g := fun j => va_rf ((σ.2 id j).map X.2.2.1)) (fun j hj => by show va_rf _ = va_rf _; rw [e3 j hj])]
    exact h
  | t + 2, h, e2 =>
    have e3 : ∀ j : Nat, j < n → (σ'.2 id j).map X'.2.2.1 = (σ.2 id j).map X.2.2.1 := e2.resolve_left (by show ¬ t + 2 = 0; omega)
    have h9 : t_OB (X.2.2.1 id) (X.1.1 ci) n (X.1.2 ci) H (g_fv X.2.2.1 σ ci id) := h
    show t_OB (X'.2.2.1 id) (X'.1.1 ci) n (X'.1.2 ci) H1 (g_fv X'.2.2.1 σ' ci id)
    rw [had, h1]
    refine (h9.kept ho).to fun j hj => ?_
    unfold g_fv
    rw [e1, e3 j hj]
theorem g_r0X : ∀ id : Nat, id < 63 → ∀ j : Nat, j < 20 → g_r_X11 (fun _ _ => none) id j = g_rfX 18 40 id j := by decide +kernel
theorem g_r0M : ∀ id : Nat, id < 19 → ∀ j : Nat, j < 45 → g_r_X12 (fun _ _ => none) id j = g_rfM id j := by decide +kernel
theorem g_r0L : ∀ id : Nat, id < 63 → ∀ j : Nat, j < 20 → (g_rfX 18 40 id j).all (fun r => decide (r < 63)) = true := by decide +kernel
theorem g_s0X : ∀ id : Nat, id < 63 → (g_shX0 id).all (fun sp => decide (sp.1 = 0 ∨ sp.2.2 ≤ 20)) = true := by decide +kernel
theorem g_s0M : ∀ id : Nat, id < 19 → (g_shM id).all (fun sp => decide (sp.1 = 0 ∨ sp.2.2 ≤ 45)) = true := by decide +kernel
theorem g_begX {D : va_G} {cA : Nat → ClassId} {b b2 : Nat} {dyn : Nat → Nat} {μ : g_M} {H H1 : Heap} (h : g_P (g_XC D cA b g_shX0) 63 (μ, g_r_X11 (fun _ _ => none)) H) (ho : ∀ q : Nat, b ≤ q → q < b + 63 → H1[q]? = H[q]?) (hz : H1.size = b2) : g_P (g_XX D cA b b2 dyn) 0 (μ, g_rfX 18 40) H1 := by
  refine ⟨fun id sp hs => ?_, g_hz_X (by omega)⟩
  have hs' : g_shX dyn 0 id = some sp := hs
  have hlt := g_shX_lt hs'
  have hlt : id < 63 := by omega
  unfold g_shX at hs'
  rw [if_pos hlt] at hs'
  have h9 := h.1 id sp (g_sh_C hlt hs')
  have hsz := g_s0X id hlt
  rw [hs'] at hsz
  have hsz' : sp.1 = 0 ∨ sp.2.2 ≤ 20 := of_decide_eq_true hsz
  refine g_at_cv (X := g_XC D cA b g_shX0) (σ := (μ, g_r_X11 (fun _ _ => none))) rfl rfl ?_ rfl ?_ (ho (b + id) (by omega) (by omega)) h9
  · show (if id < 63 then b + id else b2 + (id - 63)) = b + id
    rw [if_pos hlt]
  · rcases hsz' with e | e
    · exact Or.inl e
    · refine Or.inr fun j hj => ?_
      have hj : j < 20 := by omega
      show (g_rfX 18 40 id j).map (fun a => if a < 63 then b + a else b2 + (a - 63)) = (g_r_X11 (fun _ _ => none) id j).map (fun a => b + a)
      rw [g_r0X id hlt j hj]
      have hr := g_r0L id hlt j hj
      cases hv : g_rfX 18 40 id j with
      | none => rfl
      | some r =>
        rw [hv] at hr
        have hr' : r < 63 := of_decide_eq_true hr
        show some (if r < 63 then b + r else b2 + (r - 63)) = some (b + r)
        rw [if_pos hr']
theorem g_begM {D : va_G} {cA : Nat → ClassId} {b : Nat} {μ : g_M} {H : Heap} (h : g_P (g_XC D cA b g_shM) 19 (μ, g_r_X12 (fun _ _ => none)) H) : g_P (g_XM D cA b) 0 (μ, g_rfM) H := by
  refine ⟨fun id sp hs => ?_, g_hz_M⟩
  have hs' : g_shM id = some sp := hs
  have hlt := g_shM_lt hs'
  have h9 := h.1 id sp (g_sh_C hlt hs')
  have hsz := g_s0M id hlt
  rw [hs'] at hsz
  have hsz' : sp.1 = 0 ∨ sp.2.2 ≤ 45 := of_decide_eq_true hsz
  refine g_at_cv (X := g_XC D cA b g_shM) (σ := (μ, g_r_X12 (fun _ _ => none))) rfl rfl rfl rfl ?_ rfl h9
  rcases hsz' with e | e
  · exact Or.inl e
  · refine Or.inr fun j hj => ?_
    show (g_rfM id j).map (fun a => b + a) = (g_r_X12 (fun _ _ => none) id j).map (fun a => b + a)
    rw [g_r0M id hlt j (by omega)]
theorem g_P_C0 {D : va_G} {cA : Nat → ClassId} {b : Nat} {sh : Nat → Option (Nat × Nat × Nat)} {σ : g_S} {H : Heap} (h : H.size = b) : g_P (g_XC D cA b sh) 0 σ H := by
  refine ⟨fun id sp hs => ?_, fun id sp h1 h2 => ?_⟩
  · have hs' : (if id < 0 then sh id else none) = some sp := hs
    rw [if_neg (Nat.not_lt_zero id)] at hs'
    cases hs'
  · have h2' : (if id < 0 + 1 then sh id else none) = some sp := h2
    show b + id = H.size
    by_cases e : id < 0 + 1
    · omega
    · rw [if_neg e] at h2'
      cases h2'
section GM
variable {p : Program} {l : Launch} {e : Env} {s : State} {m : MethodId} {below : List Frame} {meth : Method} {c : Code} {sb L : Nat} {xs : Nat → Int32} {D : va_G} {cA : Nat → ClassId}
theorem gl_main (C0 : lw_At p s m meth c sb L xs) (hF0 : gl_F D cA s) (hL : L ≤ 2560) : gl_W p l e s m below meth c sb s.heap 0 0 0 (g_en [.ref sb] ++ List.replicate 3 none) [] := by
  have hz0 : ∀ i : Nat, 0 < i → ∀ j : Nat, pp_nil i j = 0 ∧ (fun _ _ => none : g_R) i j = none := fun i _ j => ⟨rfl, rfl⟩
  refine gl_new (X := g_XC D cA s.heap.size g_shX0) (k := 0) (id := 0) (ci := 11) (N := 13) (σ := (pp_nil, fun _ _ => none)) C0 hF0 (g_P_C0 rfl) mk_X11 fr_X11 cl_L_7 (g_nx_C rfl rfl) (fun j => ⟨rfl, rfl⟩) ⟨by decide, by decide⟩ dL_0 (fun H1 hP1 z1 o1 => ?_)
  have hA1 : gl_A s H1 := ⟨by omega, o1⟩
  refine gl_dup C0 dL_3 rfl ?_
  refine gl_ctor (X := g_XC D cA s.heap.size g_shX0) (k := 1) (a := 0) C0 hF0 (g_J_C D cA _ _) (fun q hq => hq) hA1 hP1 mt_X11_init ml_L_9 ci_X11 dL_4 (k_X11_init hz0) rfl (by decide) ⟨by decide, by decide⟩ (Nat.le_of_ble_eq_true rfl) (fun r σ2 H2 hq hP2 z2 o2 => ?_)
  obtain ⟨rfl, rfl⟩ := hq
  have zz2 : H2.size = s.heap.size + 63 := by rw [z2, z1]
  have hA2 : gl_A s H2 := ⟨by omega, fun q hq => (o2 q (by omega) (fun h9 => absurd (show s.heap.size ≤ q from h9) (Nat.not_le.mpr hq))).trans (o1 q hq)⟩
  refine gl_astore_1 C0 rfl dL_7 ?_
  refine gl_new (X := g_XC D cA (s.heap.size + 63) g_shM) (k := 0) (id := 0) (ci := 12) (N := 45) (σ := (pp_nil, fun _ _ => none)) C0 hF0 (g_P_C0 zz2) mk_X12 fr_X12 cl_L_10 (g_nx_C rfl rfl) (fun j => ⟨rfl, rfl⟩) ⟨by decide, by decide⟩ dL_8 (fun H3 hP3 z3 o3 => ?_)
  have hA3 : gl_A s H3 := ⟨by omega, fun q hq => (o3 q (by omega)).trans (hA2.2 q hq)⟩
  refine gl_dup C0 dL_11 rfl ?_
  refine gl_ctor (X := g_XC D cA (s.heap.size + 63) g_shM) (k := 1) (a := 0) C0 hF0 (g_J_C D cA _ _) (fun q hq => Nat.le_trans (Nat.le_add_right _ _) (show s.heap.size + 63 ≤ q from hq)) hA3 hP3 mt_X12_init ml_L_12 ci_X12 dL_12 (k_X12_init hz0) rfl (by decide) ⟨by decide, by decide⟩ (Nat.le_of_ble_eq_true rfl) (fun r σ2 H4 hq hP4 z4 o4 => ?_)
  obtain ⟨rfl, rfl⟩ := hq
  have zz4 : H4.size = s.heap.size + 82 := by rw [z4, z3, zz2]
  have keep : ∀ q : Nat, q < s.heap.size + 63 → H4[q]? = H2[q]? := fun q hq => (o4 q (by omega) (fun h9 => absurd (show s.heap.size + 63 ≤ q from h9) (Nat.not_le.mpr hq))).trans (o3 q (by omega))
  have hA4 : gl_A s H4 := ⟨by omega, fun q hq => (keep q (by omega)).trans (hA2.2 q hq)⟩
  refine gl_astore_2 C0 rfl dL_15 ?_
  refine gl_ic0 C0 dL_16 ?_
  refine gl_istore_3 C0 rfl dL_17 ?_
  have hI : gl_I D cA s 0 (g_m_X11 pp_nil) (g_m_X12 pp_nil) H4 := by
    refine ⟨fun _ => 0, 18, 0, 40, 0, ⟨g_begX hP2 (fun q _ hq => keep q hq) zz4, g_begM hP4, zz4, hA4⟩, rfl, pp_start, ⟨rfl, rfl, rfl, rfl, rfl, rfl, rfl, rfl, rfl⟩, ⟨rfl, rfl, rfl, rfl, rfl, rfl, rfl, rfl, rfl⟩, by decide, by decide⟩
  exact gl_loop C0 hF0 hL L 0 0 (g_m_X11 pp_nil) (g_m_X12 pp_nil) H4 _ _ (by omega) (by omega) (by decide) (by decide) hI
end GM
theorem whole_start {p : Program} {e : Env} {s : State} {m : MethodId} {below : List Frame} {meth : Method} {c : Code} (l : Launch) (hflags : l.flags = flags0) {b L : Nat} {xs : Nat → Int32} (hL : L ≤ 2560) (C0 : lw_At p s m meth c b L xs) : W p l e room_1 s m #[Value.ref b] below meth c s.heap [] 0 0 (lw_Z below #[Value.ref b] s) (entryFrame m ([Value.ref b] : List Value).toArray 4) := by
  obtain ⟨D, cA, hK⟩ := gl_K C0.2.2.2.2.2.1
  have hF0 : gl_F D cA s := ⟨hK, fun A hA => gl_G C0.2.2.2.2.2.1 C0.2.2.2.2.2.2.2.2.2 hA⟩
  have hl := lv_entry (([Value.ref b] : List Value).map (g_tv (fun a => a))) (n := 4) (Nat.le_of_ble_eq_true rfl)
  rw [← g_en_lv (fun a => a) 3] at hl
  rw [lg_entry_eq]
  exact gl_main C0 hF0 hL _ hl
