/-! ===== rows that make cells; calls of constructors; arraycopy ===== -/
/-- the world's next cell behind k is id, of shape sp -/
def g_nx (X : g_X) (k id : Nat) (sp : Nat × Nat × Nat) : Prop := X.2.2.2.1 k id = none ∧ X.2.2.2.1 (k + 1) id = some sp ∧ (∀ (j : Nat) (sj : Nat × Nat × Nat), X.2.2.2.1 (k + 1) j = some sj → j = id ∨ X.2.2.2.1 k j = some sj) ∧ ∀ n : Nat, X.2.2.1 id = n → g_hz X (k + 1) (n + 1)
/-- nothing at n and behind -/
def g_zr (σ : g_S) (n : Nat) : Prop := ∀ i : Nat, n ≤ i → ∀ j : Nat, σ.1 i j = 0 ∧ σ.2 i j = none
theorem g_zr_set {σ : g_S} {n a b : Nat} {v : Int32} (h : g_zr σ n) (ha : a < n) : g_zr (g_set σ.1 a b v, σ.2) n := fun i hi j => by
  refine ⟨?_, (h i hi j).2⟩
  show (if i = a ∧ j = b then v else σ.1 i j) = 0
  rw [if_neg (fun q => by omega)]
  exact (h i hi j).1
theorem g_zr_sef {σ : g_S} {n a b : Nat} {v : Option Nat} (h : g_zr σ n) (ha : a < n) : g_zr (σ.1, g_sef σ.2 a b v) n := fun i hi j => by
  refine ⟨(h i hi j).1, ?_⟩
  show (if i = a ∧ j = b then v else σ.2 i j) = none
  rw [if_neg (fun q => by omega)]
  exact (h i hi j).2
theorem g_zr_mono {σ : g_S} {n m : Nat} (h : g_zr σ n) (hm : n ≤ m) : g_zr σ m := fun i hi j => h i (Nat.le_trans hm hi) j
theorem g_at_same {X : g_X} {σ σ' : g_S} {id : Nat} {sp : Nat × Nat × Nat} {H H1 : Heap} (h : g_at X σ id sp H) (e1 : σ'.1 id = σ.1 id) (e2 : σ'.2 id = σ.2 id) (ho : H1[X.2.2.1 id]? = H[X.2.2.1 id]?) : g_at X σ' id sp H1 := by
  obtain ⟨t, ci, n⟩ := sp
  match t, h with
  | 0, h =>
    show H1[X.2.2.1 id]? = _
    rw [ho, e1]
    exact h
  | 1, h =>
    show H1[X.2.2.1 id]? = _
    rw [ho, e2]
    exact h
  | t + 2, h =>
    have h1 : t_OB (X.2.2.1 id) (X.1.1 ci) n (X.1.2 ci) H (g_fv X.2.2.1 σ ci id) := h
    show t_OB (X.2.2.1 id) (X.1.1 ci) n (X.1.2 ci) H1 (g_fv X.2.2.1 σ' ci id)
    have e3 : g_fv X.2.2.1 σ' ci id = g_fv X.2.2.1 σ ci id := by
      funext kk
      simp only [g_fv, e1, e2]
    rw [e3]
    exact h1.kept ho
theorem g_at_lt {X : g_X} {σ : g_S} {id : Nat} {sp : Nat × Nat × Nat} {H : Heap} (h : g_at X σ id sp H) : X.2.2.1 id < H.size := by
  obtain ⟨t, ci, n⟩ := sp
  match t, h with
  | 0, h => exact (Array.getElem?_eq_some_iff.mp h).1
  | 1, h => exact (Array.getElem?_eq_some_iff.mp h).1
  | t + 2, h =>
    obtain ⟨cell, q1, -⟩ := (h : t_OB (X.2.2.1 id) (X.1.1 ci) n (X.1.2 ci) H (g_fv X.2.2.1 σ ci id))
    exact (Array.getElem?_eq_some_iff.mp q1).1
/-- what isn't there may be anything -/
theorem g_P_oth {X : g_X} {k : Nat} {σ σ' : g_S} {H : Heap} (hP : g_P X k σ H) (h : ∀ (id : Nat) (sp : Nat × Nat × Nat), X.2.2.2.1 k id = some sp → σ'.1 id = σ.1 id ∧ σ'.2 id = σ.2 id) : g_P X k σ' H :=
  ⟨fun id sp hs => g_at_same (hP.1 id sp hs) (h id sp hs).1 (h id sp hs).2 rfl, hP.2⟩
/-- a new cell -/
theorem g_P_new {X : g_X} {k id : Nat} {sp : Nat × Nat × Nat} {σ : g_S} {H H1 : Heap} (hP : g_P X k σ H) (hn : g_nx X k id sp) (z1 : H1.size = H.size + 1) (o1 : ∀ q : Nat, q < H.size → H1[q]? = H[q]?) (hid : X.2.2.1 id = H.size → g_at X σ id sp H1) : g_P X (k + 1) σ H1 := by
  obtain ⟨h1, h2, h3, h4⟩ := hn
  have had : X.2.2.1 id = H.size := hP.2 id sp h1 h2
  refine ⟨fun j sj hj => ?_, by rw [z1]; exact h4 _ had⟩
  rcases h3 j sj hj with e | e
  · subst e
    rw [h2] at hj
    cases hj
    exact hid had
  · exact g_at_same (hP.1 j sj e) rfl rfl (o1 _ (g_at_lt (hP.1 j sj e)))
section GA
variable {X : g_X} {Y : g_Y} {d mc ms : Nat} {Q : Option Value → g_S → Prop} {k kc ks pc : Nat} {ls : List (Option Value)} {st : List Value} {σ : g_S}
theorem g_oth {σ' : g_S} (hσ : ∀ (id : Nat) (sp : Nat × Nat × Nat), X.2.2.2.1 (k + kc) id = some sp → σ'.1 id = σ.1 id ∧ σ'.2 id = σ.2 id) (h : g_V X Y d mc ms Q k kc ks pc ls st σ') : g_V X Y d mc ms Q k kc ks pc ls st σ := by
  intro l p e s m args below meth c H locs lsA hC hP hz hS hl
  exact h l p e s m args below meth c H locs lsA hC (g_P_oth hP hσ) hz hS hl
theorem g_S_new {A : Nat → Prop} {H0 H H1 : Heap} {locs : List Loc} (hS : va_S A H0 H locs) (z1 : H1.size = H.size + 1) (o1 : ∀ q : Nat, q < H.size → H1[q]? = H[q]?) : va_S A H0 H1 locs :=
  ⟨Nat.le_trans hS.1 (by omega), fun x h1 h2 => (o1 x (Nat.lt_of_lt_of_le h1 hS.1)).trans (hS.2.1 x h1 h2), hS.2.2⟩
theorem g_null (hd : decode Y.1 pc = .ok (.aconst_null, 1)) (h : g_V X Y d mc ms Q k kc ks (pc + 1) ls (.null :: st) σ) : g_V X Y d mc ms Q k kc ks pc ls st σ := by
  intro l p e s m args below meth c H locs lsA hC hP hz hS hl
  exact lv_null hC.1 hC.2.1 hd (h l p e s m args below meth c H locs lsA hC hP hz hS hl)
/-- what the tables say of making one of class ci -/
def g_mk (ci N : Nat) : Prop := ∃ (C : String) (T : u_T), g_cl[ci]? = some (C, T, N) ∧ Cond.instantiable C N ∈ g_T ∧ Cond.initialized C ∈ g_T ∧ (∀ w ∈ u_ws C T N, w ∈ g_T) ∧ (∀ k, k < N → parseFieldDescriptor (T k).2.2.1 = some (g_ty ci k))
theorem g_fv_zero {ad : Nat → Nat} {σ : g_S} {ci id : Nat} (h : ∀ j : Nat, σ.1 id j = 0 ∧ σ.2 id j = none) (hty : ∀ j : Nat, g_fI ci j = true → defaultValue (g_ty ci j) = .int 0) (hty2 : ∀ j : Nat, ¬ g_fI ci j = true → defaultValue (g_ty ci j) = .null) (j : Nat) : defaultValue (g_ty ci j) = g_fv ad σ ci id j := by
  unfold g_fv
  by_cases e : g_fI ci j = true
  · rw [if_pos e, (h j).1]
    exact hty j e
  · rw [if_neg e, (h j).2]
    exact hty2 j e
theorem g_dv1 (ci j : Nat) (h : g_fI ci j = true) : defaultValue (g_ty ci j) = .int 0 := by
  unfold g_fI at h
  split at h <;> first | (rename_i e; rw [e]; rfl) | cases h
def g_fR (ci N : Nat) : Prop := ∀ j : Nat, j < N → ¬ g_fI ci j = true → defaultValue (g_ty ci j) = .null
theorem g_new {index id ci N : Nat} (hm : g_mk ci N) (hr : g_fR ci N) (hL : ∀ (C : String) (T : u_T), g_cl[ci]? = some (C, T, N) → Cond.classLink Y.2.2.2.1 index C ∈ g_T) (hn : g_nx X (k + kc) id (2, ci, N)) (h0 : ∀ j : Nat, σ.1 id j = 0 ∧ σ.2 id j = none) (hc : kc + 1 ≤ mc ∧ ks + N ≤ ms) (hd : decode Y.1 pc = .ok (.new index, 3)) (h : g_V X Y d mc ms Q k (kc + 1) (ks + N) (pc + 3) ls (.ref id :: st) σ) : g_V X Y d mc ms Q k kc ks pc ls st σ := by
  intro l p e s m args below meth c H locs lsA hC hP hz hS hl
  have hx := hC.1
  have hb := hC.2.1
  obtain ⟨-, -, -, -, hown, hts, -, -, hK, hJ, -⟩ := _root_.id hC
  obtain ⟨C, T, hcl, w1, w2, hin, hty⟩ := hm
  have hKn := hK.1 ci _ hcl
  have had : X.2.2.1 id = H.size := hP.2 id _ hn.1 hn.2.1
  refine W.newcK hx hb hown (hts _ (hL C T hcl)) (hts _ w1) (hts _ w2) rfl hd hc.1 hc.2 hKn.2.1 rfl fun H1 kC hkC e1 z1 o1 => ?_
  have h9 := h l p e s m args below meth c H1 locs lsA hC (g_P_new hP hn z1 o1 fun _ => ?_) (by rw [z1, hz, Nat.add_assoc]) (g_S_new hS z1 o1) hl
  · have e9 : (.ref H.size :: st.map (g_tv X.2.2.1)) = ((Value.ref id :: st).map (g_tv X.2.2.1)) := by
      rw [List.map_cons, ← had]
      rfl
    show W _ _ _ _ _ _ _ _ _ _ _ _ _ _ _ (F0 m (pc + 3) lsA (.ref H.size :: st.map (g_tv X.2.2.1)))
    rw [e9]
    exact h9
  · show t_OB (X.2.2.1 id) (X.1.1 ci) N (X.1.2 ci) H1 (g_fv X.2.2.1 σ ci id)
    rw [had]
    refine (u_born (g_ty ci) hts hin hKn hkC e1 hty).to fun j hj => ?_
    unfold g_fv
    by_cases e : g_fI ci j = true
    · rw [if_pos e, (h0 j).1]
      exact g_dv1 ci j e
    · rw [if_neg e, (h0 j).2]
      exact hr j hj e
theorem wm_ia : Cond.arrayClass .int ∈ g_T := g_T_mem (i := 196) (w := .arrayClass .int) (by decide +kernel) (by decide +kernel)
theorem g_newa {id N : Nat} {n : Int32} (hN : n.toNatClampNeg = N) (h1 : ¬ n < 0) (hb4 : N * 4 ≤ 536870912) (hn : g_nx X (k + kc) id (0, 0, N)) (h0 : ∀ j : Nat, σ.1 id j = 0 ∧ σ.2 id j = none) (hc : kc + 1 ≤ mc ∧ ks + N ≤ ms) (hd : decode Y.1 pc = .ok (.newarray .int, 2)) (h : g_V X Y d mc ms Q k (kc + 1) (ks + N) (pc + 2) ls (.ref id :: st) σ) : g_V X Y d mc ms Q k kc ks pc ls (.int n :: st) σ := by
  intro l p e s m args below meth c H locs lsA hC hP hz hS hl
  have hx := hC.1
  have hb := hC.2.1
  obtain ⟨-, -, -, -, hown, hts, -, -, hK, hJ, -⟩ := _root_.id hC
  have had : X.2.2.1 id = H.size := hP.2 id _ hn.1 hn.2.1
  refine va_newaK (atype := .int) hx hb (hts _ wm_ia) rfl hd rfl h1 hN hb4 hc.1 hc.2 rfl fun H1 cA e1 z1 o1 hAr hNm => ?_
  have hcA : cA = X.2.1 0 := Option.some.inj (hNm.symm.trans (hK.2 0 _ rfl).2)
  subst hcA
  have h9 := h l p e s m args below meth c H1 locs lsA hC (g_P_new hP hn z1 o1 fun _ => ?_) (by rw [z1, hz, Nat.add_assoc]) (g_S_new hS z1 o1) hl
  · have e9 : (.ref H.size :: st.map (g_tv X.2.2.1)) = ((Value.ref id :: st).map (g_tv X.2.2.1)) := by
      rw [List.map_cons, ← had]
      rfl
    show W _ _ _ _ _ _ _ _ _ _ _ _ _ _ _ (F0 m (pc + 2) lsA (.ref H.size :: st.map (g_tv X.2.2.1)))
    rw [e9]
    exact h9
  · show H1[X.2.2.1 id]? = some (arrV (X.2.1 0) N (fun j => .int (σ.1 id j)))
    rw [had, e1]
    congr 2
    funext j
    rw [(h0 j).1]
    rfl
theorem g_anew {index id N : Nat} {n : Int32} (hL : Cond.classLink Y.2.2.2.1 index "OvenPairs$Oven" ∈ g_T) (hN : n.toNatClampNeg = N) (h1 : ¬ n < 0) (hb4 : N * 4 ≤ 536870912) (hn : g_nx X (k + kc) id (1, 1, N)) (h0 : ∀ j : Nat, σ.1 id j = 0 ∧ σ.2 id j = none) (hc : kc + 1 ≤ mc ∧ ks + N ≤ ms) (hd : decode Y.1 pc = .ok (.anewarray index, 3)) (h : g_V X Y d mc ms Q k (kc + 1) (ks + N) (pc + 3) ls (.ref id :: st) σ) : g_V X Y d mc ms Q k kc ks pc ls (.int n :: st) σ := by
  intro l p e s m args below meth c H locs lsA hC hP hz hS hl
  have hx := hC.1
  have hb := hC.2.1
  obtain ⟨-, -, -, -, hown, hts, -, -, hK, hJ, hG⟩ := _root_.id hC
  have had : X.2.2.1 id = H.size := hP.2 id _ hn.1 hn.2.1
  subst hN
  refine W.anew hx hb hown (hts _ hL) (va_AO.use hG.2.2.2.2.1) rfl hd rfl h1 hb4 hc.1 hc.2 fun cA kA comp f1 f2 f3 f4 => ?_
  have hcA : cA = X.2.1 1 := by
    obtain ⟨kA', comp', -, -, -, g4⟩ := (hK.2 1 _ rfl).2
    exact Option.some.inj (f1.symm.trans g4)
  subst hcA
  generalize hH1 : H.push ({ cls := X.2.1 1, slots := Array.replicate n.toNatClampNeg .null, vm := .none } : Cell) = H1
  have z1 : H1.size = H.size + 1 := by rw [← hH1, Array.size_push]
  have e1 : H1[H.size]? = some (arrV (X.2.1 1) n.toNatClampNeg (fun _ => .null)) := by rw [← hH1, Array.getElem?_push_size, ← arrV_new]
  have o1 : ∀ q : Nat, q < H.size → H1[q]? = H[q]? := fun q hq => by rw [← hH1, Array.getElem?_push, if_neg (Nat.ne_of_lt hq)]
  have h9 := h l p e s m args below meth c H1 locs lsA hC (g_P_new hP hn z1 o1 fun _ => ?_) (by rw [z1, hz, Nat.add_assoc]) (g_S_new hS z1 o1) hl
  · have e9 : (.ref H.size :: st.map (g_tv X.2.2.1)) = ((Value.ref id :: st).map (g_tv X.2.2.1)) := by
      rw [List.map_cons, ← had]
      rfl
    show W _ _ _ _ _ _ _ _ _ _ _ _ _ _ _ (F0 m (pc + 3) lsA (.ref H.size :: st.map (g_tv X.2.2.1)))
    rw [e9]
    exact h9
  · show H1[X.2.2.1 id]? = some (arrV (X.2.1 1) n.toNatClampNeg (fun j => va_rf ((σ.2 id j).map X.2.2.1)))
    rw [had, e1]
    congr 2
    funext j
    rw [(h0 j).2]
    rfl
end GA
