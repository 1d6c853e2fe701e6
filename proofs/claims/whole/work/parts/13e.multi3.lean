/-- the references of the first n rows are in -/
def ma_r (n id : Nat) (ρ : g_R) : g_R := fun i j => if i = id ∧ j < n then some (id + 1 + j) else ρ i j
theorem ma_P {X : g_X} {K id : Nat} {σ : g_S} {T : State} (hJ : g_J X) (hP : g_P X K σ T.heap) (hn0 : g_nx X K id (1, 2, 4)) (hn : ∀ i : Nat, i < 4 → g_nx X (K + 1 + i) (id + 1 + i) (0, 0, 40)) (hs : ∀ i : Nat, i ≤ 4 → X.2.2.2.1 (K + 1 + i) id = some (1, 2, 4)) (h0 : ∀ i : Nat, i < 5 → ∀ j : Nat, σ.1 (id + i) j = 0 ∧ σ.2 (id + i) j = none) : ∀ n : Nat, n ≤ 4 → g_P X (K + 1 + n) (σ.1, ma_r n id σ.2) (ma_q (X.2.1 2) (X.2.1 0) T n).1.heap := by
  have had : X.2.2.1 id = T.heap.size := hP.2 id _ hn0.1 hn0.2.1
  intro n
  induction n with
  | zero =>
    intro _
    have e9 : ma_r 0 id σ.2 = σ.2 := by
      funext i j
      unfold ma_r
      rw [if_neg (fun q => absurd q.2 (Nat.not_lt_zero j))]
    rw [e9]
    refine g_P_new hP hn0 ?_ (fun q hq => ?_) fun _ => ?_
    · show (T.heap.push _).size = _
      rw [Array.size_push]
    · show (T.heap.push _)[q]? = _
      rw [Array.getElem?_push, if_neg (Nat.ne_of_lt hq)]
    · show (T.heap.push (ma_o (X.2.1 2)))[X.2.2.1 id]? = some (arrV (X.2.1 2) 4 (fun j => va_rf ((σ.2 id j).map X.2.2.1)))
      rw [had, Array.getElem?_push_size]
      unfold ma_o
      rw [arrV_new]
      congr 2
      funext j
      rw [show σ.2 id j = none from (h0 0 (by decide) j).2]
      rfl
  | succ n ih =>
    intro hn4
    have hP1 := ih (by omega)
    obtain ⟨g1, g2, g3, g4, g5, g6, g7⟩ := ma_qp (X.2.1 2) (X.2.1 0) T n (by omega)
    have hx := hn n (by omega)
    have had1 : X.2.2.1 (id + 1 + n) = (ma_q (X.2.1 2) (X.2.1 0) T n).1.heap.size := hP1.2 _ _ hx.1 hx.2.1
    have hP2 : g_P X (K + 1 + n + 1) (σ.1, ma_r n id σ.2) ((ma_q (X.2.1 2) (X.2.1 0) T n).1.heap.push (ma_in (X.2.1 0))) := by
      refine g_P_new hP1 hx (by rw [Array.size_push]) (fun q hq => by rw [Array.getElem?_push, if_neg (Nat.ne_of_lt hq)]) fun _ => ?_
      show ((ma_q (X.2.1 2) (X.2.1 0) T n).1.heap.push (ma_in (X.2.1 0)))[X.2.2.1 (id + 1 + n)]? = some (arrV (X.2.1 0) 40 (fun j => .int (σ.1 (id + 1 + n) j)))
      rw [had1, Array.getElem?_push_size]
      unfold ma_in
      rw [arrV_new]
      congr 2
      funext j
      have := (h0 (1 + n) (by omega) j).1
      rw [← Nat.add_assoc] at this
      rw [this]
    have e9 : (ma_q (X.2.1 2) (X.2.1 0) T (n + 1)).1.heap = ((ma_q (X.2.1 2) (X.2.1 0) T n).1.heap.push (ma_in (X.2.1 0))).setIfInBounds T.heap.size ((ma_q (X.2.1 2) (X.2.1 0) T n).2.setSlot n (.ref (T.heap.size + 1 + n))) := by
      show ((ma_q (X.2.1 2) (X.2.1 0) T n).1.heap.push (ma_in (X.2.1 0))).setIfInBounds T.heap.size ((ma_q (X.2.1 2) (X.2.1 0) T n).2.setSlot n (.ref (ma_q (X.2.1 2) (X.2.1 0) T n).1.heap.size)) = _
      rw [g1]
    have z9 : ((ma_q (X.2.1 2) (X.2.1 0) T n).1.heap.push (ma_in (X.2.1 0))).size = T.heap.size + 1 + n + 1 := by rw [Array.size_push, g1]
    rw [e9]
    refine g_P_put hJ hP2 (Array.size_setIfInBounds ..) (hs (n + 1) hn4) (fun q hq => ?_) (fun j hj => ⟨rfl, ?_⟩) ?_
    · rw [Array.getElem?_setIfInBounds, if_neg (fun q9 => hq (by rw [had]; exact q9.symm))]
    · funext b
      show (if j = id ∧ b < n + 1 then _ else σ.2 j b) = (if j = id ∧ b < n then _ else σ.2 j b)
      rw [if_neg (fun q => hj q.1), if_neg (fun q => hj q.1)]
    · show (Array.setIfInBounds _ _ _)[X.2.2.1 id]? = some (arrV (X.2.1 2) 4 (fun j => va_rf ((ma_r (n + 1) id σ.2 id j).map X.2.2.1)))
      rw [had, Array.getElem?_setIfInBounds, if_pos rfl, if_pos (by omega), g5, arrV_store]
      congr 2
      funext j
      unfold updV
      have hrf : ∀ i : Nat, i ≤ n → X.2.2.1 (id + 1 + i) = T.heap.size + 1 + i := by
        intro i hi
        have hPi : g_hz X (K + 1 + i) (T.heap.size + 1 + i) := by
          have hz : ∀ w : Nat, w ≤ 4 → g_hz X (K + 1 + w) (T.heap.size + 1 + w) := by
            intro w
            induction w with
            | zero => intro _; exact hn0.2.2.2 _ had
            | succ w iw =>
              intro hw
              have h1 := hn w (by omega)
              exact h1.2.2.2 _ (iw (by omega) _ _ h1.1 h1.2.1)
          exact hz i (by omega)
        have h1 := hn i (by omega)
        exact hPi _ _ h1.1 h1.2.1
      by_cases e : j = n
      · subst e
        rw [if_pos rfl]
        show _ = va_rf ((if id = id ∧ j < j + 1 then some (id + 1 + j) else σ.2 id j).map X.2.2.1)
        rw [if_pos ⟨rfl, Nat.lt_succ_self _⟩]
        show _ = Value.ref (X.2.2.1 (id + 1 + j))
        rw [hrf j (Nat.le_refl _)]
      · rw [if_neg e]
        show (if j < n then Value.ref (T.heap.size + 1 + j) else Value.null) = va_rf ((if id = id ∧ j < n + 1 then some (id + 1 + j) else σ.2 id j).map X.2.2.1)
        by_cases e2 : j < n
        · rw [if_pos e2, if_pos ⟨rfl, by omega⟩]
          show _ = Value.ref (X.2.2.1 (id + 1 + j))
          rw [hrf j (by omega)]
        · rw [if_neg e2, if_neg (fun q => by omega), show σ.2 id j = none from (h0 0 (by decide) j).2]
          rfl
theorem ma_cold {e : Env} {d : Bool} {acts : List Action} {s : State} {f : JFrame} {E : CtlPost} {Q : Unit → Pre} {index c : Nat} {vm' : Vm} (hs : s.topJava?.isSome) (hg : (Jvm.resolveClass f.method.cls index).Gives e.toSetting s.vm (.ok c) vm') (hr : vm'.classReady f.method.cls index c)
    (hsz : vm'.classes.size ≤ s.vm.classes.size := by no_record) :
    wp (Jvm.Op.multianewarray.sem index 2) Q E e d acts (s.setTop f) ↔ wp (Jvm.Op.multianewarray.sem index 2) Q E e d acts ((s.setVm vm').setTop f) := by
  simp only [Jvm.Op.multianewarray.sem, wp_bind']
  exact W.resolveClassAt_transfer (s := s.setTop f) (State.method?_setTop f hs) hg hr
section GD
variable {X : g_X} {Y : g_Y} {d mc ms : Nat} {Q : Option Value → g_S → Prop} {k kc ks pc : Nat} {ls : List (Option Value)} {st : List Value} {σ : g_S}
theorem g_multi {index id : Nat} (hL : Cond.classLink Y.2.2.2.1 index "[[I" ∈ g_T) (hn0 : g_nx X (k + kc) id (1, 2, 4)) (hn : ∀ i : Nat, i < 4 → g_nx X (k + kc + 1 + i) (id + 1 + i) (0, 0, 40)) (hs : ∀ i : Nat, i ≤ 4 → X.2.2.2.1 (k + kc + 1 + i) id = some (1, 2, 4)) (h0 : ∀ i : Nat, i < 5 → ∀ j : Nat, σ.1 (id + i) j = 0 ∧ σ.2 (id + i) j = none) (hc : kc + 5 ≤ mc ∧ ks + 164 ≤ ms) (hd : decode Y.1 pc = .ok (.multianewarray index 2, 4)) (h : g_V X Y d mc ms Q k (kc + 5) (ks + 164) (pc + 4) ls (.ref id :: st) (σ.1, ma_r 4 id σ.2)) : g_V X Y d mc ms Q k kc ks pc ls (.int 40 :: .int 4 :: st) σ := by
  intro l p e s m args below meth c H locs lsA hC hP hz hS hl
  have hx := hC.1
  have hb := hC.2.1
  obtain ⟨-, -, -, -, hown, hts, -, -, hK, hJ, hG⟩ := _root_.id hC
  have had : X.2.2.1 id = H.size := hP.2 id _ hn0.1 hn0.2.1
  obtain ⟨comp, cA, kA, hcomp, hidx, hkA, hkindA, hnameA⟩ := arrayOverA_spec (t := .int) (args := #[]) hG.2.2.2.2.2.1
  have hcA : cA = X.2.1 2 := Option.some.inj (hnameA.symm.trans (hK.2 2 _ rfl).2)
  have hcI : comp = X.2.1 0 := Option.some.inj (hcomp.symm.trans (hK.2 0 _ rfl).2)
  subst hcA
  subst hcI
  obtain ⟨-, kI, hkI, cm, hkindI⟩ := (hK.2 0 _ rfl).1 0 (fun _ => .null)
  intro T hT X9
  subst hT
  have hpl : e.platform.magicAccessors = ({} : Platform).magicAccessors := by rw [X9.admits.platform]
  obtain ⟨cc', hfcc, hcl⟩ := Cond.classLink_spec hown (hts _ hL) e.platform hpl
  have hcc : cc' = X.2.1 2 := Option.some.inj (hfcc.symm.trans hnameA)
  subst hcc
  obtain ⟨hg₁, hwarm₁, hready₁⟩ := State.classEntry (e := e) X9.warmed hcl
  generalize T.vm.noted m.cls index (.cls (X.2.1 2)) = vm₁ at hg₁ hwarm₁ hready₁
  have hal : s.vm.Alike vm₁ := hwarm₁.alike
  obtain ⟨kI₁, hkI₁, heI⟩ := hal.2.2 _ _ hkI
  obtain ⟨kA₁, hkA₁, heA⟩ := hal.2.2 _ _ hkA
  have hkindA₁ : kA₁.kind = .array (X.2.1 0) (.array .int) := by rw [heA]; exact hkindA
  have hkindI₁ : kI₁.kind = .array cm .int := by rw [heI]; exact hkindI
  have X₁ := X9.noted hwarm₁
  obtain ⟨L, X₂, hLb⟩ := ma_stand X₁ (X.2.1 2) (X.2.1 0) 4 (Nat.le_refl 4)
  obtain ⟨hr1, hr2⟩ := X9.roomAbove hc.1 hc.2
  have hP2 := ma_P hJ (T := T.setVm vm₁) hP hn0 hn hs h0 4 (Nat.le_refl 4)
  obtain ⟨z1, z2, z3, z4, z5, z6, z7⟩ := ma_qp (X.2.1 2) (X.2.1 0) (T.setVm vm₁) 4 (Nat.le_refl 4)
  have hA : X.2.2.2.2 T.heap.size := by
    rw [← had]
    exact hJ.2 _ _ _ (hs 0 (by decide))
  obtain ⟨t', a1, b1⟩ := h l p e s m args below meth c _ (locs ++ L) lsA hC (by
      have e1 : k + (kc + 5) = k + kc + 1 + 4 := by omega
      rw [e1]
      exact hP2) (by
      rw [z1]
      show T.heap.size + 1 + 4 = _
      rw [hz]
      omega) ⟨by rw [z1]; show _ ≤ T.heap.size + 1 + 4; exact Nat.le_trans hS.1 (by omega), fun q g1 g2 => by
      rw [z6 q (Nat.lt_of_lt_of_le g1 hS.1)]
      exact hS.2.1 q g1 g2, fun q hq => by
      rcases List.mem_append.mp hq with h9 | h9
      · exact hS.2.2 q h9
      · rw [hLb q h9]
        exact hA⟩ hl _ rfl X₂
  refine ⟨t', ?_, b1⟩
  have e9 : (.ref T.heap.size :: st.map (g_tv X.2.2.1)) = ((Value.ref id :: st).map (g_tv X.2.2.1)) := by
    rw [List.map_cons, ← had]
    rfl
  rw [← e9] at a1
  jvm_step X9.here [hx, hb, hd]
  have hpl1 : ¬ 40 > e.platform.arrayLengthLimit := by rw [Launch.admits_arrayLengthLimit X9.admits]; omega
  have hpl2 : ¬ 160 > e.platform.maxHeapBytes := by rw [Launch.admits_maxHeapBytes X9.admits]; omega
  refine (ma_cold (f := F0 m pc lsA _) X9.here.top hg₁ hready₁).mpr ?_
  refine ma_sem (s := T.setVm vm₁) (rest := st.map (g_tv X.2.2.1)) X9.here.top hready₁ hkA₁ hkindA₁ hkI₁ hkindI₁ ?_ ?_ hpl1 hpl2 rfl fun d' acts' => ?_
  · show T.heap.size + 5 ≤ _
    omega
  · show T.slotsUsed + 164 ≤ _
    exact hr2
  · intro acts
    rw [afterInstr_ok]
    exact a1
end GD
