/-! ===== int[4][40]: the row ===== -/
section MB
variable {e : Env} {d : Bool} {acts : List Action} {s : State} {f : JFrame} {E : CtlPost} {Q : Unit → Pre}
theorem ma_top {cA cI : ClassId} {s : State} {f : JFrame} : ∀ n : Nat, (ma_q cA cI (s.setTop f) n).1 = (ma_q cA cI s n).1.setTop f ∧ (ma_q cA cI (s.setTop f) n).2 = (ma_q cA cI s n).2 := by
  intro n
  induction n with
  | zero => exact ⟨rfl, rfl⟩
  | succ n ih =>
    refine ⟨?_, ?_⟩
    · show ma_t cI (s.setTop f).heap.size n (ma_q cA cI (s.setTop f) n).2 (ma_q cA cI (s.setTop f) n).1 = (ma_t cI s.heap.size n (ma_q cA cI s n).2 (ma_q cA cI s n).1).setTop f
      rw [ih.1, ih.2]
      rfl
    · show (ma_q cA cI (s.setTop f) n).2.setSlot n _ = (ma_q cA cI s n).2.setSlot n _
      rw [ih.2]
      rfl
theorem ma_topJ {cA cI : ClassId} {s : State} (h : s.topJava?.isSome) : ∀ n : Nat, (ma_q cA cI s n).1.topJava?.isSome := by
  intro n
  induction n with
  | zero => exact h
  | succ n ih => exact ih
theorem ma_sem {index : Nat} {cA cI comp : ClassId} {kA kI : Class} {rest : List Value} (hs : s.topJava?.isSome) (hr : s.vm.classReady f.method.cls index cA) (hkA : s.vm.classes[cA]? = some kA) (hkindA : kA.kind = .array cI (.array .int)) (hk : s.vm.classes[cI]? = some kI) (hkind : kI.kind = .array comp .int) (h1 : s.heap.size + 5 ≤ e.platform.maxCells) (h2 : s.slotsUsed + 164 ≤ e.platform.maxSlots) (hL : ¬ 40 > e.platform.arrayLengthLimit) (hh : ¬ 160 > e.platform.maxHeapBytes) (hstack : f.stack = .int 40 :: .int 4 :: rest)
    (hq : ∀ d' acts', Q () d' acts' ((ma_q cA cI s 4).1.setTop { f with stack := .ref s.heap.size :: rest })) : wp (Jvm.Op.multianewarray.sem index 2) Q E e d acts (s.setTop f) := by
  simp only [Jvm.Op.multianewarray.sem, Jvm.popN, wp_bind', W.resolveClassAt_ready (State.method?_setTop f hs) hr, wp_pure', W.pop, State.topJava?_setTop' _ hs, Option.some.injEq, exists_eq_left', hstack, List.cons.injEq, exists_cons_eq, State.setTop_setTop, List.nil_append, List.singleton_append, List.cons_append, List.mapM_cons, List.mapM_nil]
  refine ma_make hkA hkindA hk hkind h1 h2 hL hh fun d' acts' => ?_
  rw [(ma_top 4).1]
  simp only [wp_bind', W.mark, W.pushRef, State.topJava?_setTop' _ (ma_topJ hs 4), Option.some.injEq, exists_eq_left', State.setTop_setTop]
  exact hq _ _
end MB
section MC
variable {p : Program} {l : Launch} {e : Env} {R : Room} {s : State} {m : MethodId} {args : Array Value} {below : List Frame} {meth : Method} {c : Code} {cells slots : Nat}
theorem ma_stand {T : State} {locs : List Loc} (X : Stand p l e R s m args below meth c T locs cells slots) (cA cI : ClassId) : ∀ n : Nat, n ≤ 4 → ∃ L : List Loc, Stand p l e R s m args below meth c (ma_q cA cI T n).1 (locs ++ L) (cells + 1 + n) (slots + 4 + 40 * n) ∧ ∀ q ∈ L, q.base = T.heap.size := by
  intro n
  induction n with
  | zero =>
    intro _
    have h := X.pushed (ma_o cA)
    refine ⟨[], ?_, fun q hq => absurd hq List.not_mem_nil⟩
    rw [List.append_nil]
    have e9 : (ma_o cA).slots.size = 4 := by unfold ma_o; rw [Array.size_replicate]
    rw [e9] at h
    exact h
  | succ n ih =>
    intro hn
    obtain ⟨L, h, hL⟩ := ih (by omega)
    obtain ⟨g1, g2, g3, g4, g5, g6, g7⟩ := ma_qp cA cI T n (by omega)
    have h2 := h.pushed (ma_in cI)
    have e9 : (ma_in cI).slots.size = 40 := by unfold ma_in; rw [Array.size_replicate]
    rw [e9] at h2
    have hc : ((ma_q cA cI T n).1.pushCell (ma_in cI)).heap[T.heap.size]? = some (ma_q cA cI T n).2 := by
      show ((ma_q cA cI T n).1.heap.push (ma_in cI))[T.heap.size]? = _
      rw [Array.getElem?_push, if_neg (by omega)]
      exact g4
    have h3 := h2.stored hc n (.ref (ma_q cA cI T n).1.heap.size)
    refine ⟨L ++ [⟨T.heap.size, n⟩], ?_, fun q hq => ?_⟩
    · rw [← List.append_assoc]
      have e1 : cells + 1 + (n + 1) = cells + 1 + n + 1 := by omega
      have e2 : slots + 4 + 40 * (n + 1) = slots + 4 + 40 * n + 40 := by omega
      rw [e1, e2]
      exact h3
    · rcases List.mem_append.mp hq with h9 | h9
      · exact hL q h9
      · simp only [List.mem_singleton] at h9
        rw [h9]
end MC
