/-! ===== int[4][40] ===== -/
section MA
variable {e : Env} {d : Bool} {acts : List Action} {s : State} {E : CtlPost}
/-- a row of 40 -/
def ma_in (cI : ClassId) : Cell := { cls := cI, slots := Array.replicate 40 (.int 0), vm := .none }
/-- the whole, of four rows not yet made -/
def ma_o (cA : ClassId) : Cell := { cls := cA, slots := Array.replicate 4 .null, vm := .none }
theorem ma_row {Q : Addr → Pre} {cI comp : ClassId} {kI : Class} (hk : s.vm.classes[cI]? = some kI) (hkind : kI.kind = .array comp .int) (h1 : s.heap.size < e.platform.maxCells) (h2 : s.slotsUsed + 40 ≤ e.platform.maxSlots) (hL : ¬ 40 > e.platform.arrayLengthLimit) (hh : ¬ 160 > e.platform.maxHeapBytes)
    (hq : Q s.heap.size d acts (s.pushCell (ma_in cI))) : wp (Jvm.Op.multianewarray.make cI [40]) Q E e d acts s := by
  have e4 : (40 : Int32).toNatClampNeg = 40 := rfl
  have hn : ¬ (40 : Int32) < 0 := by decide
  have hdef : allocActs (Array.replicate 40 (Value.int 0)) s.heap.size acts = acts := by
    have hall : ((Array.replicate 40 (Value.int 0)).all (·.isDefault)) = true := by
      rw [Array.all_replicate]; simp [Value.isDefault]
    unfold allocActs
    rw [if_pos hall]
  have hfit : ∀ i v, (Array.replicate 40 (Value.int 0))[i]? = some v → s.fitsSlot cI .none i v = true := by
    intro i v hv
    simp only [Array.getElem?_replicate] at hv
    split at hv
    · cases hv
      simp [State.fitsSlot, State.slotType?, hk, hkind, fits]
    · cases hv
  simp only [Jvm.Op.multianewarray.make, wp_bind', W.ite, hn, if_false, wp_pure', W.theClass, hk, Option.some.injEq, exists_eq_left', hkind, Jvm.newArray, Jvm.arrayFits, W.ask, W.alloc, e4, hL, W.stop, defaultValue, hdef, Array.size_replicate]
  rw [if_neg (show ¬ 40 * componentBytes FieldType.int > e.platform.maxHeapBytes from hh), if_neg (show ¬ 40 > e.platform.maxSlots by omega)]
  exact ⟨h1, h2, hfit, hq⟩
/-- one round: a row made, and put in -/
def ma_t (cI : ClassId) (o i : Nat) (c : Cell) (s : State) : State := (s.pushCell (ma_in cI)).setCell o (c.setSlot i (.ref s.heap.size))
theorem ma_step {α : Type} {cI comp : ClassId} {kI : Class} (hk : s.vm.classes[cI]? = some kI) (hkind : kI.kind = .array comp .int) (h1 : s.heap.size < e.platform.maxCells) (h2 : s.slotsUsed + 40 ≤ e.platform.maxSlots) (hL : ¬ 40 > e.platform.arrayLengthLimit) (hh : ¬ 160 > e.platform.maxHeapBytes) {o i : Nat} {c : Cell} {cX : ClassId} {kA : Class} (ho : s.heap[o]? = some c) (hc : c.vm = .none) (hi : i < c.slots.size) (hkA : s.vm.classes[c.cls]? = some kA) (hkindA : kA.kind = .array cX (.array .int)) {rest : Sem α} {Q2 : α → Pre}
    (hq : ∀ acts', wp rest Q2 E e true acts' (ma_t cI o i c s)) : wp (Jvm.Op.multianewarray.make cI [40] >>= fun r => Jvm.writeLoc o i (.ref r) >>= fun _ => rest) Q2 E e d acts s := by
  rw [wp_bind']
  refine ma_row hk hkind h1 h2 hL hh ?_
  rw [wp_bind', W.writeLoc]
  have hkn : c.vm ≠ .unknown := by
    rw [hc]
    exact fun h => nomatch h
  refine ⟨c, ?_, hkn, hi, ?_, hq _⟩
  · show (s.heap.push (ma_in cI))[o]? = some c
    rw [Array.getElem?_push, if_neg (Nat.ne_of_lt (Array.getElem?_eq_some_iff.mp ho).1)]
    exact ho
  · have hkA' : (s.pushCell (ma_in cI)).vm.classes[c.cls]? = some kA := hkA
    simp [State.fitsSlot, State.slotType?, hc, hkA, hkA', hkindA, fits]
/-- after n rounds: the machine, and the whole's cell -/
def ma_q (cA cI : ClassId) (s : State) : Nat → State × Cell
  | 0 => (s.pushCell (ma_o cA), ma_o cA)
  | i + 1 => (ma_t cI s.heap.size i (ma_q cA cI s i).2 (ma_q cA cI s i).1, (ma_q cA cI s i).2.setSlot i (.ref (s.heap.size + 1 + i)))
theorem ma_qp (cA cI : ClassId) (s : State) : ∀ n : Nat, n ≤ 4 → (ma_q cA cI s n).1.heap.size = s.heap.size + 1 + n ∧ (ma_q cA cI s n).1.slotsUsed = s.slotsUsed + 4 + 40 * n ∧ (ma_q cA cI s n).1.vm = s.vm ∧ (ma_q cA cI s n).1.heap[s.heap.size]? = some (ma_q cA cI s n).2 ∧ (ma_q cA cI s n).2 = arrV cA 4 (fun j => if j < n then .ref (s.heap.size + 1 + j) else .null) ∧ (∀ q : Nat, q < s.heap.size → (ma_q cA cI s n).1.heap[q]? = s.heap[q]?) ∧ ∀ i : Nat, i < n → (ma_q cA cI s n).1.heap[s.heap.size + 1 + i]? = some (ma_in cI) := by
  intro n
  induction n with
  | zero =>
    intro _
    refine ⟨?_, ?_, rfl, ?_, ?_, fun q hq => ?_, fun i h => absurd h (Nat.not_lt_zero i)⟩
    · show (s.heap.push _).size = _
      rw [Array.size_push]
    · show s.slotsUsed + (Array.replicate 4 Value.null).size = _
      rw [Array.size_replicate]
    · show (s.heap.push _)[s.heap.size]? = _
      rw [Array.getElem?_push_size]
      rfl
    · show ma_o cA = _
      unfold ma_o
      rw [arrV_new]
      congr 1
    · show (s.heap.push _)[q]? = _
      rw [Array.getElem?_push, if_neg (Nat.ne_of_lt hq)]
  | succ n ih =>
    intro hn
    obtain ⟨h1, h2, h3, h4, h5, h6, h7⟩ := ih (by omega)
    have e9 : (ma_q cA cI s (n + 1)).1.heap = ((ma_q cA cI s n).1.heap.push (ma_in cI)).setIfInBounds s.heap.size ((ma_q cA cI s n).2.setSlot n (.ref (s.heap.size + 1 + n))) := by
      show ((ma_q cA cI s n).1.heap.push (ma_in cI)).setIfInBounds s.heap.size ((ma_q cA cI s n).2.setSlot n (.ref (ma_q cA cI s n).1.heap.size)) = _
      rw [h1]
    have z9 : ((ma_q cA cI s n).1.heap.push (ma_in cI)).size = s.heap.size + 1 + n + 1 := by rw [Array.size_push, h1]
    refine ⟨?_, ?_, h3, ?_, ?_, fun q hq => ?_, fun i hi => ?_⟩
    · rw [e9, Array.size_setIfInBounds, z9, Nat.add_assoc]
    · show (ma_q cA cI s n).1.slotsUsed + (Array.replicate 40 (Value.int 0)).size = _
      rw [Array.size_replicate, h2]
      omega
    · rw [e9, Array.getElem?_setIfInBounds, if_pos rfl, if_pos (by omega)]
      rfl
    · show (ma_q cA cI s n).2.setSlot n _ = _
      rw [h5, arrV_store]
      congr 1
      funext j
      unfold updV
      by_cases e : j = n
      · subst e
        rw [if_pos rfl, if_pos (Nat.lt_succ_self _)]
      · rw [if_neg e]
        show (if j < n then Value.ref (s.heap.size + 1 + j) else Value.null) = _
        by_cases e2 : j < n
        · rw [if_pos e2, if_pos (by omega)]
        · rw [if_neg e2, if_neg (by omega)]
    · rw [e9, Array.getElem?_setIfInBounds, if_neg (by omega), Array.getElem?_push, if_neg (by omega)]
      exact h6 q hq
    · rw [e9, Array.getElem?_setIfInBounds, if_neg (by omega), Array.getElem?_push]
      by_cases e : i = n
      · subst e
        rw [if_pos h1.symm]
      · rw [if_neg (by omega)]
        exact h7 i (by omega)
theorem ma_go {cA cI comp : ClassId} {kA kI : Class} (hkA : s.vm.classes[cA]? = some kA) (hkindA : kA.kind = .array cI (.array .int)) (hk : s.vm.classes[cI]? = some kI) (hkind : kI.kind = .array comp .int) (h1 : s.heap.size + 5 ≤ e.platform.maxCells) (h2 : s.slotsUsed + 164 ≤ e.platform.maxSlots) (hL : ¬ 40 > e.platform.arrayLengthLimit) (hh : ¬ 160 > e.platform.maxHeapBytes) {f : Nat → PUnit → Sem (ForInStep PUnit)} (hf : ∀ i u, f i u = (Jvm.Op.multianewarray.make cI [40] >>= fun r => Jvm.writeLoc s.heap.size i (.ref r) >>= fun _ => Pure.pure (ForInStep.yield PUnit.unit))) {Q2 : PUnit → Pre}
    (hq : ∀ d' acts', Q2 PUnit.unit d' acts' (ma_q cA cI s 4).1) : ∀ (m i : Nat) (d : Bool) (acts : List Action), i + m = 4 → wp (forIn (List.range' i m) PUnit.unit f) Q2 E e d acts (ma_q cA cI s i).1 := by
  intro m
  induction m with
  | zero =>
    intro i d acts hi
    have : i = 4 := by omega
    subst this
    simp only [List.range'_zero, List.forIn_nil, wp_pure']
    exact hq d acts
  | succ m ih =>
    intro i d acts hi
    obtain ⟨g1, g2, g3, g4, g5, g6, g7⟩ := ma_qp cA cI s i (by omega)
    have hcls : (ma_q cA cI s i).2.cls = cA := by rw [g5]; rfl
    have hvm : (ma_q cA cI s i).2.vm = .none := by rw [g5]; rfl
    have hsz : (ma_q cA cI s i).2.slots.size = 4 := by rw [g5, arrV_size]
    rw [List.range'_succ, List.forIn_cons, wp_bind', hf]
    refine ma_step (c := (ma_q cA cI s i).2) (by rw [g3]; exact hk) hkind (by rw [g1]; omega) (by rw [g2]; omega) hL hh g4 hvm (by rw [hsz]; omega) (by rw [g3, hcls]; exact hkA) hkindA fun acts' => ?_
    rw [wp_pure']
    have h9 := ih (i + 1) true acts' (by omega)
    exact h9
theorem ma_make {Q : Addr → Pre} {cA cI comp : ClassId} {kA kI : Class} (hkA : s.vm.classes[cA]? = some kA) (hkindA : kA.kind = .array cI (.array .int)) (hk : s.vm.classes[cI]? = some kI) (hkind : kI.kind = .array comp .int) (h1 : s.heap.size + 5 ≤ e.platform.maxCells) (h2 : s.slotsUsed + 164 ≤ e.platform.maxSlots) (hL : ¬ 40 > e.platform.arrayLengthLimit) (hh : ¬ 160 > e.platform.maxHeapBytes)
    (hq : ∀ d' acts', Q s.heap.size d' acts' (ma_q cA cI s 4).1) : wp (Jvm.Op.multianewarray.make cA [4, 40]) Q E e d acts s := by
  have e4 : (4 : Int32).toNatClampNeg = 4 := rfl
  have hn : ¬ (4 : Int32) < 0 := by decide
  have hdef : allocActs (Array.replicate 4 Value.null) s.heap.size acts = acts := by
    have hall : ((Array.replicate 4 Value.null).all (·.isDefault)) = true := by
      rw [Array.all_replicate]; simp [Value.isDefault]
    unfold allocActs
    rw [if_pos hall]
  have hfit : ∀ i v, (Array.replicate 4 Value.null)[i]? = some v → s.fitsSlot cA .none i v = true := by
    intro i v hv
    simp only [Array.getElem?_replicate] at hv
    split at hv
    · cases hv
      simp [State.fitsSlot, State.slotType?, hkA, hkindA, fits]
    · cases hv
  have hz : ((4 : Int32) == 0) = false := by decide
  have hL4 : ¬ 4 > e.platform.arrayLengthLimit := by omega
  rw [Jvm.Op.multianewarray.make]
  simp only [wp_bind', W.ite, hn, if_false, wp_pure', W.theClass, hkA, Option.some.injEq, exists_eq_left', hkindA, Jvm.newArray, Jvm.arrayFits, W.ask, W.alloc, e4, hL4, W.stop, hdef, Array.size_replicate, hz]
  rw [if_neg (show ¬ 4 * componentBytes (FieldType.array .int) > e.platform.maxHeapBytes by show ¬ 16 > _; omega), if_neg (show ¬ 4 > e.platform.maxSlots by omega)]
  refine ⟨by omega, by omega, hfit, ?_⟩
  rw [if_neg (by decide)]
  simp only [wp_bind', wp_pure', Std.Legacy.Range.forIn_eq_forIn_range']
  exact ma_go hkA hkindA hk hkind h1 h2 hL hh (fun i u => rfl) (fun d' acts' => hq d' acts') 4 0 d acts rfl
end MA
