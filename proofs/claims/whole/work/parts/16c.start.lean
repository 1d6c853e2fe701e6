/-! ===== what the law's start gives ===== -/
theorem gl_T {args : Array Value} {s : State} (h : ∀ w ∈ lw_tbl, w.before args s = true) : ∀ w ∈ g_T, w.before args s = true := fun w hw => h w (List.mem_filter.mp hw).1
theorem gl_mk {args : Array Value} {s : State} (h : ∀ w ∈ lw_tbl, w.before args s = true) {ci N : Nat} (hm : g_mk ci N) : ∃ (cC : ClassId) (iS : Nat → Nat), ∀ q : vw_C, g_cl[ci]? = some q → u_Kn s q.1 q.2.1 q.2.2 cC iS := by
  obtain ⟨C, T, hc, w1, w2, hin, hty⟩ := hm
  have hT := gl_T h
  obtain ⟨cC, iS, hk⟩ := u_known (C := C) (T := T) (N := N) (n := N) hT hin (hT _ w1)
  refine ⟨cC, iS, fun q hq => ?_⟩
  rw [hc] at hq
  cases hq
  exact hk
/-- no object is made of class 2: its place in g_cl is held by class 3 -/
theorem gl_mk2 : g_mk 2 0 := by
  obtain ⟨C, T, hc, r⟩ := mk_X3
  exact ⟨C, T, hc, r.1, r.2.1, r.2.2.1, fun k h => absurd h (Nat.not_lt_zero k)⟩
theorem gl_cls {args : Array Value} {s : State} (h : ∀ w ∈ lw_tbl, w.before args s = true) : ∀ ci : Nat, ∃ x : ClassId × (Nat → Nat), ∀ q : vw_C, g_cl[ci]? = some q → u_Kn s q.1 q.2.1 q.2.2 x.1 x.2 := by
  have f : ∀ {ci N : Nat}, g_mk ci N → ∃ x : ClassId × (Nat → Nat), ∀ q : vw_C, g_cl[ci]? = some q → u_Kn s q.1 q.2.1 q.2.2 x.1 x.2 := fun hm => by
    obtain ⟨a, b, c⟩ := gl_mk h hm
    exact ⟨(a, b), c⟩
  intro ci
  match ci with
  | 0 => exact f mk_X0
  | 1 => exact f mk_X1
  | 2 => exact f gl_mk2
  | 3 => exact f mk_X3
  | 4 => exact f mk_X4
  | 5 => exact f mk_X5
  | 6 => exact f mk_X6
  | 7 => exact f mk_X7
  | 8 => exact f mk_X8
  | 9 => exact f mk_X9
  | 10 => exact f mk_X10
  | 11 => exact f mk_X11
  | 12 => exact f mk_X12
  | n + 13 => exact ⟨(0, fun _ => 0), fun q hq => by simp [g_cl] at hq⟩
theorem gl_K {args : Array Value} {s : State} (h : ∀ w ∈ lw_tbl, w.before args s = true) : ∃ (D : va_G) (cA : Nat → ClassId), va_K D g_cl (g_tys cA) s := by
  have w0 := gl_T h _ wm_ia
  have w1 : (Cond.arrayOver (.object "OvenPairs$Oven")).before args s = true := h _ (List.mem_of_getElem? (i := 125) (by decide +kernel))
  have w2 : (Cond.arrayOver (.array .int)).before args s = true := h _ (List.mem_of_getElem? (i := 335) (by decide +kernel))
  obtain ⟨c0, k0, m0, a1, a2, a3⟩ := Cond.arrayClass_spec w0
  obtain ⟨m1, c1, k1, b1, -, b3, b4, b5⟩ := Cond.arrayOver_spec w1
  obtain ⟨m2, c2, k2, d1, -, d3, d4, d5⟩ := arrayOverA_spec w2
  refine ⟨(fun ci => (Classical.choose (gl_cls h ci)).1, fun ci => (Classical.choose (gl_cls h ci)).2), fun i => match i with | 0 => c0 | 1 => c1 | _ => c2, fun ci q hq => Classical.choose_spec (gl_cls h ci) q hq, fun k q hk => ?_⟩
  match k, hk with
  | 0, hk =>
    cases hk
    exact ⟨fun n z => ⟨fun k h => (by cases h), k0, a2, m0, a3⟩, a1⟩
  | 1, hk =>
    cases hk
    exact ⟨fun n z => ⟨fun k h => (by cases h), k1, b3, m1, b4⟩, k1, m1, b3, b4, b1, b5⟩
  | 2, hk =>
    cases hk
    exact ⟨fun n z => ⟨fun k h => (by cases h), k2, d3, m2, d4⟩, d5⟩
  | k + 3, hk => simp [g_tys] at hk
theorem gl_int {args : Array Value} {s : State} (v : Int32) : (Term.int v).eval args s none [] s = some (.int v) := rfl
theorem gl_el : ∀ j : Nat, j < 144 → (Cond.eq (.elem (.field (.string "OvenPairs$RulesReader" 79) "java/lang/String" "value" "[B") (.int (Int32.ofNat j))) (.int (g_by.getD j 0))) ∈ flatC (Jvm.Cond.and given_1 narrow_1) :=
  va_run (p := 22) (by decide +kernel)
theorem gl_ln : ∀ j : Nat, j < 6 → (Cond.eq (.elem (.static "OvenPairs" "LINES" "[I") (.int (Int32.ofNat j))) (.int (g_LN j))) ∈ flatC (Jvm.Cond.and given_1 narrow_1) :=
  va_run (p := 7) (by decide +kernel)
theorem gl_G {args : Array Value} {s : State} (h : ∀ w ∈ lw_tbl, w.before args s = true) (hg : (Jvm.Cond.and given_1 narrow_1).before args s = true) {A : Nat → Prop} (hA : ∀ a : Nat, a < s.heap.size → ¬ A a) : g_G A s := by
  have hs := flat_of_before _ hg
  have l1 : (Cond.laysStatic "OvenPairs" "LINES" "[I").before args s = true := h _ (List.mem_of_getElem? (i := 445) (by decide +kernel))
  have l2 : (Cond.laysStatic "java/lang/String" "COMPACT_STRINGS" "Z").before args s = true := h _ (List.mem_of_getElem? (i := 609) (by decide +kernel))
  have l3 : (Cond.laysStatic "jdk/internal/util/Preconditions" "SIOOBE_FORMATTER" "Ljava/util/function/BiFunction;").before args s = true := h _ (List.mem_of_getElem? (i := 617) (by decide +kernel))
  have i1 : (Cond.initialized "OvenPairs").before args s = true := h _ (by decide +kernel)
  have i2 : (Cond.initialized "java/lang/String").before args s = true := h _ (by decide +kernel)
  have i3 : (Cond.initialized "jdk/internal/util/Preconditions").before args s = true := h _ (by decide +kernel)
  refine ⟨?_, ?_, ?_, ?_, ?_, ?_, ?_⟩
  · obtain ⟨t, ht, hT⟩ := va_Tof (tm := .static "OvenPairs" "LINES" "[I") (ty := .int) (N := 6) (f := fun j => .int (g_LN j)) (by decide) (hs _ (by decide +kernel)) (va_eqv (hs (Cond.eq (.length (.static "OvenPairs" "LINES" "[I")) (.int 6)) (by decide +kernel)) rfl) (fun j hj => va_eqv (hs _ (gl_ln j hj)) rfl) hA
    exact ⟨t, va_Zref l1 i1 ht hA, hT⟩
  · obtain ⟨adK, adV, h1, h2⟩ := vk_Sof (N := 1) (tm := fun _ => .string "OvenPairs$RulesReader" 79) (len := [144]) (byt := [g_by]) (A := A) (s := s) (args := args)
      (fun i hi => by have : i = 0 := by omega
                      subst this
                      decide)
      (fun i hi => hs _ (by decide +kernel)) (fun i hi => hs _ (by decide +kernel)) (fun i hi => hs _ (by decide +kernel))
      (fun i hi => by have : i = 0 := by omega
                      subst this
                      exact hs _ (by decide +kernel))
      (fun i hi j hj => by have : i = 0 := by omega
                           subst this
                           exact hs _ (gl_el j hj))
      (fun i j hi hj hij => absurd (show i = j by omega) hij) hA
    refine ⟨adK, adV, h1, ?_⟩
    refine vk_R.of (A := args) (h _ (List.mem_of_getElem? (i := 599) (by decide +kernel))) ?_
    have h3 := h2 0 (by decide)
    exact h3
  · exact va_Zof l2 i2 (va_eqv (hs (Cond.eq (.static "java/lang/String" "COMPACT_STRINGS" "Z") (.int 1)) (by decide +kernel)) rfl) hA
  · intro w hw
    have hk := g_NW_kind w hw
    have hm : w ∈ lw_tbl := by
      have : ∀ w ∈ g_NW, w ∈ lw_tbl := by decide +kernel
      exact this w hw
    exact va_tabs hk rfl (h w hm)
  · exact va_AO.of (A := args) (h _ (List.mem_of_getElem? (i := 125) (by decide +kernel)))
  · have w2 : (Cond.arrayOver (.array .int)).before args s = true := h _ (List.mem_of_getElem? (i := 335) (by decide +kernel))
    exact w2
  · exact va_Zqof l3 i3 (hs _ (by decide +kernel)) hA
