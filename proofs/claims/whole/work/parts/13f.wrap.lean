section GF
variable {X : g_X} {Y : g_Y} {d mc ms : Nat} {Q : Option Value → g_S → Prop} {k kc ks pc : Nat} {ls : List (Option Value)} {st : List Value} {μ : g_M} {ρ : g_R}
theorem m_putF {a index ci kf N r : Nat} (hin2 : Y.2.2.2.2 = "<init>") (hf : g_FL Y.2.2.2.1 index ci kf N) (hw : g_FF Y.2.2.2.1 ci kf) (hi : g_fI ci kf = false) (hn : narrow (g_ty ci kf) (.ref (X.2.2.1 r)) = .ref (X.2.2.1 r)) (hfit : fits (g_ty ci kf) (.ref (X.2.2.1 r)) = true) (hs : X.2.2.2.1 (k + kc) a = some (2, ci, N)) (hd : decode Y.1 pc = .ok (.putfield index, 3)) (h : g_V X Y d mc ms Q k kc ks (pc + 3) ls st (μ, g_sef ρ a kf (some r))) : g_V X Y d mc ms Q k kc ks pc ls (.ref r :: .ref a :: st) (μ, ρ) := g_putF hin2 hf hw hi hn hfit hs hd h
theorem m_putR {a index ci kf N r : Nat} (hf : g_FL Y.2.2.2.1 index ci kf N) (hw : g_FW ci kf) (hi : g_fI ci kf = false) (hn : narrow (g_ty ci kf) (.ref (X.2.2.1 r)) = .ref (X.2.2.1 r)) (hfit : fits (g_ty ci kf) (.ref (X.2.2.1 r)) = true) (hs : X.2.2.2.1 (k + kc) a = some (2, ci, N)) (hd : decode Y.1 pc = .ok (.putfield index, 3)) (h : g_V X Y d mc ms Q k kc ks (pc + 3) ls st (μ, g_sef ρ a kf (some r))) : g_V X Y d mc ms Q k kc ks pc ls (.ref r :: .ref a :: st) (μ, ρ) := g_putR hf hw hi hn hfit hs hd h
theorem m_putI' {a index ci kf N : Nat} {x : Int32} (hf : g_FL Y.2.2.2.1 index ci kf N) (hw : g_FW ci kf) (hi : g_fI ci kf = true) (hn : narrow (g_ty ci kf) (.int x) = .int x) (hfit : fits (g_ty ci kf) (.int x) = true) (hs : X.2.2.2.1 (k + kc) a = some (2, ci, N)) (hd : decode Y.1 pc = .ok (.putfield index, 3)) (h : g_V X Y d mc ms Q k kc ks (pc + 3) ls st (g_set μ a kf x, ρ)) : g_V X Y d mc ms Q k kc ks pc ls (.int x :: .ref a :: st) (μ, ρ) := g_putI hf hw hi hn hfit hs hd h
theorem m_aast {a r n ci N j : Nat} {i : Int32} (ho : g_ov ci N) (hs : X.2.2.2.1 (k + kc) a = some (1, 1, n)) (hr : X.2.2.2.1 (k + kc) r = some (2, ci, N)) (hj : i.toNatClampNeg = j) (h0 : ¬ i < 0) (hlt : j < n) (hd : decode Y.1 pc = .ok (.aastore, 1)) (h : g_V X Y d mc ms Q k kc ks (pc + 1) ls st (μ, g_sef ρ a j (some r))) : g_V X Y d mc ms Q k kc ks pc ls (.ref r :: .int i :: .ref a :: st) (μ, ρ) := g_aast ho hs hr hj h0 hlt hd h
theorem m_copy {index a0 a n0 n1 N : Nat} {n : Int32} (hl1 : Cond.methodLink Y.2.2.2.1 index arraycopyName ∈ g_T) (hs0 : X.2.2.2.1 (k + kc) a0 = some (0, 0, n0)) (hs1 : X.2.2.2.1 (k + kc) a = some (0, 0, n1)) (hN : n.toNatClampNeg = N) (h3 : ¬ n < 0) (h4 : N ≤ n0) (h5 : N ≤ n1) (hw : (st.map fun v => v.category).sum + (nativeFrameWords "java/lang/System" "arraycopy" 5 + 11) ≤ 40 * d) (hd1 : 0 < d) (hd : decode Y.1 pc = .ok (.invokestatic index, 3)) (h : g_V X Y d mc ms Q k kc ks (pc + 3) ls st (pp_cpy μ a0 a N, ρ)) : g_V X Y d mc ms Q k kc ks pc ls (.int n :: .int 0 :: .ref a :: .int 0 :: .ref a0 :: st) (μ, ρ) := g_copy hl1 hs0 hs1 hN h3 h4 h5 hw hd1 hd h
theorem m_multi {index id : Nat} (hL : Cond.classLink Y.2.2.2.1 index "[[I" ∈ g_T) (hn0 : g_nx X (k + kc) id (1, 2, 4)) (hn : ∀ i : Nat, i < 4 → g_nx X (k + kc + 1 + i) (id + 1 + i) (0, 0, 40)) (hs : ∀ i : Nat, i ≤ 4 → X.2.2.2.1 (k + kc + 1 + i) id = some (1, 2, 4)) (h0 : ∀ i : Nat, i < 5 → ∀ j : Nat, μ (id + i) j = 0 ∧ ρ (id + i) j = none) (hc : kc + 5 ≤ mc ∧ ks + 164 ≤ ms) (hd : decode Y.1 pc = .ok (.multianewarray index 2, 4)) (h : g_V X Y d mc ms Q k (kc + 5) (ks + 164) (pc + 4) ls (.ref id :: st) (μ, ma_r 4 id ρ)) : g_V X Y d mc ms Q k kc ks pc ls (.int 40 :: .int 4 :: st) (μ, ρ) := g_multi hL hn0 hn hs h0 hc hd h
theorem m_new {index id ci N : Nat} (hm : g_mk ci N) (hr : g_fR ci N) (hL : ∀ (C : String) (T : u_T), g_cl[ci]? = some (C, T, N) → Cond.classLink Y.2.2.2.1 index C ∈ g_T) (hn : g_nx X (k + kc) id (2, ci, N)) (h0 : ∀ j : Nat, μ id j = 0 ∧ ρ id j = none) (hc : kc + 1 ≤ mc ∧ ks + N ≤ ms) (hd : decode Y.1 pc = .ok (.new index, 3)) (h : g_V X Y d mc ms Q k (kc + 1) (ks + N) (pc + 3) ls (.ref id :: st) (μ, ρ)) : g_V X Y d mc ms Q k kc ks pc ls st (μ, ρ) := g_new hm hr hL hn h0 hc hd h
theorem m_newa {id N : Nat} {n : Int32} (hN : n.toNatClampNeg = N) (h1 : ¬ n < 0) (hb4 : N * 4 ≤ 536870912) (hn : g_nx X (k + kc) id (0, 0, N)) (h0 : ∀ j : Nat, μ id j = 0 ∧ ρ id j = none) (hc : kc + 1 ≤ mc ∧ ks + N ≤ ms) (hd : decode Y.1 pc = .ok (.newarray .int, 2)) (h : g_V X Y d mc ms Q k (kc + 1) (ks + N) (pc + 2) ls (.ref id :: st) (μ, ρ)) : g_V X Y d mc ms Q k kc ks pc ls (.int n :: st) (μ, ρ) := g_newa hN h1 hb4 hn h0 hc hd h
theorem m_anew {index id N : Nat} {n : Int32} (hL : Cond.classLink Y.2.2.2.1 index "OvenPairs$Oven" ∈ g_T) (hN : n.toNatClampNeg = N) (h1 : ¬ n < 0) (hb4 : N * 4 ≤ 536870912) (hn : g_nx X (k + kc) id (1, 1, N)) (h0 : ∀ j : Nat, μ id j = 0 ∧ ρ id j = none) (hc : kc + 1 ≤ mc ∧ ks + N ≤ ms) (hd : decode Y.1 pc = .ok (.anewarray index, 3)) (h : g_V X Y d mc ms Q k (kc + 1) (ks + N) (pc + 3) ls (.ref id :: st) (μ, ρ)) : g_V X Y d mc ms Q k kc ks pc ls (.int n :: st) (μ, ρ) := g_anew hL hN h1 hb4 hn h0 hc hd h
/-- what a constructor says -/
def g_Qn (μ : g_M) (ρ : g_R) : Option Value → g_S → Prop := fun r σ => r = none ∧ σ = (μ, ρ)
theorem m_ctor {index n a d2 mc2 ms2 : Nat} {μ1 : g_M} {ρ1 : g_R} {y : MethodName} {Y2 : g_Y} {av S : List Value} (hT : g_MT y Y2 n) (hl1 : Cond.methodLink Y.2.2.2.1 index y ∈ g_T) (hst : y.name = "<init>" ∧ Cond.instanceMethod y ∈ g_T ∧ Y2.2.2.1 = none) (hd : decode Y.1 pc = .ok (.invokespecial index, 3)) (hK : g_K X y Y2 d2 mc2 ms2 (k + kc) (.ref a :: av) (μ, ρ) (g_Qn μ1 ρ1)) (hS1 : S = av.reverse ++ .ref a :: st) (hn : av.length = n) (hd2 : d2 < d) (hc : kc + mc2 ≤ mc ∧ ks + ms2 ≤ ms) (hw : (st.map fun v => v.category).sum ≤ 8)
    (h : g_V X Y d mc ms Q k (kc + mc2) (ks + ms2) (pc + 3) ls st (μ1, ρ1)) : g_V X Y d mc ms Q k kc ks pc ls S (μ, ρ) :=
  g_callI hT hl1 hst hd hK hS1 hn hd2 hc hw fun r σ2 hq => by
    obtain ⟨rfl, rfl⟩ := hq
    exact h
theorem m_ctorN {index n a d2 mc2 ms2 : Nat} {μ1 : g_M} {ρ1 : g_R} {y : MethodName} {Y2 : g_Y} {host : String} {av S : List Value} (hT : g_MT y Y2 n) (hl1 : Cond.methodLinkNest Y.2.2.2.1 index y host ∈ g_NW) (hst : y.name = "<init>" ∧ Cond.instanceMethod y ∈ g_T ∧ Y2.2.2.1 = none) (hd : decode Y.1 pc = .ok (.invokespecial index, 3)) (hK : g_K X y Y2 d2 mc2 ms2 (k + kc) (.ref a :: av) (μ, ρ) (g_Qn μ1 ρ1)) (hS1 : S = av.reverse ++ .ref a :: st) (hn : av.length = n) (hd2 : d2 < d) (hc : kc + mc2 ≤ mc ∧ ks + ms2 ≤ ms) (hw : (st.map fun v => v.category).sum ≤ 8)
    (h : g_V X Y d mc ms Q k (kc + mc2) (ks + ms2) (pc + 3) ls st (μ1, ρ1)) : g_V X Y d mc ms Q k kc ks pc ls S (μ, ρ) :=
  g_callIN hT hl1 hst hd hK hS1 hn hd2 hc hw fun r σ2 hq => by
    obtain ⟨rfl, rfl⟩ := hq
    exact h
end GF
/-- a world in the making: cells from b on, one behind another, by sh -/
def g_XC (D : va_G) (cA : Nat → ClassId) (b : Nat) (sh : Nat → Option (Nat × Nat × Nat)) : g_X := (D, cA, fun a => b + a, fun k a => if a < k then sh a else none, fun q => b ≤ q)
theorem g_sh_C {D : va_G} {cA : Nat → ClassId} {b K a : Nat} {sh : Nat → Option (Nat × Nat × Nat)} {sp : Nat × Nat × Nat} (h : a < K) (hs : sh a = some sp) : (g_XC D cA b sh).2.2.2.1 K a = some sp := by
  show (if a < K then sh a else none) = some sp
  rw [if_pos h, hs]
theorem g_nx_C {D : va_G} {cA : Nat → ClassId} {b K id : Nat} {sh : Nat → Option (Nat × Nat × Nat)} {sp : Nat × Nat × Nat} (h : K = id) (hs : sh id = some sp) : g_nx (g_XC D cA b sh) K id sp := by
  subst h
  refine ⟨?_, ?_, fun j sj hj => ?_, fun n hn i si h1 h2 => ?_⟩
  · show (if K < K then sh K else none) = none
    rw [if_neg (Nat.lt_irrefl K)]
  · show (if K < K + 1 then sh K else none) = some sp
    rw [if_pos (Nat.lt_succ_self K), hs]
  · have hj' : (if j < K + 1 then sh j else none) = some sj := hj
    by_cases e : j = K
    · exact Or.inl e
    · right
      by_cases e2 : j < K
      · show (if j < K then sh j else none) = some sj
        rw [if_pos e2]
        rw [if_pos (by omega)] at hj'
        exact hj'
      · rw [if_neg (by omega)] at hj'
        cases hj'
  · have h1' : (if i < K + 1 then sh i else none) = none := h1
    have h2' : (if i < K + 1 + 1 then sh i else none) = some si := h2
    have hn' : b + K = n := hn
    show b + i = n + 1
    by_cases e : i < K + 1
    · rw [if_pos e] at h1'
      rw [if_pos (by omega), h1'] at h2'
      cases h2'
    · by_cases e2 : i < K + 1 + 1
      · omega
      · rw [if_neg e2] at h2'
        cases h2'
theorem g_J_C (D : va_G) (cA : Nat → ClassId) (b : Nat) (sh : Nat → Option (Nat × Nat × Nat)) : g_J (g_XC D cA b sh) :=
  ⟨fun k x y p q h1 h2 h3 => by have h3' : b + x = b + y := h3; omega, fun k x p h1 => by show b ≤ b + x; omega⟩
