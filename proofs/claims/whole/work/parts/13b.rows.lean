/-! ===== constructors' other rows ===== -/
section GB
variable {X : g_X} {Y : g_Y} {d mc ms : Nat} {Q : Option Value → g_S → Prop} {k kc ks pc : Nat} {ls : List (Option Value)} {st : List Value} {σ : g_S}
theorem wm_obj : Cond.instanceMethod Lib.objectInit ∈ g_T ∧ Cond.code Lib.objectInit ⟨#[0xb1]⟩ 1 none ∈ g_T := ⟨g_T_mem (i := 116) (w := .instanceMethod Lib.objectInit) (by decide +kernel) (by decide +kernel), g_T_mem (i := 117) (w := .code Lib.objectInit ⟨#[0xb1]⟩ 1 none) (by decide +kernel) (by decide +kernel)⟩
/-- the constructor of Object -/
theorem g_oinit {index a : Nat} (hl1 : Cond.methodLink Y.2.2.2.1 index Lib.objectInit ∈ g_T) (hd1 : 0 < d) (hw : (st.map fun v => v.category).sum ≤ 8) (hd : decode Y.1 pc = .ok (.invokespecial index, 3)) (h : g_V X Y d mc ms Q k kc ks (pc + 3) ls st σ) : g_V X Y d mc ms Q k kc ks pc ls (.ref a :: st) σ := by
  intro l p e s m args below meth c H locs lsA hC hP hz hS hl
  have hx := hC.1
  have hb := hC.2.1
  obtain ⟨-, -, -, hml, hown, hts, -⟩ := _root_.id hC
  have ec : ((st.map (g_tv X.2.2.1)).map fun v => v.category) = st.map fun v => v.category := by
    rw [List.map_map]
    exact List.map_congr_left (fun v _ => g_tvc X.2.2.1 v)
  refine W.objInit hx hb hown (hts _ hl1) (hts _ wm_obj.1) (hts _ wm_obj.2) rfl (by rw [hml]; exact hl.1) (a := X.2.2.1 a) (rest := st.map (g_tv X.2.2.1)) rfl hd hd1 ?_ (h l p e s m args below meth c H locs lsA hC hP hz hS hl)
  rw [ec]
  show 2 * 0 + _ + 12 ≤ 40 * d
  omega
/-- a call of a constructor -/
theorem g_callI {d2 mc2 ms2 index n a : Nat} {y : MethodName} {Y2 : g_Y} {av S : List Value} {Q2 : Option Value → g_S → Prop} (hT : g_MT y Y2 n) (hl1 : Cond.methodLink Y.2.2.2.1 index y ∈ g_T) (hst : y.name = "<init>" ∧ Cond.instanceMethod y ∈ g_T ∧ Y2.2.2.1 = none) (hd : decode Y.1 pc = .ok (.invokespecial index, 3)) (hK : g_K X y Y2 d2 mc2 ms2 (k + kc) (.ref a :: av) σ Q2) (hS1 : S = av.reverse ++ .ref a :: st) (hn : av.length = n) (hd2 : d2 < d) (hc : kc + mc2 ≤ mc ∧ ks + ms2 ≤ ms) (hw : (st.map fun v => v.category).sum ≤ 8)
    (h : ∀ (r : Option Value) (σ2 : g_S), Q2 r σ2 → g_V X Y d mc ms Q k (kc + mc2) (ks + ms2) (pc + 3) ls (r.toList ++ st) σ2) : g_V X Y d mc ms Q k kc ks pc ls S σ := by
  intro l p e s m args below meth c H locs lsA hC hP hz hS hl
  have hx := hC.1
  have hb := hC.2.1
  obtain ⟨hT1, hT2, hT3, hT4⟩ := hT
  have hts := hC.2.2.2.2.2.1
  subst hS1
  have hT1' : Cond.code y Y2.1 Y2.2.1 none ∈ g_T := hst.2.2 ▸ hT1
  have hM := hK l
  rw [hst.2.2] at hM
  have hG : GoodIn g_T (Cond.code y Y2.1 Y2.2.1 none :: g_T) := by
    have h0 := g_good hT1
    rw [hst.2.2] at h0
    exact h0
  refine g_back (va_runI (b := X.2.2.1 a) (As := av.map (g_tv X.2.2.1)) ⟨hx, hb, hC.2.2.2.1, hC.2.2.2.2.1, hts⟩ hM ⟨callB_of n hts hG rfl rfl rfl (hts _ hT2) (hts _ hl1) hT3 (g_room hd2 hT4), hst.1, hts _ hst.2.1⟩ ⟨g_blind X _ _ _, g_pre (l := l) (av := .ref a :: av) hC hP hS⟩ rfl (by rw [List.length_map]; exact hn) hl.1 (by rw [List.map_append, List.map_reverse]; rfl) (g_restw hw) hd hc) hC hz hS hl h
/-- .. of a nest mate's -/
theorem g_callIN {d2 mc2 ms2 index n a : Nat} {y : MethodName} {Y2 : g_Y} {host : String} {av S : List Value} {Q2 : Option Value → g_S → Prop} (hT : g_MT y Y2 n) (hl1 : Cond.methodLinkNest Y.2.2.2.1 index y host ∈ g_NW) (hst : y.name = "<init>" ∧ Cond.instanceMethod y ∈ g_T ∧ Y2.2.2.1 = none) (hd : decode Y.1 pc = .ok (.invokespecial index, 3)) (hK : g_K X y Y2 d2 mc2 ms2 (k + kc) (.ref a :: av) σ Q2) (hS1 : S = av.reverse ++ .ref a :: st) (hn : av.length = n) (hd2 : d2 < d) (hc : kc + mc2 ≤ mc ∧ ks + ms2 ≤ ms) (hw : (st.map fun v => v.category).sum ≤ 8)
    (h : ∀ (r : Option Value) (σ2 : g_S), Q2 r σ2 → g_V X Y d mc ms Q k (kc + mc2) (ks + ms2) (pc + 3) ls (r.toList ++ st) σ2) : g_V X Y d mc ms Q k kc ks pc ls S σ := by
  intro l p e s m args below meth c H locs lsA hC hP hz hS hl
  have hx := hC.1
  have hb := hC.2.1
  obtain ⟨hT1, hT2, hT3, hT4⟩ := hT
  have hts := hC.2.2.2.2.2.1
  have hnw := hC.2.2.2.2.2.2.2.2.2.2.2.2.2.1
  subst hS1
  have hM := hK l
  rw [hst.2.2] at hM
  have hG : GoodIn g_T (Cond.code y Y2.1 Y2.2.1 none :: g_T) := by
    have h0 := g_good hT1
    rw [hst.2.2] at h0
    exact h0
  refine g_back (va_runIN (b := X.2.2.1 a) (As := av.map (g_tv X.2.2.1)) ⟨hx, hb, hC.2.2.2.1, hC.2.2.2.2.1, hts⟩ hM ⟨va_cnB n hts hG rfl rfl rfl (hnw _ hl1) (hts _ hT2) hT3 (g_room hd2 hT4), hst.1, hts _ hst.2.1⟩ ⟨g_blind X _ _ _, g_pre (l := l) (av := .ref a :: av) hC hP hS⟩ rfl (by rw [List.length_map]; exact hn) hl.1 (by rw [List.map_append, List.map_reverse]; rfl) (g_restw hw) hd hc) hC hz hS hl h
/-- a final field, in the constructor -/
theorem g_putF {a index ci kf N r : Nat} (hin2 : Y.2.2.2.2 = "<init>") (hf : g_FL Y.2.2.2.1 index ci kf N) (hw : g_FF Y.2.2.2.1 ci kf) (hi : g_fI ci kf = false) (hn : narrow (g_ty ci kf) (.ref (X.2.2.1 r)) = .ref (X.2.2.1 r)) (hfit : fits (g_ty ci kf) (.ref (X.2.2.1 r)) = true) (hs : X.2.2.2.1 (k + kc) a = some (2, ci, N)) (hd : decode Y.1 pc = .ok (.putfield index, 3)) (h : g_V X Y d mc ms Q k kc ks (pc + 3) ls st (σ.1, g_sef σ.2 a kf (some r))) : g_V X Y d mc ms Q k kc ks pc ls (.ref r :: .ref a :: st) σ := by
  intro l p e s m args below meth c H locs lsA hC hP hz hS hl
  have hx := hC.1
  have hb := hC.2.1
  obtain ⟨C, T, hc, hin, hk, hlink, hty, hnm⟩ := hf
  obtain ⟨-, -, -, -, hown, hts, -, hname, hK, hJ, -⟩ := _root_.id hC
  have hap := va_apart (own := Y.2.2.2.1) hts hin (g_ty ci) hty hnm hK hc
  obtain ⟨cell, q1, q2, q3, q4⟩ : t_OB (X.2.2.1 a) (X.1.1 ci) N (X.1.2 ci) H (g_fv X.2.2.1 σ ci a) := hP.1 a _ hs
  obtain ⟨hS2, hfc, kC, hkC, hkind⟩ := hK.1 ci _ hc
  obtain ⟨cf, kf2, fi, f, hi2, hsl⟩ := hS2 kf hk
  have hlay := hts _ (hin _ (u_in_lay hk))
  unfold u_lay at hlay
  rw [if_pos (hw C T N hc).1] at hlay
  have hst := (u_facts hfc hkC (u_lays hts hin hk) hi2).1
  have hcf : m.cls = cf := by
    obtain ⟨_, _, c', _, _, _, -, -, hf', -, -, -, hown2, -⟩ := Cond.laysFinal_spec hlay
    have e1 : c' = cf := by have := hi2.symm.trans hf'; simp at this; exact this.1.symm
    rw [(hw C T N hc).2] at hown2
    rw [← e1]; exact Option.some.inj (hown.symm.trans hown2)
  have h6 := u_fits hfc hkC hkind (Or.inr hlay) hi2 (hty kf hk) hn hfit
  refine W.putFinK hx hb hown (hts _ hlink) hi2 hst hcf (hname.trans hin2) (by rw [q2]; exact h6) q1 q3 (by rw [hsl]; exact k2_hasslot (q4 kf hk)) rfl rfl hd fun H1 e1 e2 e3 => ?_
  rw [hsl] at e1 ⊢
  refine h l p e s m args below meth c H1 _ lsA hC (g_P_put hJ hP e2 hs e3 (fun j hj => ⟨rfl, ?_⟩) ?_) (e2.trans hz) (hS.put e2 e3 (hJ.2 _ a _ hs)) hl
  · funext b
    simp [g_sef, hj]
  · refine t_OB.to (V := updV (g_fv X.2.2.1 σ ci a) kf (.ref (X.2.2.1 r))) ⟨_, e1, q2, q3, t_set q4 hap hk _⟩ (fun j _ => ?_)
    simp only [updV, g_fv, g_sef, true_and]
    by_cases e : j = kf
    · subst e
      simp [hi, va_rf]
    · simp [e]
/-- class ci is an oven's -/
def g_ov (ci N : Nat) : Prop := ∃ (C : String) (T : u_T), g_cl[ci]? = some (C, T, N) ∧ (C = "OvenPairs$Oven" ∨ Cond.superclass C "OvenPairs$Oven" ∈ g_T ∨ ∃ B : String, Cond.superclass C B ∈ g_T ∧ Cond.superclass B "OvenPairs$Oven" ∈ g_T)
theorem wm_ovn : Cond.superclass "OvenPairs$Oven" "java/lang/Object" ∈ g_T := g_T_mem (i := 131) (w := .superclass "OvenPairs$Oven" "java/lang/Object") (by decide +kernel) (by decide +kernel)
theorem g_one {a n : Nat} (h1 : a < n) : ∃ m, n = m + 1 := ⟨n - 1, by omega⟩
theorem g_two {a b n : Nat} (h1 : a < n) (h2 : b < n) (h : ¬ a = b) : ∃ m, n = m + 2 := ⟨n - 2, by omega⟩
theorem g_asg0 {vm : Vm} {c t : ClassId} {kc kt : Class} (hc : vm.classes[c]? = some kc) (ht : vm.classes[t]? = some kt) (h1 : kc.kind = .ordinary) (h2 : kt.kind = .ordinary) (h3 : kt.isInterface = false) (hs : vm.isSubclass c t = true) : vm.assignable c t = true := by
  simp [Vm.assignable, Vm.assignableAux, hc, ht, h1, h2, h3, hs]
theorem g_sub1 {vm : Vm} {c t : ClassId} {kc : Class} (hc : vm.classes[c]? = some kc) (h : kc.super = some t) : ∀ n : Nat, vm.isSubclassAux (n + 2) c t = true := by
  intro n
  simp [Vm.isSubclassAux, hc, h]
theorem g_asg {s : State} {args : Array Value} {C : String} {cC t : ClassId} (hts : ∀ w ∈ g_T, w.before args s = true) (hC : s.vm.findClass C = some cC) (ht : s.vm.findClass "OvenPairs$Oven" = some t) (h : Cond.superclass C "OvenPairs$Oven" ∈ g_T ∨ ∃ B : String, Cond.superclass C B ∈ g_T ∧ Cond.superclass B "OvenPairs$Oven" ∈ g_T) : s.vm.assignable cC t = true := by
  obtain ⟨p0, k0, kp0, -, e2, -, -, e5, -, e7⟩ := Cond.superclass_spec ht (hts _ wm_ovn)
  rcases h with h | ⟨B, h1, h2⟩
  · obtain ⟨p, k, kp, f1, f2, f3, f4, f5, f6, f7⟩ := Cond.superclass_spec hC (hts _ h)
    cases f1.symm.trans ht
    refine g_asg0 f2 e2 f5 e5 e7 ?_
    unfold Vm.isSubclass
    have hlt : cC < s.vm.classes.size := (Array.getElem?_eq_some_iff.mp f2).1
    obtain ⟨n, hn⟩ : ∃ n, s.vm.classes.size = n + 1 := g_one hlt
    rw [hn]
    exact g_sub1 f2 f4 n
  · obtain ⟨p, k, kp, f1, f2, f3, f4, f5, f6, f7⟩ := Cond.superclass_spec hC (hts _ h1)
    obtain ⟨p', k', kp', g1, g2, g3, g4, g5, g6, g7⟩ := Cond.superclass_spec f1 (hts _ h2)
    cases g1.symm.trans ht
    refine g_asg0 f2 e2 f5 e5 e7 ?_
    unfold Vm.isSubclass
    have hlt : cC < s.vm.classes.size := (Array.getElem?_eq_some_iff.mp f2).1
    have hlt2 : t < s.vm.classes.size := (Array.getElem?_eq_some_iff.mp e2).1
    by_cases e : cC = t
    · subst e
      simp [Vm.isSubclassAux]
    · obtain ⟨n, hn⟩ : ∃ n, s.vm.classes.size = n + 2 := g_two hlt hlt2 e
      rw [hn]
      have h9 := g_sub1 g2 g4 n
      show s.vm.isSubclassAux (n + 2 + 1) cC t = true
      rw [Vm.isSubclassAux, f2]
      show (cC == t || match k.super with | some p => s.vm.isSubclassAux (n + 2) p t | none => false) = true
      rw [f4]
      show (cC == t || s.vm.isSubclassAux (n + 2) p t) = true
      rw [h9, Bool.or_true]
theorem g_aast {a r n ci N j : Nat} {i : Int32} (ho : g_ov ci N) (hs : X.2.2.2.1 (k + kc) a = some (1, 1, n)) (hr : X.2.2.2.1 (k + kc) r = some (2, ci, N)) (hj : i.toNatClampNeg = j) (h0 : ¬ i < 0) (hlt : j < n) (hd : decode Y.1 pc = .ok (.aastore, 1)) (h : g_V X Y d mc ms Q k kc ks (pc + 1) ls st (σ.1, g_sef σ.2 a j (some r))) : g_V X Y d mc ms Q k kc ks pc ls (.ref r :: .int i :: .ref a :: st) σ := by
  intro l p e s m args below meth c H locs lsA hC hP hz hS hl
  have hx := hC.1
  have hb := hC.2.1
  subst hj
  obtain ⟨-, -, -, -, hown, hts, -, -, hK, hJ, -⟩ := _root_.id hC
  obtain ⟨C, T, hc, hcast⟩ := ho
  have hq : H[X.2.2.1 a]? = some (arrV (X.2.1 1) n (fun j => va_rf ((σ.2 a j).map X.2.2.1))) := hP.1 a _ hs
  obtain ⟨cellV, g1, g2, g3, -⟩ : t_OB (X.2.2.1 r) (X.1.1 ci) N (X.1.2 ci) H (g_fv X.2.2.1 σ ci r) := hP.1 r _ hr
  have hcls := (hK.1 ci _ hc).2
  obtain ⟨kA, comp, k1, k2, k3, -⟩ := (hK.2 1 _ rfl).2
  obtain ⟨kE, hkE, -⟩ := Vm.findClass_spec k3
  have f3 : s.vm.assignable (X.1.1 ci) comp = true := by
    rcases hcast with e | e
    · subst e
      have : comp = X.1.1 ci := Option.some.inj (k3.symm.trans hcls.1)
      rw [this]
      exact va_assign hcls
    · exact g_asg hts hcls.1 k3 e
  obtain ⟨kC, hkC, -⟩ := hcls.2
  refine W.aast hx hb hq (fun q h => by cases h) (fun h => by cases h) k1 k2 rfl hkE ⟨h0, by rw [arrV_size]; exact hlt⟩ g1 (fun q h => by rw [g3] at h; cases h) (by rw [g2]; exact hkC) (by rw [g2]; exact f3) rfl rfl hd fun H1 e1 z oq => ?_
  refine h l p e s m args below meth c H1 _ lsA hC (g_P_put hJ hP z hs oq (fun j hj => ⟨rfl, ?_⟩) ?_) (z.trans hz) (hS.put z oq (hJ.2 _ a _ hs)) hl
  · funext b
    simp [g_sef, hj]
  · show H1[X.2.2.1 a]? = _
    rw [e1, arrV_store]
    congr 2
    funext q
    by_cases hq : q = i.toNatClampNeg
    · subst hq
      simp [updV, g_sef, va_rf]
    · simp [updV, g_sef, hq]
theorem wm_cpy : Cond.native arraycopyName ∈ g_T ∧ Cond.static arraycopyName ∈ g_T ∧ Cond.initialized "java/lang/System" ∈ g_T := ⟨g_T_mem (i := 1155) (w := .native arraycopyName) (by decide +kernel) (by decide +kernel), g_T_mem (i := 1154) (w := .static arraycopyName) (by decide +kernel) (by decide +kernel), g_T_mem (i := 109) (w := .initialized "java/lang/System") (by decide +kernel) (by decide +kernel)⟩
/-- arraycopy of the first n ints -/
theorem g_copy {index a0 a n0 n1 N : Nat} {n : Int32} (hl1 : Cond.methodLink Y.2.2.2.1 index arraycopyName ∈ g_T) (hs0 : X.2.2.2.1 (k + kc) a0 = some (0, 0, n0)) (hs1 : X.2.2.2.1 (k + kc) a = some (0, 0, n1)) (hN : n.toNatClampNeg = N) (h3 : ¬ n < 0) (h4 : N ≤ n0) (h5 : N ≤ n1) (hw : (st.map fun v => v.category).sum + (nativeFrameWords "java/lang/System" "arraycopy" 5 + 11) ≤ 40 * d) (hd1 : 0 < d) (hd : decode Y.1 pc = .ok (.invokestatic index, 3)) (h : g_V X Y d mc ms Q k kc ks (pc + 3) ls st (pp_cpy σ.1 a0 a N, σ.2)) : g_V X Y d mc ms Q k kc ks pc ls (.int n :: .int 0 :: .ref a :: .int 0 :: .ref a0 :: st) σ := by
  intro l p e s m args below meth c H locs lsA hC hP hz hS hl
  have hx := hC.1
  have hb := hC.2.1
  subst hN
  obtain ⟨-, -, -, hml, hown, hts, -, -, hK, hJ, -⟩ := _root_.id hC
  have ec : ((st.map (g_tv X.2.2.1)).map fun v => v.category) = st.map fun v => v.category := by
    rw [List.map_map]
    exact List.map_congr_left (fun v _ => g_tvc X.2.2.1 v)
  have nn : n.toInt = (n.toNatClampNeg : Int) := by
    have := Int32.le_iff_toInt_le.mp (Int32.not_lt.mp h3)
    have h9 : (0 : Int) ≤ n.toInt := by simpa using this
    show n.toInt = ((n.toInt.toNat : Nat) : Int)
    omega
  have hc0 : H[X.2.2.1 a0]? = some (arrV (X.2.1 0) n0 (fun j => .int (σ.1 a0 j))) := hP.1 a0 _ hs0
  have hc1 : H[X.2.2.1 a]? = some (arrV (X.2.1 0) n1 (fun j => .int (σ.1 a j))) := hP.1 a _ hs1
  intro T hT X9
  obtain ⟨-, k0, hk0, cm0, hkk0⟩ := (hK.2 0 _ rfl).1 n0 (fun j => .int (σ.1 a0 j))
  obtain ⟨vm', X', step⟩ := X9.arraycopy hx hown (hts _ hl1) (hts _ wm_cpy.1) (hts _ wm_cpy.2.1) (hts _ wm_cpy.2.2) (src := X.2.2.1 a0) (dst := X.2.2.1 a) (cs := arrV (X.2.1 0) n0 (fun j => .int (σ.1 a0 j))) (cd := arrV (X.2.1 0) n1 (fun j => .int (σ.1 a j))) (srcPos := 0) (destPos := 0) (n := n) (by rw [hT]; exact hc0) (by rw [hT]; exact hc1)
    (fun _ h => by cases h) (fun _ h => by cases h) (fun h => by cases h) (fun h => by cases h) hk0 hk0 hkk0 hkk0 rfl (by decide) (by decide) h3
    (by rw [nn, arrV_size]; show ¬ (0 : Int) + _ > _; omega)
    (by rw [nn, arrV_size]; show ¬ (0 : Int) + _ > _; omega)
    (fun vm₁ _ i hi => by
      have e : (arrV (X.2.1 0) n0 (fun j => .int (σ.1 a0 j))).slots.getD ((0 : Int32).toNatClampNeg + i) .null = .int (σ.1 a0 i) := by
        rw [show (0 : Int32).toNatClampNeg + i = i from Nat.zero_add i, Array.getD_eq_getD_getElem?, arrV_read _ _ (by omega)]
        rfl
      rw [e]
      exact ⟨rfl, trivial⟩)
    (g := F0 m pc lsA ((Value.int n :: .int 0 :: .ref a :: .int 0 :: .ref a0 :: st).map (g_tv X.2.2.1))) rfl (by rw [hml]; exact hl.1) (rest := st.map (g_tv X.2.2.1)) rfl (by rw [hb]; exact hd) hd1 (by rw [ec]; show 2 * 0 + _ + _ ≤ 40 * d; omega)
  have e1 : copied (arrV (X.2.1 0) n0 (fun j => Value.int (σ.1 a0 j))) (arrV (X.2.1 0) n1 (fun j => Value.int (σ.1 a j))) 0 0 n = arrV (X.2.1 0) n1 (fun j => Value.int (va_cpy (σ.1 a0) (σ.1 a) 0 0 n.toNatClampNeg j)) := va_copied (sp := 0) (dp := 0) (n := n.toNatClampNeg) (fun z => Value.int z) (X.2.1 0) (X.2.1 0) (σ.1 a0) (σ.1 a) (by omega)
  rw [e1] at X' step
  generalize hcell : arrV (X.2.1 0) n1 (fun j => Value.int (va_cpy (σ.1 a0) (σ.1 a) 0 0 n.toNatClampNeg j)) = cell at X' step
  have hlt : X.2.2.1 a < H.size := (Array.getElem?_eq_some_iff.mp hc1).1
  have hheap : ((T.setVm vm').setCell (X.2.2.1 a) cell).heap = H.setIfInBounds (X.2.2.1 a) cell := by rw [← hT]; rfl
  have oq : ∀ q : Nat, q ≠ X.2.2.1 a → (H.setIfInBounds (X.2.2.1 a) cell)[q]? = H[q]? := fun q hq => by simp [Array.getElem?_setIfInBounds, Ne.symm hq]
  have zz : (H.setIfInBounds (X.2.2.1 a) cell).size = H.size := by simp
  have hP1 : g_P X (k + kc) (pp_cpy σ.1 a0 a n.toNatClampNeg, σ.2) (H.setIfInBounds (X.2.2.1 a) cell) := by
    refine g_P_put hJ hP zz hs1 oq (fun j hj => ⟨?_, rfl⟩) ?_
    · exact pp_cpy_n hj
    · show (H.setIfInBounds (X.2.2.1 a) cell)[X.2.2.1 a]? = some (arrV (X.2.1 0) n1 (fun j => .int (pp_cpy σ.1 a0 a n.toNatClampNeg a j)))
      rw [show (H.setIfInBounds (X.2.2.1 a) cell)[X.2.2.1 a]? = some cell by simp [Array.getElem?_setIfInBounds, hlt], ← hcell]
      congr 2
      funext j
      congr 1
      unfold va_cpy pp_cpy
      by_cases e : j < n.toNatClampNeg
      · rw [if_pos ⟨Nat.zero_le _, by omega⟩, if_pos ⟨rfl, e⟩, Nat.zero_add, Nat.sub_zero]
      · rw [if_neg (fun q => e (by omega)), if_neg (fun q => e q.2)]
  obtain ⟨t, a1, b1⟩ := h l p e s m args below meth c _ _ lsA hC hP1 (zz.trans hz) ⟨by rw [zz]; exact hS.1, fun q g1 g2 => by
      rw [oq q (fun e => g2 (by rw [e]; exact hJ.2 _ a _ hs1))]
      exact hS.2.1 q g1 g2, fun q hq => by
      rcases List.mem_append.mp hq with h | h
      · exact hS.2.2 q h
      · obtain ⟨z, -, hz⟩ := List.mem_map.mp h
        rw [← hz]
        exact hJ.2 _ a _ hs1⟩ hl _ hheap X'
  exact ⟨t, step t a1, b1⟩
end GB
