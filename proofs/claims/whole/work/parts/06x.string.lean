theorem fs_38 : Cond.fieldLink RJ0 38 "java/lang/String" "COMPACT_STRINGS" "Z" ∈ g_T := g_T_mem (i := 608) (w := Cond.fieldLink RJ0 38 "java/lang/String" "COMPACT_STRINGS" "Z") (by decide +kernel) (by decide +kernel)
theorem fs_15 : Cond.fieldLink RJ0 15 "java/lang/String" "coder" "B" ∈ g_T := g_T_mem (i := 1804) (w := Cond.fieldLink RJ0 15 "java/lang/String" "coder" "B") (by decide +kernel) (by decide +kernel)
theorem fs_9 : Cond.fieldLink RJ0 9 "java/lang/String" "value" "[B" ∈ g_T := g_T_mem (i := 1805) (w := Cond.fieldLink RJ0 9 "java/lang/String" "value" "[B") (by decide +kernel) (by decide +kernel)
theorem fs_1053 : Cond.fieldLink RJ0 1053 "jdk/internal/util/Preconditions" "SIOOBE_FORMATTER" "Ljava/util/function/BiFunction;" ∈ g_T := g_T_mem (i := 616) (w := Cond.fieldLink RJ0 1053 "jdk/internal/util/Preconditions" "SIOOBE_FORMATTER" "Ljava/util/function/BiFunction;") (by decide +kernel) (by decide +kernel)
/-- the names' text, as the methods of String see it -/
def g_Sx (A : Nat → Prop) (aK aV : Nat) (U : State) : Prop := va_O "java/lang/String" aK A U U.heap ∧ va_OF "java/lang/String" "coder" "B" (.int 0) aK A U U.heap ∧ va_OF "java/lang/String" "value" "[B" (.ref aV) aK A U U.heap ∧ va_T .byte aV 144 (fun j => .int (g_by.getD j 0)) A U U.heap ∧ va_Z "java/lang/String" "COMPACT_STRINGS" "Z" (.int 1) A U U.heap ∧ va_Zq "jdk/internal/util/Preconditions" "SIOOBE_FORMATTER" "Ljava/util/function/BiFunction;" A U U.heap
theorem g_Sx_moved {A : Nat → Prop} {aK aV : Nat} {s U : State} (h : g_Sx A aK aV s) (hv : s.vm.Alike U.vm) (hq : ∀ a : Nat, a < s.heap.size → ¬ A a → U.heap[a]? = s.heap[a]?) : g_Sx A aK aV U := by
  obtain ⟨h1, h2, h3, h4, h5, h6⟩ := h
  exact ⟨(h1.moved hv).kept hq, (h2.moved hv).kept hq, (h3.moved hv).kept hq, (h4.moved hv).kept hq, (h5.moved hv).kept hq, g_Zq_moved hv h6 hq⟩
theorem g_by_ok : ∀ j : Nat, j < 144 → (((g_by.getD j 0 &&& 255).toUInt32 % 65536).toInt32 = g_by.getD j 0 ∧ narrow .char (.int (g_by.getD j 0)) = .int (g_by.getD j 0)) := by decide +kernel
set_option maxHeartbeats 4000000 in
theorem c_isLatin1 (l : Launch) (A : Nat → Prop) (aK aV : Nat) : Met l yJ0_isLatin1_aae02 (Cond.code yJ0_isLatin1_aae02 cJ0_isLatin1_aae02 1 (some .boolean) :: g_T) (g_rm 0 0 0) (fun v U => v = ([.ref aK] : List Value).toArray ∧ g_Sx A aK aV U) (vp_Si (fun r => r = 1)) 0 0 (fun _ => False) := by
  refine Met.ofW (cc := cJ0_isLatin1_aae02) (maxL := 1) (ret := some .boolean) (by decide) rfl ?_
  intro p e s m args below meth c s₁ B hml hv
  obtain ⟨rfl, h1, h2, h3, h4, h5, h6⟩ := hv
  have hx := B.exec
  have hb := B.bytes
  have hr := B.returns
  have hts0 := atoms_spec (ws := Cond.code yJ0_isLatin1_aae02 cJ0_isLatin1_aae02 1 (some .boolean) :: g_T) B.pre
  have hts : ∀ w ∈ g_T, w.before _ s = true := fun w hw => hts0 w (List.mem_cons_of_mem _ hw)
  have hown : s.vm.findClass RJ0 = some m.cls := findClass_of_methodNamed B.named
  have hlocks := B.notSynchronized
  have hS : va_S A s.heap s.heap [] := va_S.rf
  have hl := lv_entry ([.ref aK]) (n := 1) (Nat.le_of_ble_eq_true rfl)
  rw [lg_entry_eq]
  generalize (lg_sl ([.ref aK]) ++ List.replicate (1 - (lg_sl ([.ref aK])).length) Slot.unset).toArray = ls at hl ⊢
  have hl : lv_has ls 1 [(0, .ref aK)] := hl
  refine va_gets hx hb h5 hS hown (hts _ fs_38) (fun _ h9 => h9) dJ0_isLatin1_aae02_0 ?_
  refine lv_if_eq (tgt := 17) hx hb dJ0_isLatin1_aae02_3 (by decide) (fun c9 => absurd c9 (by decide)) (fun c9 => ?_)
  refine lv_aload_n hx hb dJ0_isLatin1_aae02_6 rfl (lv_at hl 0 rfl) ?_
  refine vk_getf hx hb h2 hS hown (hts _ fs_15) (fun _ h9 => h9) dJ0_isLatin1_aae02_7 ?_
  refine lv_if_ne (tgt := 17) hx hb dJ0_isLatin1_aae02_10 (by decide) (fun c9 => absurd rfl c9) (fun c9 => ?_)
  refine lv_iconst (v := 1) hx hb dJ0_isLatin1_aae02_13 (by decide) ?_
  refine lv_goto (tgt := 18) hx hb dJ0_isLatin1_aae02_14 (by decide) ?_
  exact W.zret (v := 1) (ty := .boolean) hx hb hr rfl (fun t ht hW => ⟨1, rfl, rfl, ht⟩) (fun q h => by cases h) dJ0_isLatin1_aae02_18
set_option maxHeartbeats 4000000 in
theorem c_preCheck (l : Launch) (i n : Int32) (x : Value) (hxv : x = .null ∨ ∃ t, x = .ref t) (h0 : ¬ i < 0) (h1 : i < n) : Met l yJ3_checkIndex_8e157 (Cond.code yJ3_checkIndex_8e157 cJ3_checkIndex_8e157 3 (some .int) :: g_T) (g_rm 0 0 0) (fun v U => v = ([.int i, .int n, x] : List Value).toArray) (vp_Si (fun r => r = i)) 0 0 (fun _ => False) := by
  refine Met.ofW (cc := cJ3_checkIndex_8e157) (maxL := 3) (ret := some .int) (by decide) rfl ?_
  intro p e s m args below meth c s₁ B hml hv
  subst hv
  have hx := B.exec
  have hb := B.bytes
  have hr := B.returns
  have hlocks := B.notSynchronized
  have hcat : x.category = 1 := by rcases hxv with rfl | ⟨t, rfl⟩ <;> rfl
  have hl := lv_entry ([.int i, .int n, x]) (n := 3) (by rcases hxv with rfl | ⟨t, rfl⟩ <;> exact (Nat.le_of_ble_eq_true rfl))
  rw [lg_entry_eq]
  generalize (lg_sl ([.int i, .int n, x]) ++ List.replicate (3 - (lg_sl ([.int i, .int n, x])).length) Slot.unset).toArray = ls at hl ⊢
  have hl : lv_has ls 3 [(0, .int i), (1, .int n), (2, x)] := hl
  refine lv_iload_n hx hb dJ3_checkIndex_8e157_0 rfl (lv_at hl 0 rfl) ?_
  refine lv_if_lt (tgt := 9) hx hb dJ3_checkIndex_8e157_1 (by decide) (fun c9 => absurd c9 h0) (fun c9 => ?_)
  refine lv_iload_n hx hb dJ3_checkIndex_8e157_4 rfl (lv_at hl 0 rfl) ?_
  refine lv_iload_n hx hb dJ3_checkIndex_8e157_5 rfl (lv_at hl 1 rfl) ?_
  refine lv_icmp_lt (tgt := 16) hx hb dJ3_checkIndex_8e157_6 (by decide) (fun c9 => ?_) (fun c9 => absurd h1 c9)
  refine lv_iload_n hx hb dJ3_checkIndex_8e157_16 rfl (lv_at hl 0 rfl) ?_
  exact W.iret (v := i) hx hb hr (fun t ht hW => ⟨i, rfl, rfl, ht⟩) (fun q h => by cases h) dJ3_checkIndex_8e157_17
set_option maxHeartbeats 4000000 in
theorem c_strCheck (l : Launch) (A : Nat → Prop) (aK aV : Nat) (i n : Int32) (h0 : ¬ i < 0) (h1 : i < n) : Met l yJ0_checkIndex_df160 (Cond.code yJ0_checkIndex_df160 cJ0_checkIndex_df160 2 none :: g_T) (g_rm 1 0 0) (fun v U => v = ([.int i, .int n] : List Value).toArray ∧ g_Sx A aK aV U) (va_Sv (fun _ => True)) 0 0 (fun _ => False) := by
  refine Met.ofW (cc := cJ0_checkIndex_df160) (maxL := 2) (ret := none) (by decide) rfl ?_
  intro p e s m args below meth c s₁ B hml hv
  obtain ⟨rfl, g1, g2, g3, g4, g5, g6⟩ := hv
  have hx := B.exec
  have hb := B.bytes
  have hr := B.returns
  have hts0 := atoms_spec (ws := Cond.code yJ0_checkIndex_df160 cJ0_checkIndex_df160 2 none :: g_T) B.pre
  have hts : ∀ w ∈ g_T, w.before _ s = true := fun w hw => hts0 w (List.mem_cons_of_mem _ hw)
  have hown : s.vm.findClass RJ0 = some m.cls := findClass_of_methodNamed B.named
  have hlocks := B.notSynchronized
  have hS : va_S A s.heap s.heap [] := va_S.rf
  have hl := lv_entry ([.int i, .int n]) (n := 2) (Nat.le_of_ble_eq_true rfl)
  rw [lg_entry_eq]
  generalize (lg_sl ([.int i, .int n]) ++ List.replicate (2 - (lg_sl ([.int i, .int n])).length) Slot.unset).toArray = ls at hl ⊢
  have hl : lv_has ls 2 [(0, .int i), (1, .int n)] := hl
  refine lv_iload_n hx hb dJ0_checkIndex_df160_0 rfl (lv_at hl 0 rfl) ?_
  refine lv_iload_n hx hb dJ0_checkIndex_df160_1 rfl (lv_at hl 1 rfl) ?_
  obtain ⟨hT1, hT2, hT3, hT4⟩ := mt_J3_checkIndex_8e157
  have go : ∀ x : Value, (x = .null ∨ ∃ t, x = .ref t) → W p l e (g_rm 1 0 0) s m ([.int i, .int n] : List Value).toArray below meth c s.heap [] 0 0 (MQ below (va_Sv (fun _ => True)) ([.int i, .int n] : List Value).toArray s 0 0 (fun _ => False)) (F0 m (0 + 1 + 1 + 3) ls [x, .int n, .int i]) := by
    intro x hxv
    refine vp_callSi (W.runS (As := [.int i, .int n, x]) (rest := []) ⟨hx, hb, hml, hown, hts⟩ (c_preCheck l i n x hxv h0 h1) ⟨callB_of 3 hts (g_good (Y2 := Y_J3_checkIndex_8e157) hT1) rfl rfl rfl (hts _ hT2) (hts _ ml_J0_1059) hT3 (g_room (by decide) hT4), hts _ ms_J3_checkIndex_8e157⟩ ⟨fun a U g mk q => q, fun U hU hW => rfl⟩ rfl rfl hl.1 rfl (lv_room (Nat.le_of_ble_eq_true rfl)) dJ0_checkIndex_df160_5 ⟨Nat.le_refl _, Nat.le_refl _⟩) (fun r hq => ?_)
    refine lv_pop hx hb dJ0_checkIndex_df160_8 rfl ?_
    exact W.vret hx hb hr (fun t ht hW => ⟨rfl, trivial, ht⟩) (fun q h => by cases h) dJ0_checkIndex_df160_9
  rcases g6 with g6 | ⟨t, g6⟩
  · refine va_gets hx hb g6 hS hown (hts _ fs_1053) (fun _ h9 => h9) dJ0_checkIndex_df160_2 ?_
    exact go .null (Or.inl rfl)
  · refine va_gets hx hb g6 hS hown (hts _ fs_1053) (fun _ h9 => h9) dJ0_checkIndex_df160_2 ?_
    exact go (.ref t) (Or.inr ⟨t, rfl⟩)
set_option maxHeartbeats 4000000 in
theorem c_latinAt (l : Launch) (A : Nat → Prop) (aK aV : Nat) (i : Int32) (hin : vp_in i 144) : Met l yJ1_charAt_3b067 (Cond.code yJ1_charAt_3b067 cJ1_charAt_3b067 2 (some .char) :: g_T) (g_rm 2 0 0) (fun v U => v = ([.ref aV, .int i] : List Value).toArray ∧ g_Sx A aK aV U) (vp_Si (fun r => r = g_by.getD i.toNatClampNeg 0)) 0 0 (fun _ => False) := by
  refine Met.ofW (cc := cJ1_charAt_3b067) (maxL := 2) (ret := some .char) (by decide) rfl ?_
  intro p e s m args below meth c s₁ B hml hv
  obtain ⟨rfl, hG⟩ := hv
  obtain ⟨g1, g2, g3, g4, g5, g6⟩ := id hG
  have hx := B.exec
  have hb := B.bytes
  have hr := B.returns
  have hts0 := atoms_spec (ws := Cond.code yJ1_charAt_3b067 cJ1_charAt_3b067 2 (some .char) :: g_T) B.pre
  have hts : ∀ w ∈ g_T, w.before _ s = true := fun w hw => hts0 w (List.mem_cons_of_mem _ hw)
  have hown : s.vm.findClass RJ1 = some m.cls := findClass_of_methodNamed B.named
  have hlocks := B.notSynchronized
  have hS : va_S A s.heap s.heap [] := va_S.rf
  have hl := lv_entry ([.ref aV, .int i]) (n := 2) (Nat.le_of_ble_eq_true rfl)
  rw [lg_entry_eq]
  generalize (lg_sl ([.ref aV, .int i]) ++ List.replicate (2 - (lg_sl ([.ref aV, .int i])).length) Slot.unset).toArray = ls at hl ⊢
  have hl : lv_has ls 2 [(0, .ref aV), (1, .int i)] := hl
  have hlt : i.toNatClampNeg < 144 := Nat.not_le.mp fun q => hin (Or.inr q)
  have h0 : ¬ i < 0 := fun q => hin (Or.inl q)
  have h1 : i < 144 := by
    rw [Int32.lt_iff_toInt_lt] at h0 ⊢
    have e1 : i.toInt = (i.toNatClampNeg : Int) := by
      unfold Int32.toNatClampNeg
      have : (0 : Int32).toInt = 0 := by decide
      rw [this] at h0
      omega
    have e2 : (144 : Int32).toInt = 144 := by decide
    rw [e1, e2]
    omega
  refine lv_iload_n hx hb dJ1_charAt_3b067_0 rfl (lv_at hl 1 rfl) ?_
  refine lv_aload_n hx hb dJ1_charAt_3b067_1 rfl (lv_at hl 0 rfl) ?_
  refine va_tlen hx hb g4 hS (v := 144) (by decide) dJ1_charAt_3b067_2 ?_
  obtain ⟨hT1, hT2, hT3, hT4⟩ := mt_J0_checkIndex_df160
  refine va_csv (W.runS (As := [.int i, .int 144]) (rest := []) ⟨hx, hb, hml, hown, hts⟩ (c_strCheck l A aK aV i 144 h0 h1) ⟨callB_of 2 hts (g_good (Y2 := Y_J0_checkIndex_df160) hT1) rfl rfl rfl (hts _ hT2) (hts _ ml_J1_9) hT3 (g_room (by decide) hT4), hts _ ms_J0_checkIndex_df160⟩ ⟨fun a U g mk q => ⟨q.1, g_Sx_moved q.2 (Vm.Alike.refl U.vm) (fun _ _ _ => rfl)⟩, fun U hU hW => ⟨rfl, g_Sx_moved hG hW.alike (fun _ _ _ => by rw [hU])⟩⟩ rfl rfl hl.1 rfl (lv_room (Nat.le_of_ble_eq_true rfl)) dJ1_charAt_3b067_3 ⟨Nat.le_refl _, Nat.le_refl _⟩) (fun hq => ?_)
  refine lv_aload_n hx hb dJ1_charAt_3b067_6 rfl (lv_at hl 0 rfl) ?_
  refine lv_iload_n hx hb dJ1_charAt_3b067_7 rfl (lv_at hl 1 rfl) ?_
  refine va_tb hx hb g4 hS hin rfl dJ1_charAt_3b067_8 ?_
  refine lv_sipush (v := 255) hx hb dJ1_charAt_3b067_9 (by decide) ?_
  refine lv_iand hx hb dJ1_charAt_3b067_12 ?_
  obtain ⟨b1, b2⟩ := g_by_ok _ hlt
  refine lv_i2c hx hb dJ1_charAt_3b067_13 b1 ?_
  exact W.zret (v := g_by.getD i.toNatClampNeg 0) (ty := .char) hx hb hr b2 (fun t ht hW => ⟨_, rfl, rfl, ht⟩) (fun q h => by cases h) dJ1_charAt_3b067_14
set_option maxHeartbeats 4000000 in
theorem c_charAt (l : Launch) (A : Nat → Prop) (aK aV : Nat) (i : Int32) (hin : vp_in i 144) : Met l yJ0_charAt_5068e (Cond.code yJ0_charAt_5068e cJ0_charAt_5068e 2 (some .char) :: g_T) (g_rm 3 0 0) (fun v U => v = ([.ref aK, .int i] : List Value).toArray ∧ g_Sx A aK aV U) (vp_Si (fun r => r = g_by.getD i.toNatClampNeg 0)) 0 0 (fun _ => False) := by
  refine Met.ofW (cc := cJ0_charAt_5068e) (maxL := 2) (ret := some .char) (by decide) rfl ?_
  intro p e s m args below meth c s₁ B hml hv
  obtain ⟨rfl, hG⟩ := hv
  obtain ⟨g1, g2, g3, g4, g5, g6⟩ := id hG
  have hx := B.exec
  have hb := B.bytes
  have hr := B.returns
  have hts0 := atoms_spec (ws := Cond.code yJ0_charAt_5068e cJ0_charAt_5068e 2 (some .char) :: g_T) B.pre
  have hts : ∀ w ∈ g_T, w.before _ s = true := fun w hw => hts0 w (List.mem_cons_of_mem _ hw)
  have hown : s.vm.findClass RJ0 = some m.cls := findClass_of_methodNamed B.named
  have hlocks := B.notSynchronized
  have hS : va_S A s.heap s.heap [] := va_S.rf
  have hl := lv_entry ([.ref aK, .int i]) (n := 2) (Nat.le_of_ble_eq_true rfl)
  rw [lg_entry_eq]
  generalize (lg_sl ([.ref aK, .int i]) ++ List.replicate (2 - (lg_sl ([.ref aK, .int i])).length) Slot.unset).toArray = ls at hl ⊢
  have hl : lv_has ls 2 [(0, .ref aK), (1, .int i)] := hl
  have hlt : i.toNatClampNeg < 144 := Nat.not_le.mp fun q => hin (Or.inr q)
  have hrecv : ∃ cell : Cell, s.heap[aK]? = some cell ∧ cell.vm.isStatics = false ∧ s.vm.findClass RJ0 = some cell.cls := by
    obtain ⟨cell, q1, q2, q3, -⟩ := g1
    exact ⟨cell, q1, q2, q3⟩
  refine lv_aload_n hx hb dJ0_charAt_5068e_0 rfl (lv_at hl 0 rfl) ?_
  obtain ⟨hT1, hT2, hT3, hT4⟩ := mt_J0_isLatin1_aae02
  refine vp_callSi (W.runV (C := RJ0) (b := aK) (As := []) (rest := []) ⟨hx, hb, hml, hown, hts⟩ (c_isLatin1 l A aK aV) ⟨callB_of 0 hts (g_good (Y2 := Y_J0_isLatin1_aae02) hT1) rfl rfl rfl (hts _ hT2) (hts _ ml_J0_492) hT3 (g_room (by decide) hT4), hts _ mv_J0_isLatin1_aae02.1, hts _ mv_J0_isLatin1_aae02.2⟩ ⟨fun a U g mk q => ⟨q.1, g_Sx_moved q.2 (Vm.Alike.refl U.vm) (fun _ _ _ => rfl)⟩, hrecv, fun U hU hW => ⟨rfl, g_Sx_moved hG hW.alike (fun _ _ _ => by rw [hU])⟩⟩ rfl rfl hl.1 rfl (lv_room (Nat.le_of_ble_eq_true rfl)) dJ0_charAt_5068e_1 ⟨Nat.le_refl _, Nat.le_refl _⟩) (fun r hq => ?_)
  refine lv_if_eq (tgt := 16) hx hb dJ0_charAt_5068e_4 (by decide) (fun c9 => absurd (hq.symm.trans c9) (by decide)) (fun c9 => ?_)
  refine lv_aload_n hx hb dJ0_charAt_5068e_7 rfl (lv_at hl 0 rfl) ?_
  refine vk_getf hx hb g3 hS hown (hts _ fs_9) (fun _ h9 => h9) dJ0_charAt_5068e_8 ?_
  refine lv_iload_n hx hb dJ0_charAt_5068e_11 rfl (lv_at hl 1 rfl) ?_
  obtain ⟨hT1, hT2, hT3, hT4⟩ := mt_J1_charAt_3b067
  refine vp_callSi (W.runS (As := [.ref aV, .int i]) (rest := []) ⟨hx, hb, hml, hown, hts⟩ (c_latinAt l A aK aV i hin) ⟨callB_of 2 hts (g_good (Y2 := Y_J1_charAt_3b067) hT1) rfl rfl rfl (hts _ hT2) (hts _ ml_J0_495) hT3 (g_room (by decide) hT4), hts _ ms_J1_charAt_3b067⟩ ⟨fun a U g mk q => ⟨q.1, g_Sx_moved q.2 (Vm.Alike.refl U.vm) (fun _ _ _ => rfl)⟩, fun U hU hW => ⟨rfl, g_Sx_moved hG hW.alike (fun _ _ _ => by rw [hU])⟩⟩ rfl rfl hl.1 rfl (lv_room (Nat.le_of_ble_eq_true rfl)) dJ0_charAt_5068e_12 ⟨Nat.le_refl _, Nat.le_refl _⟩) (fun r2 hq2 => ?_)
  have b2 := (g_by_ok _ hlt).2
  subst hq2
  exact W.zret (v := g_by.getD i.toNatClampNeg 0) (ty := .char) hx hb hr b2 (fun t ht hW => ⟨_, rfl, rfl, ht⟩) (fun q h => by cases h) dJ0_charAt_5068e_15
set_option maxHeartbeats 4000000 in
/-- NAMES.charAt(x * 8 + y), in isName -/
theorem m_chr {X : g_X} {d mc ms : Nat} {Q : Option Value → g_S → Prop} {k kc ks : Nat} {ls : List (Option Value)} {σ : g_S} {x y v : Int32} (hdd : 3 < d) (h1 : ls[1]? = some (some (.int x))) (h4 : ls[4]? = some (some (.int y))) (hv : g_ch (x * 8 + y) = some v) (h : g_V X Y_X8_isName d mc ms Q k kc ks 52 ls [.int v] σ) (hcap : kc ≤ mc ∧ ks ≤ ms := by exact ⟨Nat.le_refl _, Nat.le_refl _⟩) : g_V X Y_X8_isName d mc ms Q k kc ks 40 ls [] σ := by
  intro l p e s m args below meth c H locs lsA hC hP hz hS hl
  have hx := hC.1
  have hb := hC.2.1
  obtain ⟨-, -, -, hml, hown, hts, -, -, hK, hJ, hG0⟩ := id hC
  obtain ⟨-, ⟨adK, adV, hE, hR⟩, hZ, -, -, -, hZq⟩ := id hG0
  obtain ⟨e1, e2, e3, e4⟩ := hE.1 0 (by decide)
  have hG : g_Sx X.2.2.2.2 (adK 0) (adV 0) s := ⟨e1, e2, e3, e4, hZ, hZq⟩
  unfold g_ch at hv
  split at hv
  · cases hv
  · rename_i hin
    have hv := Option.some.inj hv
    subst hv
    refine va_ldcS hx hb hown hR dX8_isName_40 ?_
    refine lv_iload_n hx hb dX8_isName_42 rfl (g_loc hl h1) ?_
    refine lv_bipush (v := 8) hx hb dX8_isName_43 (by decide) ?_
    refine lv_imul hx hb dX8_isName_45 ?_
    refine lv_iload hx hb dX8_isName_46 (g_loc hl h4) ?_
    refine lv_iadd hx hb dX8_isName_48 ?_
    obtain ⟨hT1, hT2, hT3, hT4⟩ := mt_J0_charAt_5068e
    refine vp_callSi (W.runV (C := RJ0) (b := adK 0) (As := [.int (x * 8 + y)]) (rest := []) ⟨hx, hb, hml, hown, hts⟩ (c_charAt l X.2.2.2.2 (adK 0) (adV 0) (x * 8 + y) hin) ⟨callB_of 1 hts (g_good (Y2 := Y_J0_charAt_5068e) hT1) rfl rfl rfl (hts _ hT2) (hts _ ml_X8_81) hT3 (g_room hdd hT4), hts _ mv_J0_charAt_5068e.1, hts _ mv_J0_charAt_5068e.2⟩ ⟨fun a U g mk q => ⟨q.1, g_Sx_moved q.2 (Vm.Alike.refl U.vm) (fun _ _ _ => rfl)⟩, vk_recv hE (by decide) hS, fun U hU hW => ⟨rfl, g_Sx_moved hG hW.alike (fun a9 q1 q2 => by rw [hU]; exact hS.2.1 a9 q1 q2)⟩⟩ rfl rfl hl.1 rfl (lv_room (Nat.le_of_ble_eq_true rfl)) dX8_isName_49 hcap) (fun r hq => ?_)
    subst hq
    exact h l p e s m args below meth c H locs lsA hC hP hz hS hl

