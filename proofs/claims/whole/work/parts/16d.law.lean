/-! ===== the law's own walk: its judgement and rows ===== -/
abbrev gl_A (s : State) (H : Heap) : Prop := s.heap.size ≤ H.size ∧ ∀ q : Nat, q < s.heap.size → H[q]? = s.heap[q]?
def gl_W (p : Program) (l : Launch) (e : Env) (s : State) (m : MethodId) (below : List Frame) (meth : Method) (c : Code) (sb : Nat) (H : Heap) (cells slots pc : Nat) (ls : List (Option Value)) (st : List Value) : Prop :=
  ∀ lsA : Array Slot, lv_has lsA 4 (g_lv (fun a => a) 0 ls) → W p l e room_1 s m #[Value.ref sb] below meth c H [] cells slots (lw_Z below #[Value.ref sb] s) (F0 m pc lsA st)
section GL
variable {p : Program} {l : Launch} {e : Env} {s : State} {m : MethodId} {below : List Frame} {meth : Method} {c : Code} {sb L : Nat} {xs : Nat → Int32} {H : Heap} {cells slots pc : Nat} {ls : List (Option Value)} {st : List Value}
theorem gl_aload {i : Fin 4} {x : Nat} (C0 : lw_At p s m meth c sb L xs) (hd : decode code pc = .ok (.aload_n i, 1)) (hv : ls[(i : Nat)]? = some (some (.ref x))) (h : gl_W p l e s m below meth c sb H cells slots (pc + 1) ls (.ref x :: st)) : gl_W p l e s m below meth c sb H cells slots pc ls st := fun lsA hl => lv_aload_n C0.1 C0.2.1 hd rfl (g_loc hl hv) (h lsA hl)
theorem gl_iload {i : Fin 4} {x : Int32} (C0 : lw_At p s m meth c sb L xs) (hd : decode code pc = .ok (.iload_n i, 1)) (hv : ls[(i : Nat)]? = some (some (.int x))) (h : gl_W p l e s m below meth c sb H cells slots (pc + 1) ls (.int x :: st)) : gl_W p l e s m below meth c sb H cells slots pc ls st := fun lsA hl => lv_iload_n C0.1 C0.2.1 hd rfl (g_loc hl hv) (h lsA hl)
theorem gl_ic0 (C0 : lw_At p s m meth c sb L xs) (hd : decode code pc = .ok (.iconst 0, 1)) (h : gl_W p l e s m below meth c sb H cells slots (pc + 1) ls (.int 0 :: st)) : gl_W p l e s m below meth c sb H cells slots pc ls st := fun lsA hl => lv_iconst C0.1 C0.2.1 hd (by decide) (h lsA hl)
theorem gl_ic1 (C0 : lw_At p s m meth c sb L xs) (hd : decode code pc = .ok (.iconst 1, 1)) (h : gl_W p l e s m below meth c sb H cells slots (pc + 1) ls (.int 1 :: st)) : gl_W p l e s m below meth c sb H cells slots pc ls st := fun lsA hl => lv_iconst C0.1 C0.2.1 hd (by decide) (h lsA hl)
theorem gl_ic2 (C0 : lw_At p s m meth c sb L xs) (hd : decode code pc = .ok (.iconst 2, 1)) (h : gl_W p l e s m below meth c sb H cells slots (pc + 1) ls (.int 2 :: st)) : gl_W p l e s m below meth c sb H cells slots pc ls st := fun lsA hl => lv_iconst C0.1 C0.2.1 hd (by decide) (h lsA hl)
theorem gl_ic3 (C0 : lw_At p s m meth c sb L xs) (hd : decode code pc = .ok (.iconst 3, 1)) (h : gl_W p l e s m below meth c sb H cells slots (pc + 1) ls (.int 3 :: st)) : gl_W p l e s m below meth c sb H cells slots pc ls st := fun lsA hl => lv_iconst C0.1 C0.2.1 hd (by decide) (h lsA hl)
theorem gl_ic4 (C0 : lw_At p s m meth c sb L xs) (hd : decode code pc = .ok (.iconst 4, 1)) (h : gl_W p l e s m below meth c sb H cells slots (pc + 1) ls (.int 4 :: st)) : gl_W p l e s m below meth c sb H cells slots pc ls st := fun lsA hl => lv_iconst C0.1 C0.2.1 hd (by decide) (h lsA hl)
theorem gl_ic5 (C0 : lw_At p s m meth c sb L xs) (hd : decode code pc = .ok (.iconst 5, 1)) (h : gl_W p l e s m below meth c sb H cells slots (pc + 1) ls (.int 5 :: st)) : gl_W p l e s m below meth c sb H cells slots pc ls st := fun lsA hl => lv_iconst C0.1 C0.2.1 hd (by decide) (h lsA hl)
theorem gl_bipush {n : Int} {v : Int32} (C0 : lw_At p s m meth c sb L xs) (hd : decode code pc = .ok (.bipush n, 2)) (hv : (Int8.ofInt n).toInt32 = v) (h : gl_W p l e s m below meth c sb H cells slots (pc + 2) ls (.int v :: st)) : gl_W p l e s m below meth c sb H cells slots pc ls st := fun lsA hl => lv_bipush C0.1 C0.2.1 hd hv (h lsA hl)
theorem gl_dup {va : Value} (C0 : lw_At p s m meth c sb L xs) (hd : decode code pc = .ok (.dup, 1)) (hva : va.category = 1) (h : gl_W p l e s m below meth c sb H cells slots (pc + 1) ls (va :: va :: st)) : gl_W p l e s m below meth c sb H cells slots pc ls (va :: st) := fun lsA hl => lv_dup C0.1 C0.2.1 hd hva (h lsA hl)
theorem gl_iadd {x y : Int32} (C0 : lw_At p s m meth c sb L xs) (hd : decode code pc = .ok (.iadd, 1)) (h : gl_W p l e s m below meth c sb H cells slots (pc + 1) ls (.int (x + y) :: st)) : gl_W p l e s m below meth c sb H cells slots pc ls (.int y :: .int x :: st) := fun lsA hl => lv_iadd C0.1 C0.2.1 hd (h lsA hl)
theorem gl_isub {x y : Int32} (C0 : lw_At p s m meth c sb L xs) (hd : decode code pc = .ok (.isub, 1)) (h : gl_W p l e s m below meth c sb H cells slots (pc + 1) ls (.int (x - y) :: st)) : gl_W p l e s m below meth c sb H cells slots pc ls (.int y :: .int x :: st) := fun lsA hl => lv_isub C0.1 C0.2.1 hd (h lsA hl)
theorem gl_iand {x y : Int32} (C0 : lw_At p s m meth c sb L xs) (hd : decode code pc = .ok (.iand, 1)) (h : gl_W p l e s m below meth c sb H cells slots (pc + 1) ls (.int (x &&& y) :: st)) : gl_W p l e s m below meth c sb H cells slots pc ls (.int y :: .int x :: st) := fun lsA hl => lv_iand C0.1 C0.2.1 hd (h lsA hl)
theorem gl_i2l {x : Int32} (C0 : lw_At p s m meth c sb L xs) (hd : decode code pc = .ok (.i2l, 1)) (h : gl_W p l e s m below meth c sb H cells slots (pc + 1) ls (.long x.toInt64 :: st)) : gl_W p l e s m below meth c sb H cells slots pc ls (.int x :: st) := fun lsA hl => lv_i2l C0.1 C0.2.1 hd rfl (h lsA hl)
theorem gl_land {x y : Int64} (C0 : lw_At p s m meth c sb L xs) (hd : decode code pc = .ok (.land, 1)) (h : gl_W p l e s m below meth c sb H cells slots (pc + 1) ls (.long (x &&& y) :: st)) : gl_W p l e s m below meth c sb H cells slots pc ls (.long y :: .long x :: st) := fun lsA hl => lv_land C0.1 C0.2.1 hd (h lsA hl)
theorem gl_lor {x y : Int64} (C0 : lw_At p s m meth c sb L xs) (hd : decode code pc = .ok (.lor, 1)) (h : gl_W p l e s m below meth c sb H cells slots (pc + 1) ls (.long (x ||| y) :: st)) : gl_W p l e s m below meth c sb H cells slots pc ls (.long y :: .long x :: st) := fun lsA hl => lv_lor C0.1 C0.2.1 hd (h lsA hl)
theorem gl_lshl {x : Int64} {y : Int32} (C0 : lw_At p s m meth c sb L xs) (hd : decode code pc = .ok (.lshl, 1)) (h : gl_W p l e s m below meth c sb H cells slots (pc + 1) ls (.long (x <<< (y.toInt64 &&& 63)) :: st)) : gl_W p l e s m below meth c sb H cells slots pc ls (.int y :: .long x :: st) := fun lsA hl => lv_lshl C0.1 C0.2.1 hd rfl (h lsA hl)
theorem gl_ldc2 {v : Int64} {index : Nat} (C0 : lw_At p s m meth c sb L xs) (hc : Cond.constantLong RL index v ∈ g_T) (hd : decode code pc = .ok (.ldc2_w index, 3)) (h : gl_W p l e s m below meth c sb H cells slots (pc + 3) ls (.long v :: st)) : gl_W p l e s m below meth c sb H cells slots pc ls st := fun lsA hl => W.ldc2 C0.1 C0.2.1 C0.2.2.2.2.1 (gl_T C0.2.2.2.2.2.1 _ hc) rfl hd (h lsA hl)
theorem gl_goto {off : Int} (tgt : Nat) (C0 : lw_At p s m meth c sb L xs) (ht : (pc : Int) + off = (tgt : Int)) (hd : decode code pc = .ok (.goto off, 3)) (h : gl_W p l e s m below meth c sb H cells slots tgt ls st) : gl_W p l e s m below meth c sb H cells slots pc ls st := fun lsA hl => lv_goto C0.1 C0.2.1 hd ht (h lsA hl)
theorem gl_icmp_gt {x y : Int32} {off : Int} (tgt : Nat) (C0 : lw_At p s m meth c sb L xs) (ht : (pc : Int) + off = (tgt : Int)) (hd : decode code pc = .ok (.if_icmp .gt off, 3)) (h1 : x > y → gl_W p l e s m below meth c sb H cells slots tgt ls st) (h2 : ¬ x > y → gl_W p l e s m below meth c sb H cells slots (pc + 3) ls st) : gl_W p l e s m below meth c sb H cells slots pc ls (.int y :: .int x :: st) := fun lsA hl => lv_icmp_gt C0.1 C0.2.1 hd ht (fun c9 => h1 c9 lsA hl) (fun c9 => h2 c9 lsA hl)
/-- two alike: on to the loop's end -/
theorem gl_same {x : Int32} {off : Int} (tgt : Nat) (C0 : lw_At p s m meth c sb L xs) (ht : (pc : Int) + off = (tgt : Int)) (hd : decode code pc = .ok (.if_icmp .eq off, 3)) (h1 : gl_W p l e s m below meth c sb H cells slots tgt ls st) : gl_W p l e s m below meth c sb H cells slots pc ls (.int x :: .int x :: st) := fun lsA hl => lv_icmp_eq C0.1 C0.2.1 hd ht (fun _ => h1 lsA hl) (fun c9 => absurd rfl c9)
theorem gl_tabIn {dflt lo hi : Int} {offs : Array Int} {len : Nat} {x : Int32} {off : Int} (tgt : Nat) (C0 : lw_At p s m meth c sb L xs) (hd : decode code pc = .ok (.tableswitch dflt lo hi offs, len)) (h1 : ¬ x.toInt < lo) (h2 : ¬ hi < x.toInt) (ho : offs[(x.toInt - lo).toNat]? = some off) (ht : (pc : Int) + off = (tgt : Int)) (h : gl_W p l e s m below meth c sb H cells slots tgt ls st) : gl_W p l e s m below meth c sb H cells slots pc ls (.int x :: st) := fun lsA hl => lv_tableIn C0.1 C0.2.1 hd h1 h2 ho ht (h lsA hl)
theorem gl_tabOut {dflt lo hi : Int} {offs : Array Int} {len : Nat} {x : Int32} (tgt : Nat) (C0 : lw_At p s m meth c sb L xs) (hd : decode code pc = .ok (.tableswitch dflt lo hi offs, len)) (h1 : x.toInt < lo ∨ hi < x.toInt) (ht : (pc : Int) + dflt = (tgt : Int)) (h : gl_W p l e s m below meth c sb H cells slots tgt ls st) : gl_W p l e s m below meth c sb H cells slots pc ls (.int x :: st) := fun lsA hl => lv_tableOut C0.1 C0.2.1 hd h1 ht (h lsA hl)
theorem gl_astore_1 {a0 a1 : Option Value} {t : List (Option Value)} {x : Nat} (C0 : lw_At p s m meth c sb L xs) (hc : g_c1 a0 = true) (hd : decode code pc = .ok (.astore_n 1, 1)) (h : gl_W p l e s m below meth c sb H cells slots (pc + 1) (a0 :: some (.ref x) :: t) st) : gl_W p l e s m below meth c sb H cells slots pc (a0 :: a1 :: t) (.ref x :: st) := fun lsA hl =>
  lv_astore_n C0.1 C0.2.1 hd rfl hl (by decide) rfl (fun lsB hlB => h lsB (g_st1 (ad := fun a => a) (i := 1) (v := .ref x) (ls := (a0 :: a1 :: t)) (fun a h9 _ => by cases h9; exact hc) hlB rfl))
theorem gl_astore_2 {a0 a1 a2 : Option Value} {t : List (Option Value)} {x : Nat} (C0 : lw_At p s m meth c sb L xs) (hc : g_c1 a1 = true) (hd : decode code pc = .ok (.astore_n 2, 1)) (h : gl_W p l e s m below meth c sb H cells slots (pc + 1) (a0 :: a1 :: some (.ref x) :: t) st) : gl_W p l e s m below meth c sb H cells slots pc (a0 :: a1 :: a2 :: t) (.ref x :: st) := fun lsA hl =>
  lv_astore_n C0.1 C0.2.1 hd rfl hl (by decide) rfl (fun lsB hlB => h lsB (g_st1 (ad := fun a => a) (i := 2) (v := .ref x) (ls := (a0 :: a1 :: a2 :: t)) (fun a h9 _ => by cases h9; exact hc) hlB rfl))
theorem gl_istore_3 {a0 a1 a2 a3 : Option Value} {t : List (Option Value)} {x : Int32} (C0 : lw_At p s m meth c sb L xs) (hc : g_c1 a2 = true) (hd : decode code pc = .ok (.istore_n 3, 1)) (h : gl_W p l e s m below meth c sb H cells slots (pc + 1) (a0 :: a1 :: a2 :: some (.int x) :: t) st) : gl_W p l e s m below meth c sb H cells slots pc (a0 :: a1 :: a2 :: a3 :: t) (.int x :: st) := fun lsA hl =>
  lv_istore_n C0.1 C0.2.1 hd rfl hl (by decide) rfl (fun lsB hlB => h lsB (g_st1 (ad := fun a => a) (i := 3) (v := .int x) (ls := (a0 :: a1 :: a2 :: a3 :: t)) (fun a h9 _ => by cases h9; exact hc) hlB rfl))
theorem gl_iinc_3 {a0 a1 a2 : Option Value} {t : List (Option Value)} {x v : Int32} {n : Int} (C0 : lw_At p s m meth c sb L xs) (hc : g_c1 a2 = true) (hv : Int32.ofInt n = v) (hd : decode code pc = .ok (.iinc 3 n, 3)) (h : gl_W p l e s m below meth c sb H cells slots (pc + 3) (a0 :: a1 :: a2 :: some (.int (x + v)) :: t) st) : gl_W p l e s m below meth c sb H cells slots pc (a0 :: a1 :: a2 :: some (.int x) :: t) st := fun lsA hl => by
  subst hv
  obtain ⟨j, hj⟩ := List.getElem?_of_mem (g_lv_mem.mpr ⟨3, .int x, rfl, rfl⟩ : (0 + 3, g_tv (fun a => a) (.int x)) ∈ g_lv (fun a => a) 0 (a0 :: a1 :: a2 :: some (.int x) :: t))
  rw [Nat.zero_add] at hj
  exact lv_iinc C0.1 C0.2.1 hd hl hj rfl (by decide) rfl (fun lsB hlB => h lsB (g_st1 (ad := fun a => a) (i := 3) (v := .int (x + Int32.ofInt n)) (ls := (a0 :: a1 :: a2 :: some (.int x) :: t)) (fun a h9 _ => by cases h9; exact hc) hlB rfl))
theorem gl_S (hF : gl_A s H) : va_S (fun q => s.heap.size ≤ q) s.heap H [] := ⟨hF.1, fun q h1 _ => hF.2 q h1, fun q h => absurd h List.not_mem_nil⟩
theorem gl_sld {i : Int32} (C0 : lw_At p s m meth c sb L xs) (hF : gl_A s H) (hin : vp_in i L) (hd : decode code pc = .ok (.iaload, 1)) (h : gl_W p l e s m below meth c sb H cells slots (pc + 1) ls (.int (xs i.toNatClampNeg) :: st)) : gl_W p l e s m below meth c sb H cells slots pc ls (.int i :: .ref sb :: st) := fun lsA hl =>
  va_sld C0.1 C0.2.1 C0.2.2.2.2.2.2.1 C0.2.2.2.2.2.2.2.1 (fun q => absurd C0.2.2.2.2.2.2.2.1 (Nat.not_lt.mpr q)) (gl_S hF) hin hd (h lsA hl)
theorem gl_slen (C0 : lw_At p s m meth c sb L xs) (hF : gl_A s H) (hd : decode code pc = .ok (.arraylength, 1)) (h : gl_W p l e s m below meth c sb H cells slots (pc + 1) ls (.int (Int32.ofNat L) :: st)) : gl_W p l e s m below meth c sb H cells slots pc ls (.ref sb :: st) := fun lsA hl =>
  va_slen C0.1 C0.2.1 C0.2.2.2.2.2.2.1 C0.2.2.2.2.2.2.2.1 (fun q => absurd C0.2.2.2.2.2.2.2.1 (Nat.not_lt.mpr q)) (gl_S hF) hd (h lsA hl)
theorem gl_ret (C0 : lw_At p s m meth c sb L xs) (h1 : cells ≤ 600000) (h2 : slots ≤ 7302250) (hd : decode code pc = .ok (.ireturn, 1)) : gl_W p l e s m below meth c sb H cells slots pc ls [.int 1] := fun lsA hl =>
  W.widen h1 h2 (lw_ret C0.1 C0.2.1 C0.2.2.1 C0.2.2.2.2.2.2.2.2.1 hd)
/-- what stands firm through the whole walk -/
def gl_F (D : va_G) (cA : Nat → ClassId) (s : State) : Prop := va_K D g_cl (g_tys cA) s ∧ ∀ A : Nat → Prop, (∀ a : Nat, a < s.heap.size → ¬ A a) → g_G A s
theorem gl_pre {X : g_X} {k : Nat} {σ : g_S} {av : List Value} (hF0 : gl_F X.1 X.2.1 s) (hJ : g_J X) (hA : ∀ q : Nat, X.2.2.2.2 q → s.heap.size ≤ q) (hF : gl_A s H) (hP : g_P X k σ H) : ∀ U : State, U.heap = H → s.WarmedH U.vm → g_Pc X k av σ (av.map (g_tv X.2.2.1)).toArray U := by
  intro U hU hW
  have hn : ∀ a : Nat, a < s.heap.size → ¬ X.2.2.2.2 a := fun a h1 h2 => absurd (hA a h2) (Nat.not_le.mpr h1)
  exact ⟨rfl, va_K.moved hW.alike hF0.1, by rw [hU]; exact hP, hJ, g_G_moved (locs := []) (hF0.2 _ hn) ⟨hF.1, fun q h1 _ => hF.2 q h1, fun q h => absurd h List.not_mem_nil⟩ hU hW⟩
/-- behind a call of the law's -/
theorem gl_back {X : g_X} {k mc2 ms2 : Nat} {st0 : List Value} {a : Array Value} {Q2 : Option Value → g_S → Prop} {lsA : Array Slot}
    (hr : va_Run p l e room_1 s m #[Value.ref sb] below meth c H [] cells slots mc2 ms2 (F0 m pc lsA st0) st (g_Q X k mc2 Q2 a) X.2.2.2.2)
    (hl : lv_has lsA 4 (g_lv (fun a => a) 0 ls)) (hA : ∀ q : Nat, X.2.2.2.2 q → s.heap.size ≤ q)
    (kk : ∀ (r : Option Value) (σ2 : g_S) (H1 : Heap), Q2 r σ2 → g_P X (k + mc2) σ2 H1 → H1.size = H.size + mc2 → (∀ q : Nat, q < H.size → ¬ X.2.2.2.2 q → H1[q]? = H[q]?) → gl_W p l e s m below meth c sb H1 (cells + mc2) (slots + ms2) (pc + 3) ls ((r.map (g_tv X.2.2.1)).toList ++ st)) :
    W p l e room_1 s m #[Value.ref sb] below meth c H [] cells slots (lw_Z below #[Value.ref sb] s) (F0 m pc lsA st0) := by
  intro T hT X9
  obtain ⟨v, st₀, t, T', L1, h0, X', hL, e1, e2, ⟨⟨r, σ2, hv, hq, hP2⟩, hz2, hk2⟩, go⟩ := hr T hT X9
  have hv : v = r.map (g_tv X.2.2.1) := by cases hv; rfl
  subst hv
  rw [h0] at hz2 hk2
  rw [← e1] at hP2 hz2 hk2
  have h1 := kk r σ2 T'.heap hq hP2 hz2 hk2 lsA hl
  obtain ⟨t2, a1, b1⟩ := va_forget (fun q hq => hA _ (hL q (by simpa using hq))) h1 T' rfl X'
  exact ⟨t2, go t2 a1, b1⟩
theorem gl_room {d2 mc2 ms2 maxL : Nat} (hd : d2 ≤ 2000) (hm : maxL ≤ 21) : (g_rm d2 mc2 ms2).frames + 1 ≤ room_1.frames ∧ 8 + (maxL + 11) + (g_rm d2 mc2 ms2).locals ≤ room_1.locals := by
  constructor
  · show d2 + 1 ≤ 2048
    omega
  · show 8 + (maxL + 11) + 40 * d2 ≤ 84000
    omega
theorem gl_call {X : g_X} {k mc2 ms2 d2 n index a ci N : Nat} {C : String} {Tt : u_T} {y : MethodName} {Y2 : g_Y} {av S : List Value} {σ : g_S} {Q2 : Option Value → g_S → Prop} (C0 : lw_At p s m meth c sb L xs) (hF0 : gl_F X.1 X.2.1 s) (hJ : g_J X) (hA : ∀ q : Nat, X.2.2.2.2 q → s.heap.size ≤ q) (hF : gl_A s H) (hP : g_P X k σ H) (hT : g_MT y Y2 n) (hl1 : Cond.methodLink RL index y ∈ g_T) (hst : Cond.instanceMethod y ∈ g_T ∧ Cond.selects C y y ∈ g_T) (hcl : g_cl[ci]? = some (C, Tt, N)) (hs : X.2.2.2.1 k a = some (2, ci, N)) (hd : decode code pc = .ok (.invokevirtual index, 3)) (hK : g_K X y Y2 d2 mc2 ms2 k (.ref a :: av) σ Q2) (hS1 : S = (av.map (g_tv X.2.2.1)).reverse ++ .ref (X.2.2.1 a) :: st) (hn : av.length = n) (hd2 : d2 ≤ 2000) (hc : cells + mc2 ≤ 600000 ∧ slots + ms2 ≤ 7302250) (hw : (st.map fun v => v.category).sum ≤ 8)
    (kk : ∀ (r : Option Value) (σ2 : g_S) (H1 : Heap), Q2 r σ2 → g_P X (k + mc2) σ2 H1 → H1.size = H.size + mc2 → (∀ q : Nat, q < H.size → ¬ X.2.2.2.2 q → H1[q]? = H[q]?) → gl_W p l e s m below meth c sb H1 (cells + mc2) (slots + ms2) (pc + 3) ls ((r.map (g_tv X.2.2.1)).toList ++ st)) : gl_W p l e s m below meth c sb H cells slots pc ls S := by
  intro lsA hl
  obtain ⟨hT1, hT2, hT3, hT4⟩ := hT
  have hts := gl_T C0.2.2.2.2.2.1
  subst hS1
  have hrecv : ∃ cell : Cell, H[X.2.2.1 a]? = some cell ∧ cell.vm.isStatics = false ∧ s.vm.findClass C = some cell.cls := by
    obtain ⟨cell, q1, q2, q3, q4⟩ : t_OB (X.2.2.1 a) (X.1.1 ci) N (X.1.2 ci) H (g_fv X.2.2.1 σ ci a) := hP.1 a _ hs
    exact ⟨cell, q1, by rw [q3]; rfl, by rw [q2]; exact (hF0.1.1 ci _ hcl).2.1⟩
  exact gl_back (va_runV (C := C) (b := X.2.2.1 a) (As := av.map (g_tv X.2.2.1)) (rest := st) (g := F0 m pc lsA ((av.map (g_tv X.2.2.1)).reverse ++ .ref (X.2.2.1 a) :: st)) ⟨C0.1, C0.2.1, C0.2.2.2.1, C0.2.2.2.2.1, hts⟩ (hK l) ⟨callB_of n hts (g_good hT1) rfl rfl rfl (hts _ hT2) (hts _ hl1) hT3 (gl_room hd2 hT4), hts _ hst.1, hts _ hst.2⟩ ⟨g_blind X _ _ _, hrecv, gl_pre (av := .ref a :: av) hF0 hJ hA hF hP⟩ rfl (by rw [List.length_map]; exact hn) hl.1 rfl (by show 2 * 0 + _ ≤ 8; omega) hd hc) hl hA kk
theorem gl_ctor {X : g_X} {k mc2 ms2 d2 n index a : Nat} {y : MethodName} {Y2 : g_Y} {σ : g_S} {Q2 : Option Value → g_S → Prop} (C0 : lw_At p s m meth c sb L xs) (hF0 : gl_F X.1 X.2.1 s) (hJ : g_J X) (hA : ∀ q : Nat, X.2.2.2.2 q → s.heap.size ≤ q) (hF : gl_A s H) (hP : g_P X k σ H) (hT : g_MT y Y2 n) (hl1 : Cond.methodLink RL index y ∈ g_T) (hst : y.name = "<init>" ∧ Cond.instanceMethod y ∈ g_T ∧ Y2.2.2.1 = none) (hd : decode code pc = .ok (.invokespecial index, 3)) (hK : g_K X y Y2 d2 mc2 ms2 k [.ref a] σ Q2) (hn : 0 = n) (hd2 : d2 ≤ 2000) (hc : cells + mc2 ≤ 600000 ∧ slots + ms2 ≤ 7302250) (hw : (st.map fun v => v.category).sum ≤ 8)
    (kk : ∀ (r : Option Value) (σ2 : g_S) (H1 : Heap), Q2 r σ2 → g_P X (k + mc2) σ2 H1 → H1.size = H.size + mc2 → (∀ q : Nat, q < H.size → ¬ X.2.2.2.2 q → H1[q]? = H[q]?) → gl_W p l e s m below meth c sb H1 (cells + mc2) (slots + ms2) (pc + 3) ls ((r.map (g_tv X.2.2.1)).toList ++ st)) : gl_W p l e s m below meth c sb H cells slots pc ls (.ref (X.2.2.1 a) :: st) := by
  intro lsA hl
  obtain ⟨hT1, hT2, hT3, hT4⟩ := hT
  have hts := gl_T C0.2.2.2.2.2.1
  have hM := hK l
  rw [hst.2.2] at hM
  have hG : GoodIn g_T (Cond.code y Y2.1 Y2.2.1 none :: g_T) := by
    have h0 := g_good hT1
    rw [hst.2.2] at h0
    exact h0
  exact gl_back (va_runI (b := X.2.2.1 a) (As := []) (rest := st) (g := F0 m pc lsA (.ref (X.2.2.1 a) :: st)) ⟨C0.1, C0.2.1, C0.2.2.2.1, C0.2.2.2.2.1, hts⟩ hM ⟨callB_of n hts hG rfl rfl rfl (hts _ hT2) (hts _ hl1) hT3 (gl_room hd2 hT4), hst.1, hts _ hst.2.1⟩ ⟨g_blind X _ _ _, gl_pre (av := [.ref a]) hF0 hJ hA hF hP⟩ rfl hn hl.1 rfl (by show 2 * 0 + _ ≤ 8; omega) hd hc) hl hA kk
theorem gl_new {X : g_X} {k index id ci N : Nat} {σ : g_S} (C0 : lw_At p s m meth c sb L xs) (hF0 : gl_F X.1 X.2.1 s) (hP : g_P X k σ H) (hm : g_mk ci N) (hr : g_fR ci N) (hL : ∀ (C : String) (T : u_T), g_cl[ci]? = some (C, T, N) → Cond.classLink RL index C ∈ g_T) (hn : g_nx X k id (2, ci, N)) (h0 : ∀ j : Nat, σ.1 id j = 0 ∧ σ.2 id j = none) (hc : cells + 1 ≤ 600000 ∧ slots + N ≤ 7302250) (hd : decode code pc = .ok (.new index, 3))
    (kk : ∀ H1 : Heap, g_P X (k + 1) σ H1 → H1.size = H.size + 1 → (∀ q : Nat, q < H.size → H1[q]? = H[q]?) → gl_W p l e s m below meth c sb H1 (cells + 1) (slots + N) (pc + 3) ls (.ref (X.2.2.1 id) :: st)) : gl_W p l e s m below meth c sb H cells slots pc ls st := by
  intro lsA hl
  have hts := gl_T C0.2.2.2.2.2.1
  obtain ⟨C, T, hcl, w1, w2, hin, hty⟩ := hm
  have hKn := hF0.1.1 ci _ hcl
  have had : X.2.2.1 id = H.size := hP.2 id _ hn.1 hn.2.1
  refine W.newcK C0.1 C0.2.1 C0.2.2.2.2.1 (hts _ (hL C T hcl)) (hts _ w1) (hts _ w2) rfl hd hc.1 hc.2 hKn.2.1 rfl fun H1 kC hkC e1 z1 o1 => ?_
  have h9 := kk H1 (g_P_new hP hn z1 o1 fun _ => ?_) z1 o1 lsA hl
  · rw [had] at h9
    exact h9
  · show t_OB (X.2.2.1 id) (X.1.1 ci) N (X.1.2 ci) H1 (g_fv X.2.2.1 σ ci id)
    rw [had]
    refine (u_born (g_ty ci) hts hin hKn hkC e1 hty).to fun j hj => ?_
    unfold g_fv
    by_cases e : g_fI ci j = true
    · rw [if_pos e, (h0 j).1]
      exact g_dv1 ci j e
    · rw [if_neg e, (h0 j).2]
      exact hr j hj e
end GL
