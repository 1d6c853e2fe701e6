/-! ===== a world of cells by small numbers (ids), and a judgement g_V over it ===== -/
abbrev g_M : Type := Nat → Nat → Int32
abbrev g_R : Type := Nat → Nat → Option Nat
abbrev g_S : Type := g_M × g_R
/-- class numbers and slots; array classes; where an id lies; shapes (by how many cells were made since); which cells are the world's -/
abbrev g_X : Type := va_G × (Nat → ClassId) × (Nat → Nat) × (Nat → Nat → Option (Nat × Nat × Nat)) × (Nat → Prop)
/-- bytes, locals, return type, own class, name -/
abbrev g_Y : Type := ByteArray × Nat × Option FieldType × String × String
def g_set (μ : g_M) (a b : Nat) (v : Int32) : g_M := fun i j => if i = a ∧ j = b then v else μ i j
def g_sef (ρ : g_R) (a b : Nat) (v : Option Nat) : g_R := fun i j => if i = a ∧ j = b then v else ρ i j
abbrev g_cl : List vw_C := [(RX0, TX0, 5), (RX1, TX1, 0), (RX3, TX3, 0), (RX3, TX3, 0), (RX4, TX4, 0), (RX5, TX5, 0), (RX6, TX6, 0), (RX7, TX7, 6), (RX8, TX8, 8), (RX9, TX9, 18), (RX10, TX10, 0), (RX11, TX11, 13), (RX12, TX12, 45)]
def g_ty (ci : Nat) : Nat → FieldType := match ci with
  | 0 => tyX0
  | 1 => tyX1
  | 2 => tyX2
  | 3 => tyX3
  | 4 => tyX4
  | 5 => tyX5
  | 6 => tyX6
  | 7 => tyX7
  | 8 => tyX8
  | 9 => tyX9
  | 10 => tyX10
  | 11 => tyX11
  | _ => tyX12
def g_fI (ci k : Nat) : Bool := match g_ty ci k with
  | .int => true
  | .boolean => true
  | _ => false
def g_tys (cA : Nat → ClassId) : List (ClassId × FieldType) := [(cA 0, .int), (cA 1, .object "OvenPairs$Oven"), (cA 2, .array .int)]
/-- what a field holds -/
def g_fv (ad : Nat → Nat) (σ : g_S) (ci id : Nat) : Nat → Value := fun k => if g_fI ci k = true then .int (σ.1 id k) else va_rf ((σ.2 id k).map ad)
/-- a cell: ints (0), references (1), an object (else) -/
def g_at (X : g_X) (σ : g_S) (id : Nat) (sp : Nat × Nat × Nat) (H : Heap) : Prop := match sp.1 with
  | 0 => H[X.2.2.1 id]? = some (arrV (X.2.1 0) sp.2.2 (fun j => .int (σ.1 id j)))
  | 1 => H[X.2.2.1 id]? = some (arrV (X.2.1 sp.2.1) sp.2.2 (fun j => va_rf ((σ.2 id j).map X.2.2.1)))
  | _ => t_OB (X.2.2.1 id) (X.1.1 sp.2.1) sp.2.2 (X.1.2 sp.2.1) H (g_fv X.2.2.1 σ sp.2.1 id)
/-- the next cell will lie at n -/
def g_hz (X : g_X) (k n : Nat) : Prop := ∀ (id : Nat) (sp : Nat × Nat × Nat), X.2.2.2.1 k id = none → X.2.2.2.1 (k + 1) id = some sp → X.2.2.1 id = n
def g_P (X : g_X) (k : Nat) (σ : g_S) (H : Heap) : Prop := (∀ (id : Nat) (sp : Nat × Nat × Nat), X.2.2.2.1 k id = some sp → g_at X σ id sp H) ∧ g_hz X k H.size
def g_J (X : g_X) : Prop := (∀ (k a b : Nat) (p q : Nat × Nat × Nat), X.2.2.2.1 k a = some p → X.2.2.2.1 k b = some q → X.2.2.1 a = X.2.2.1 b → a = b) ∧ ∀ (k a : Nat) (p : Nat × Nat × Nat), X.2.2.2.1 k a = some p → X.2.2.2.2 (X.2.2.1 a)
def g_LN : Nat → Int32 := fun j => ([1, 3, 5, 13, 17, 49] : List Int32).getD j 0
def g_txt : String := "oven    widowed range   doored  portablerake    go      stay    shy     if      or      and     not     night   warm    place   fire    number  "
def g_by : List Int32 := [111, 118, 101, 110, 32, 32, 32, 32, 119, 105, 100, 111, 119, 101, 100, 32, 114, 97, 110, 103, 101, 32, 32, 32, 100, 111, 111, 114, 101, 100, 32, 32, 112, 111, 114, 116, 97, 98, 108, 101, 114, 97, 107, 101, 32, 32, 32, 32, 103, 111, 32, 32, 32, 32, 32, 32, 115, 116, 97, 121, 32, 32, 32, 32, 115, 104, 121, 32, 32, 32, 32, 32, 105, 102, 32, 32, 32, 32, 32, 32, 111, 114, 32, 32, 32, 32, 32, 32, 97, 110, 100, 32, 32, 32, 32, 32, 110, 111, 116, 32, 32, 32, 32, 32, 110, 105, 103, 104, 116, 32, 32, 32, 119, 97, 114, 109, 32, 32, 32, 32, 112, 108, 97, 99, 101, 32, 32, 32, 102, 105, 114, 101, 32, 32, 32, 32, 110, 117, 109, 98, 101, 114, 32, 32]
/-- the class of int[][] is there -/
def g_AA (U : State) : Prop := (Cond.arrayOver (.array .int)).before #[] U = true
theorem g_idx {u U : State} (hvm : u.vm.Alike U.vm) (Q : Kind → Bool) : (U.vm.classes.findIdx? fun (x : Class) => Q x.kind) = (u.vm.classes.findIdx? fun (x : Class) => Q x.kind) := by
  have hb : ∀ vm : Vm, (vm.bare.classes.findIdx? fun (x : Class) => Q x.kind) = (vm.classes.findIdx? fun (x : Class) => Q x.kind) := by
    intro vm
    simp only [Vm.bare, Array.findIdx?_map]
    rfl
  rw [← hb]
  first | rw [hvm.bare_eq] | rw [← hvm.bare_eq]
  rw [hb]
theorem g_AA_moved {u U : State} (hvm : u.vm.Alike U.vm) (h : g_AA u) : g_AA U := by
  unfold g_AA Cond.before Cond.holds at h ⊢
  simp only [Cond.value, beq_iff_eq] at h ⊢
  cases hc : u.vm.findClass (FieldType.array .int).toString with
  | none => simp [hc] at h
  | some comp =>
    rw [hvm.findClass, hc]
    rw [hc] at h
    simp only [Option.bind_some] at h ⊢
    have hi := g_idx hvm (fun kd => match kd with | .array component _ => component == comp | _ => false)
    refine (congrArg (fun o => Option.bind o _) hi).trans ?_
    cases hd : (u.vm.classes.findIdx? fun (x : Class) => (fun (kd : Kind) => match kd with | .array component _ => component == comp | _ => false) x.kind) with
    | none =>
      have h9 := (congrArg (fun o => Option.bind o _) hd).symm.trans h
      cases h9
    | some c =>
      have h9 := (congrArg (fun o => Option.bind o _) hd).symm.trans h
      simp only [Option.bind_some] at h9 ⊢
      cases hk : u.vm.classes[c]? with
      | none => simp [hk] at h9
      | some k =>
        obtain ⟨k', hk', he⟩ := hvm.2.2 _ _ hk
        rw [hk] at h9
        rw [hk', hvm.findClass, he]
        exact h9
/-- links among nest mates -/
def g_NW : List Cond := [Cond.methodLinkNest "OvenPairs" 9 ⟨"OvenPairs$Town", "<init>", "()V"⟩ "OvenPairs", Cond.methodLinkNest "OvenPairs$Town" 11 ⟨"OvenPairs$Oven", "<init>", "()V"⟩ "OvenPairs", Cond.methodLinkNest "OvenPairs$Town" 14 ⟨"OvenPairs$Widowed", "<init>", "()V"⟩ "OvenPairs", Cond.methodLinkNest "OvenPairs$Widowed" 1 ⟨"OvenPairs$Oven", "<init>", "()V"⟩ "OvenPairs", Cond.methodLinkNest "OvenPairs$Town" 17 ⟨"OvenPairs$Range", "<init>", "()V"⟩ "OvenPairs", Cond.methodLinkNest "OvenPairs$Range" 1 ⟨"OvenPairs$Oven", "<init>", "()V"⟩ "OvenPairs", Cond.methodLinkNest "OvenPairs$Town" 20 ⟨"OvenPairs$Doored", "<init>", "()V"⟩ "OvenPairs", Cond.methodLinkNest "OvenPairs$Doored" 1 ⟨"OvenPairs$Range", "<init>", "()V"⟩ "OvenPairs", Cond.methodLinkNest "OvenPairs$Town" 23 ⟨"OvenPairs$Portable", "<init>", "()V"⟩ "OvenPairs", Cond.methodLinkNest "OvenPairs$Portable" 1 ⟨"OvenPairs$Oven", "<init>", "()V"⟩ "OvenPairs", Cond.methodLinkNest "OvenPairs$Town" 26 ⟨"OvenPairs$Rake", "<init>", "()V"⟩ "OvenPairs", Cond.methodLinkNest "OvenPairs$Rake" 1 ⟨"OvenPairs$Portable", "<init>", "()V"⟩ "OvenPairs", Cond.methodLinkNest "OvenPairs" 21 ⟨"OvenPairs$RulesReader", "<init>", "()V"⟩ "OvenPairs", Cond.methodLinkNest "OvenPairs" 28 ⟨"OvenPairs$Deed", "<init>", "()V"⟩ "OvenPairs", Cond.methodLinkNest "OvenPairs$Rules" 37 ⟨"OvenPairs", "isUnder", "(II)Z"⟩ "OvenPairs", Cond.methodLinkNest "OvenPairs$Outlook" 95 ⟨"OvenPairs", "chainOf", "(I)I"⟩ "OvenPairs"]
/-- the statics and the one text that the class reads; links and array classes that move with the tables in their own way -/
def g_G (A : Nat → Prop) (U : State) : Prop :=
  (∃ t : Nat, va_Z "OvenPairs" "LINES" "[I" (.ref t) A U U.heap ∧ va_T .int t 6 (fun j => .int (g_LN j)) A U U.heap) ∧
  (∃ adK adV : Nat → Nat, vk_S 1 [144] [g_by] adK adV A U U.heap ∧ vk_R "OvenPairs$RulesReader" 79 g_txt (adK 0) U) ∧
  va_Z "java/lang/String" "COMPACT_STRINGS" "Z" (.int 1) A U U.heap ∧ (∀ w ∈ g_NW, va_Nw w U) ∧ va_AO "OvenPairs$Oven" U ∧ g_AA U ∧
  va_Zq "jdk/internal/util/Preconditions" "SIOOBE_FORMATTER" "Ljava/util/function/BiFunction;" A U U.heap
def g_tv (ad : Nat → Nat) : Value → Value
  | .ref a => .ref (ad a)
  | v => v
def g_lv (ad : Nat → Nat) : Nat → List (Option Value) → List (Nat × Value)
  | _, [] => []
  | i, some v :: t => (i, g_tv ad v) :: g_lv ad (i + 1) t
  | i, none :: t => g_lv ad (i + 1) t
def g_rm (d mc ms : Nat) : Room := { frames := d, cells := mc, slots := ms, locals := 40 * d }
/-- the words that every method takes with it -/
def g_T : List Cond := lw_tbl.filter goodWord
/-- what a method's body stands on -/
def g_C (X : g_X) (Y : g_Y) (p : Program) (s : State) (m : MethodId) (args : Array Value) (meth : Method) (c : Code) : Prop :=
  p.tables.exec = Jvm.exec ∧ c.code = Y.1 ∧ meth.sig.returnType = Y.2.2.1 ∧ c.maxLocals = Y.2.1 ∧ s.vm.findClass Y.2.2.2.1 = some m.cls ∧ (∀ w ∈ g_T, w.before args s = true) ∧ meth.locks = false ∧ meth.name = Y.2.2.2.2 ∧ va_K X.1 g_cl (g_tys X.2.1) s ∧ g_J X ∧ g_G X.2.2.2.2 s
def g_Q (X : g_X) (k mc : Nat) (Q : Option Value → g_S → Prop) : Array Value → State → Outcome → State → Prop := fun _ st oc t =>
  (∃ (r : Option Value) (σ : g_S), oc = .returned (r.map (g_tv X.2.2.1)) ∧ Q r σ ∧ g_P X (k + mc) σ t.heap) ∧ t.heap.size = st.heap.size + mc ∧ ∀ q : Nat, q < st.heap.size → ¬ X.2.2.2.2 q → t.heap[q]? = st.heap[q]?
def g_V (X : g_X) (Y : g_Y) (d mc ms : Nat) (Q : Option Value → g_S → Prop) (k kc ks pc : Nat) (ls : List (Option Value)) (st : List Value) (σ : g_S) : Prop :=
  ∀ (l : Launch) (p : Program) (e : Env) (s : State) (m : MethodId) (args : Array Value) (below : List Frame) (meth : Method) (c : Code) (H : Heap) (locs : List Loc) (lsA : Array Slot),
    g_C X Y p s m args meth c → g_P X (k + kc) σ H → H.size = s.heap.size + kc → va_S X.2.2.2.2 s.heap H locs → lv_has lsA Y.2.1 (g_lv X.2.2.1 0 ls) →
    W p l e (g_rm d mc ms) s m args below meth c H locs kc ks (MQ below (g_Q X k mc Q) args s mc ms X.2.2.2.2) (F0 m pc lsA (st.map (g_tv X.2.2.1)))
def g_Pc (X : g_X) (k : Nat) (av : List Value) (σ : g_S) : Array Value → State → Prop := fun v U =>
  v = (av.map (g_tv X.2.2.1)).toArray ∧ va_K X.1 g_cl (g_tys X.2.1) U ∧ g_P X k σ U.heap ∧ g_J X ∧ g_G X.2.2.2.2 U
/-- a method's contract: from world k and state σ with these arguments it returns, with Q -/
def g_K (X : g_X) (y : MethodName) (Y : g_Y) (d mc ms k : Nat) (av : List Value) (σ : g_S) (Q : Option Value → g_S → Prop) : Prop :=
  ∀ l : Launch, Met l y (Cond.code y Y.1 Y.2.1 Y.2.2.1 :: g_T) (g_rm d mc ms) (g_Pc X k av σ) (g_Q X k mc Q) mc ms X.2.2.2.2
theorem g_T_good : g_T.all goodWord = true := by
  rw [List.all_eq_true]
  intro w hw
  exact (List.mem_filter.mp hw).2
theorem g_T_mem {i : Nat} {w : Cond} (h : lw_tbl[i]? = some w) (hg : goodWord w = true) : w ∈ g_T := List.mem_filter.mpr ⟨List.mem_of_getElem? h, hg⟩
theorem g_lv_mem {ad : Nat → Nat} : ∀ {ls : List (Option Value)} {i : Nat} {q : Nat × Value}, q ∈ g_lv ad i ls ↔ ∃ (k : Nat) (v : Value), ls[k]? = some (some v) ∧ q = (i + k, g_tv ad v) := by
  intro ls
  induction ls with
  | nil =>
    intro i q
    simp [g_lv]
  | cons a t ih =>
    intro i q
    cases a with
    | none =>
      rw [g_lv, ih]
      constructor
      · rintro ⟨k, v, h1, h2⟩
        exact ⟨k + 1, v, by simpa using h1, by rw [h2]; simp; omega⟩
      · rintro ⟨k, v, h1, h2⟩
        cases k with
        | zero => simp at h1
        | succ k => exact ⟨k, v, by simpa using h1, by rw [h2]; simp; omega⟩
    | some w =>
      rw [g_lv, List.mem_cons, ih]
      constructor
      · rintro (h | ⟨k, v, h1, h2⟩)
        · exact ⟨0, w, by simp, by rw [h]; rfl⟩
        · exact ⟨k + 1, v, by simpa using h1, by rw [h2]; simp; omega⟩
      · rintro ⟨k, v, h1, h2⟩
        cases k with
        | zero =>
          left
          have : w = v := by simpa using h1
          rw [h2, this]; rfl
        | succ k => exact Or.inr ⟨k, v, by simpa using h1, by rw [h2]; simp; omega⟩
theorem g_loc {ad : Nat → Nat} {lsA : Array Slot} {n k : Nat} {ls : List (Option Value)} {v : Value} (h : lv_has lsA n (g_lv ad 0 ls)) (hk : ls[k]? = some (some v)) : lsA[k]? = some (.val (g_tv ad v)) := by
  have h1 := h.2.2 (k, g_tv ad v) (g_lv_mem.mpr ⟨k, v, hk, by simp⟩)
  exact h1
/-- less is known of the locals -/
def g_sub : List (Option Value) → List (Option Value) → Prop
  | [], _ => True
  | none :: a, _ :: b => g_sub a b
  | none :: a, [] => g_sub a []
  | some v :: a, w :: b => w = some v ∧ g_sub a b
  | some _ :: _, [] => False
theorem g_sub_get : ∀ {a b : List (Option Value)} {k : Nat} {v : Value}, g_sub a b → a[k]? = some (some v) → b[k]? = some (some v) := by
  intro a
  induction a with
  | nil => intro b k v _ h; simp at h
  | cons x a ih =>
    intro b k v hs h
    cases x with
    | none =>
      cases b with
      | nil =>
        cases k with
        | zero => simp at h
        | succ k => exact absurd (ih (b := []) hs (by simpa using h)) (by simp)
      | cons y b =>
        cases k with
        | zero => simp at h
        | succ k => simpa using ih (b := b) hs (by simpa using h)
    | some x =>
      cases b with
      | nil => exact hs.elim
      | cons y b =>
        obtain ⟨h1, h2⟩ := hs
        cases k with
        | zero =>
          have : x = v := by simpa using h
          simp [h1, this]
        | succ k => simpa using ih (b := b) h2 (by simpa using h)
theorem g_lv_sub {ad : Nat → Nat} {lsA : Array Slot} {n : Nat} {a b : List (Option Value)} (hs : g_sub a b) (h : lv_has lsA n (g_lv ad 0 b)) : lv_has lsA n (g_lv ad 0 a) := by
  refine ⟨h.1, h.2.1, fun q hq => ?_⟩
  obtain ⟨k, v, h1, h2⟩ := g_lv_mem.mp hq
  exact h.2.2 q (g_lv_mem.mpr ⟨k, v, g_sub_get hs h1, h2⟩)
/-- no long (double) begins just ahead of place i -/
def g_c1 : Option Value → Bool
  | some (.long _) => false
  | some (.double _) => false
  | _ => true
theorem g_cat {ad : Nat → Nat} {v : Value} (h : g_c1 (some v) = true) : ¬ (g_tv ad v).category = 2 := by
  cases v <;> first | (simp [g_c1] at h; done) | simp [g_tv, Value.category]
theorem g_st1 {ad : Nat → Nat} {lsA : Array Slot} {n i : Nat} {v : Value} {ls ls0 : List (Option Value)} (hp : ∀ a, ls[i - 1]? = some a → 0 < i → g_c1 a = true)
    (h : lv_has lsA n ((i, g_tv ad v) :: (g_lv ad 0 ls0).filter (fun q => !(q.1 == i) && !(q.1 + 1 == i && q.2.category == 2)))) (e : ls0 = ls) : lv_has lsA n (g_lv ad 0 (ls.set i (some v))) := by
  subst e
  refine ⟨h.1, h.2.1, fun q hq => ?_⟩
  obtain ⟨k, w, h1, h2⟩ := g_lv_mem.mp hq
  rw [Nat.zero_add] at h2
  apply h.2.2 q
  by_cases hk : k = i
  · subst hk
    have : w = v := by
      rw [List.getElem?_set] at h1
      simp at h1
      exact h1.2.symm
    rw [h2, this]
    exact List.mem_cons_self
  · rw [List.getElem?_set_ne (fun x => hk x.symm)] at h1
    refine List.mem_cons_of_mem _ (List.mem_filter.mpr ⟨g_lv_mem.mpr ⟨k, w, h1, by rw [h2, Nat.zero_add]⟩, ?_⟩)
    subst h2
    by_cases hi : k + 1 = i
    · subst hi
      have := g_cat (ad := ad) (v := w) (hp _ h1 (Nat.succ_pos _))
      simp [this]
    · simp [hk, hi]
theorem g_st2 {ad : Nat → Nat} {lsA : Array Slot} {n i : Nat} {v : Value} {ls ls0 : List (Option Value)} (hp : ∀ a, ls[i - 1]? = some a → 0 < i → g_c1 a = true)
    (h : lv_has lsA n ((i, g_tv ad v) :: (g_lv ad 0 ls0).filter (fun q => !(q.1 == i) && (!(q.1 == i + 1) && !(q.1 + 1 == i && q.2.category == 2))))) (e : ls0 = ls) : lv_has lsA n (g_lv ad 0 ((ls.set i (some v)).set (i + 1) none)) := by
  subst e
  refine ⟨h.1, h.2.1, fun q hq => ?_⟩
  obtain ⟨k, w, h1, h2⟩ := g_lv_mem.mp hq
  rw [Nat.zero_add] at h2
  apply h.2.2 q
  have hk1 : k ≠ i + 1 := by
    intro x
    subst x
    rw [List.getElem?_set] at h1
    simp at h1
  rw [List.getElem?_set_ne (fun x => hk1 x.symm)] at h1
  by_cases hk : k = i
  · subst hk
    have : w = v := by
      rw [List.getElem?_set] at h1
      simp at h1
      exact h1.2.symm
    rw [h2, this]
    exact List.mem_cons_self
  · rw [List.getElem?_set_ne (fun x => hk x.symm)] at h1
    refine List.mem_cons_of_mem _ (List.mem_filter.mpr ⟨g_lv_mem.mpr ⟨k, w, h1, by rw [h2, Nat.zero_add]⟩, ?_⟩)
    subst h2
    by_cases hi : k + 1 = i
    · subst hi
      have := g_cat (ad := ad) (v := w) (hp _ h1 (Nat.succ_pos _))
      simp [this]
      omega
    · simp [hk, hi, hk1]
/-- writing one cell leaves the others -/
theorem g_P_put {X : g_X} {k : Nat} {σ σ' : g_S} {H H1 : Heap} {id : Nat} {sp : Nat × Nat × Nat} (hJ : g_J X) (hP : g_P X k σ H) (hz1 : H1.size = H.size) (hs : X.2.2.2.1 k id = some sp) (ho : ∀ q : Nat, q ≠ X.2.2.1 id → H1[q]? = H[q]?)
    (hσ : ∀ j : Nat, j ≠ id → σ'.1 j = σ.1 j ∧ σ'.2 j = σ.2 j) (hid : g_at X σ' id sp H1) : g_P X k σ' H1 := by
  refine ⟨?_, by rw [hz1]; exact hP.2⟩
  intro j sj hj
  by_cases e : j = id
  · subst e
    rw [hs] at hj
    cases hj
    exact hid
  · have hne : X.2.2.1 j ≠ X.2.2.1 id := fun q => e (hJ.1 k j id sj sp hj hs q)
    have h0 := hP.1 j sj hj
    obtain ⟨t, ci, n⟩ := sj
    obtain ⟨e1, e2⟩ := hσ j e
    match t, h0 with
    | 0, h0 =>
      show H1[X.2.2.1 j]? = _
      rw [ho _ hne, e1]
      exact h0
    | 1, h0 =>
      show H1[X.2.2.1 j]? = _
      rw [ho _ hne, e2]
      exact h0
    | t + 2, h0 =>
      have h1 : t_OB (X.2.2.1 j) (X.1.1 ci) n (X.1.2 ci) H (g_fv X.2.2.1 σ ci j) := h0
      show t_OB (X.2.2.1 j) (X.1.1 ci) n (X.1.2 ci) H1 (g_fv X.2.2.1 σ' ci j)
      have e3 : g_fv X.2.2.1 σ' ci j = g_fv X.2.2.1 σ ci j := by
        funext kk
        simp only [g_fv, e1, e2]
      rw [e3]
      exact h1.kept (ho _ hne)
theorem g_Zq_moved {C n d : String} {A : Nat → Prop} {u U : State} {H H1 : Heap} (hvm : u.vm.Alike U.vm) (h : va_Zq C n d A u H) (hq : ∀ a : Nat, a < H.size → ¬ A a → H1[a]? = H[a]?) : va_Zq C n d A U H1 := by
  rcases h with h | ⟨t, h⟩
  · exact Or.inl ((h.moved hvm).kept hq)
  · exact Or.inr ⟨t, (h.moved hvm).kept hq⟩
theorem g_NW_kind : ∀ w ∈ g_NW, w.onTables = true := by decide +kernel
theorem g_NW_warm {s U : State} (hW : s.WarmedH U.vm) : (∀ w ∈ g_NW, va_Nw w s) → ∀ w ∈ g_NW, va_Nw w U := by
  intro h w hw
  have h0 := h w hw
  unfold g_NW at hw
  simp only [List.mem_cons, List.not_mem_nil, or_false] at hw
  rcases hw with rfl | rfl | rfl | rfl | rfl | rfl | rfl | rfl | rfl | rfl | rfl | rfl | rfl | rfl | rfl | rfl <;> exact va_Nw.warmM hW h0
theorem g_G_moved {A : Nat → Prop} {s U : State} {H : Heap} {locs : List Loc} (h : g_G A s) (hS : va_S A s.heap H locs) (hU : U.heap = H) (hW : s.WarmedH U.vm) : g_G A U := by
  obtain ⟨⟨t, h1, h2⟩, ⟨adK, adV, h3, h4⟩, h5, h6, h7, h8, h9⟩ := h
  subst hU
  exact ⟨⟨t, (h1.moved hW.alike).kept hS.2.1, (h2.moved hW.alike).kept hS.2.1⟩, ⟨adK, adV, (h3.moved hW.alike).kept hS.2.1, vk_R.warm hW h4⟩, (h5.moved hW.alike).kept hS.2.1, g_NW_warm hW h6, h7.moved hW.alike, g_AA_moved hW.alike h8, g_Zq_moved hW.alike h9 hS.2.1⟩
theorem g_G_same {A : Nat → Prop} {s U : State} (h : g_G A s) (hU : U.heap = s.heap) (hv : U.vm = s.vm) : g_G A U := by
  obtain ⟨⟨t, h1, h2⟩, ⟨adK, adV, h3, h4⟩, h5, h6, h7, h8, h9⟩ := h
  have hal : s.vm.Alike U.vm := by rw [hv]; exact Vm.Alike.refl s.vm
  refine ⟨⟨t, ?_, ?_⟩, ⟨adK, adV, ?_, vk_R.same hv h4⟩, ?_, fun w hw => va_Nw.same (g_NW_kind w hw) hv.symm (h6 w hw), h7.moved hal, g_AA_moved hal h8, ?_⟩
  · rw [hU]; exact h1.moved hal
  · rw [hU]; exact h2.moved hal
  · rw [hU]; exact h3.moved hal
  · rw [hU]; exact h5.moved hal
  · rw [hU]; exact g_Zq_moved hal h9 (fun _ _ _ => rfl)
theorem g_blind (X : g_X) (k : Nat) (av : List Value) (σ : g_S) : FrameBlind (g_Pc X k av σ) := by
  intro a U g mk h
  obtain ⟨h1, h2, h3, h4, h5⟩ := h
  exact ⟨h1, va_K.moved (u := U) (U := U.calling g mk a) (Vm.Alike.refl U.vm) h2, h3, h4, g_G_same h5 rfl rfl⟩
