theorem wm_max : Cond.static Lib.Math.max.name ∈ g_T ∧ Cond.initialized "java/lang/Math" ∈ g_T ∧ Cond.code Lib.Math.max.name Lib.Math.max.code 2 (some .int) ∈ g_T := ⟨g_T_mem (i := 174) (w := .static Lib.Math.max.name) (by decide +kernel) (by decide +kernel), g_T_mem (i := 99) (w := .initialized "java/lang/Math") (by decide +kernel) (by decide +kernel), g_T_mem (i := 175) (w := .code Lib.Math.max.name Lib.Math.max.code 2 (some .int)) (by decide +kernel) (by decide +kernel)⟩
theorem wm_min : Cond.static Lib.Math.min.name ∈ g_T ∧ Cond.initialized "java/lang/Math" ∈ g_T ∧ Cond.code Lib.Math.min.name Lib.Math.min.code 2 (some .int) ∈ g_T := ⟨g_T_mem (i := 727) (w := .static Lib.Math.min.name) (by decide +kernel) (by decide +kernel), g_T_mem (i := 99) (w := .initialized "java/lang/Math") (by decide +kernel) (by decide +kernel), g_T_mem (i := 728) (w := .code Lib.Math.min.name Lib.Math.min.code 2 (some .int)) (by decide +kernel) (by decide +kernel)⟩
theorem wm_abs : Cond.static Lib.Math.abs.name ∈ g_T ∧ Cond.initialized "java/lang/Math" ∈ g_T ∧ Cond.code Lib.Math.abs.name Lib.Math.abs.code 1 (some .int) ∈ g_T := ⟨g_T_mem (i := 408) (w := .static Lib.Math.abs.name) (by decide +kernel) (by decide +kernel), g_T_mem (i := 99) (w := .initialized "java/lang/Math") (by decide +kernel) (by decide +kernel), g_T_mem (i := 409) (w := .code Lib.Math.abs.name Lib.Math.abs.code 1 (some .int)) (by decide +kernel) (by decide +kernel)⟩
section GV
variable {X : g_X} {Y : g_Y} {d mc ms : Nat} {Q : Option Value → g_S → Prop} {k kc ks pc : Nat} {ls : List (Option Value)} {st : List Value} {σ : g_S}
def g_rem (x y : Int32) : Int32 := x - x / y * y
def g_lrm (x y : Int64) : Int64 := x - x / y * y
theorem g_icm1  (hd : decode Y.1 pc = .ok (.iconst (-1), 1))  (h : g_V X Y d mc ms Q k kc ks (pc + 1) ls (.int (-1) :: st) σ) : g_V X Y d mc ms Q k kc ks pc ls st σ := by
  intro l p e s m args below meth c H locs lsA hC hP hz hS hl
  have hx := hC.1
  have hb := hC.2.1
  exact lv_iconst hx hb hd (by decide) (h l p e s m args below meth c H locs lsA hC hP hz hS hl)
theorem g_ic0  (hd : decode Y.1 pc = .ok (.iconst (0), 1))  (h : g_V X Y d mc ms Q k kc ks (pc + 1) ls (.int 0 :: st) σ) : g_V X Y d mc ms Q k kc ks pc ls st σ := by
  intro l p e s m args below meth c H locs lsA hC hP hz hS hl
  have hx := hC.1
  have hb := hC.2.1
  exact lv_iconst hx hb hd (by decide) (h l p e s m args below meth c H locs lsA hC hP hz hS hl)
theorem g_ic1  (hd : decode Y.1 pc = .ok (.iconst (1), 1))  (h : g_V X Y d mc ms Q k kc ks (pc + 1) ls (.int 1 :: st) σ) : g_V X Y d mc ms Q k kc ks pc ls st σ := by
  intro l p e s m args below meth c H locs lsA hC hP hz hS hl
  have hx := hC.1
  have hb := hC.2.1
  exact lv_iconst hx hb hd (by decide) (h l p e s m args below meth c H locs lsA hC hP hz hS hl)
theorem g_ic2  (hd : decode Y.1 pc = .ok (.iconst (2), 1))  (h : g_V X Y d mc ms Q k kc ks (pc + 1) ls (.int 2 :: st) σ) : g_V X Y d mc ms Q k kc ks pc ls st σ := by
  intro l p e s m args below meth c H locs lsA hC hP hz hS hl
  have hx := hC.1
  have hb := hC.2.1
  exact lv_iconst hx hb hd (by decide) (h l p e s m args below meth c H locs lsA hC hP hz hS hl)
theorem g_ic3  (hd : decode Y.1 pc = .ok (.iconst (3), 1))  (h : g_V X Y d mc ms Q k kc ks (pc + 1) ls (.int 3 :: st) σ) : g_V X Y d mc ms Q k kc ks pc ls st σ := by
  intro l p e s m args below meth c H locs lsA hC hP hz hS hl
  have hx := hC.1
  have hb := hC.2.1
  exact lv_iconst hx hb hd (by decide) (h l p e s m args below meth c H locs lsA hC hP hz hS hl)
theorem g_ic4  (hd : decode Y.1 pc = .ok (.iconst (4), 1))  (h : g_V X Y d mc ms Q k kc ks (pc + 1) ls (.int 4 :: st) σ) : g_V X Y d mc ms Q k kc ks pc ls st σ := by
  intro l p e s m args below meth c H locs lsA hC hP hz hS hl
  have hx := hC.1
  have hb := hC.2.1
  exact lv_iconst hx hb hd (by decide) (h l p e s m args below meth c H locs lsA hC hP hz hS hl)
theorem g_ic5  (hd : decode Y.1 pc = .ok (.iconst (5), 1))  (h : g_V X Y d mc ms Q k kc ks (pc + 1) ls (.int 5 :: st) σ) : g_V X Y d mc ms Q k kc ks pc ls st σ := by
  intro l p e s m args below meth c H locs lsA hC hP hz hS hl
  have hx := hC.1
  have hb := hC.2.1
  exact lv_iconst hx hb hd (by decide) (h l p e s m args below meth c H locs lsA hC hP hz hS hl)
theorem g_bipush {n : Int} {v : Int32}  (hd : decode Y.1 pc = .ok (.bipush n, 2)) (hv : (Int8.ofInt n).toInt32 = v) (h : g_V X Y d mc ms Q k kc ks (pc + 2) ls (.int v :: st) σ) : g_V X Y d mc ms Q k kc ks pc ls st σ := by
  intro l p e s m args below meth c H locs lsA hC hP hz hS hl
  have hx := hC.1
  have hb := hC.2.1
  exact lv_bipush hx hb hd hv (h l p e s m args below meth c H locs lsA hC hP hz hS hl)
theorem g_sipush {n : Int} {v : Int32}  (hd : decode Y.1 pc = .ok (.sipush n, 3)) (hv : (Int16.ofInt n).toInt32 = v) (h : g_V X Y d mc ms Q k kc ks (pc + 3) ls (.int v :: st) σ) : g_V X Y d mc ms Q k kc ks pc ls st σ := by
  intro l p e s m args below meth c H locs lsA hC hP hz hS hl
  have hx := hC.1
  have hb := hC.2.1
  exact lv_sipush hx hb hd hv (h l p e s m args below meth c H locs lsA hC hP hz hS hl)
theorem g_lc0  (hd : decode Y.1 pc = .ok (.lconst 0, 1))  (h : g_V X Y d mc ms Q k kc ks (pc + 1) ls (.long 0 :: st) σ) : g_V X Y d mc ms Q k kc ks pc ls st σ := by
  intro l p e s m args below meth c H locs lsA hC hP hz hS hl
  have hx := hC.1
  have hb := hC.2.1
  exact lv_lconst hx hb hd (by decide) (h l p e s m args below meth c H locs lsA hC hP hz hS hl)
theorem g_lc1  (hd : decode Y.1 pc = .ok (.lconst 1, 1))  (h : g_V X Y d mc ms Q k kc ks (pc + 1) ls (.long 1 :: st) σ) : g_V X Y d mc ms Q k kc ks pc ls st σ := by
  intro l p e s m args below meth c H locs lsA hC hP hz hS hl
  have hx := hC.1
  have hb := hC.2.1
  exact lv_lconst hx hb hd (by decide) (h l p e s m args below meth c H locs lsA hC hP hz hS hl)
theorem g_iload_n {i : Fin 4} {x : Int32}  (hd : decode Y.1 pc = .ok (.iload_n i, 1)) (hv : ls[(i : Nat)]? = some (some (.int x))) (h : g_V X Y d mc ms Q k kc ks (pc + 1) ls (.int x :: st) σ) : g_V X Y d mc ms Q k kc ks pc ls st σ := by
  intro l p e s m args below meth c H locs lsA hC hP hz hS hl
  have hx := hC.1
  have hb := hC.2.1
  exact lv_iload_n hx hb hd rfl (g_loc hl hv) (h l p e s m args below meth c H locs lsA hC hP hz hS hl)
theorem g_iload {i : Nat} {x : Int32}  (hd : decode Y.1 pc = .ok (.iload i, 2)) (hv : ls[i]? = some (some (.int x))) (h : g_V X Y d mc ms Q k kc ks (pc + 2) ls (.int x :: st) σ) : g_V X Y d mc ms Q k kc ks pc ls st σ := by
  intro l p e s m args below meth c H locs lsA hC hP hz hS hl
  have hx := hC.1
  have hb := hC.2.1
  exact lv_iload hx hb hd (g_loc hl hv) (h l p e s m args below meth c H locs lsA hC hP hz hS hl)
theorem g_lload_n {i : Fin 4} {x : Int64}  (hd : decode Y.1 pc = .ok (.lload_n i, 1)) (hv : ls[(i : Nat)]? = some (some (.long x))) (h : g_V X Y d mc ms Q k kc ks (pc + 1) ls (.long x :: st) σ) : g_V X Y d mc ms Q k kc ks pc ls st σ := by
  intro l p e s m args below meth c H locs lsA hC hP hz hS hl
  have hx := hC.1
  have hb := hC.2.1
  exact lv_lload_n hx hb hd rfl (g_loc hl hv) (h l p e s m args below meth c H locs lsA hC hP hz hS hl)
theorem g_lload {i : Nat} {x : Int64}  (hd : decode Y.1 pc = .ok (.lload i, 2)) (hv : ls[i]? = some (some (.long x))) (h : g_V X Y d mc ms Q k kc ks (pc + 2) ls (.long x :: st) σ) : g_V X Y d mc ms Q k kc ks pc ls st σ := by
  intro l p e s m args below meth c H locs lsA hC hP hz hS hl
  have hx := hC.1
  have hb := hC.2.1
  exact lv_lload hx hb hd (g_loc hl hv) (h l p e s m args below meth c H locs lsA hC hP hz hS hl)
theorem g_aload_n {i : Fin 4} {x : Nat}  (hd : decode Y.1 pc = .ok (.aload_n i, 1)) (hv : ls[(i : Nat)]? = some (some (.ref x))) (h : g_V X Y d mc ms Q k kc ks (pc + 1) ls (.ref x :: st) σ) : g_V X Y d mc ms Q k kc ks pc ls st σ := by
  intro l p e s m args below meth c H locs lsA hC hP hz hS hl
  have hx := hC.1
  have hb := hC.2.1
  exact lv_aload_n hx hb hd rfl (g_loc hl hv) (h l p e s m args below meth c H locs lsA hC hP hz hS hl)
theorem g_aload {i : Nat} {x : Nat}  (hd : decode Y.1 pc = .ok (.aload i, 2)) (hv : ls[i]? = some (some (.ref x))) (h : g_V X Y d mc ms Q k kc ks (pc + 2) ls (.ref x :: st) σ) : g_V X Y d mc ms Q k kc ks pc ls st σ := by
  intro l p e s m args below meth c H locs lsA hC hP hz hS hl
  have hx := hC.1
  have hb := hC.2.1
  exact lv_aload hx hb hd (g_loc hl hv) (h l p e s m args below meth c H locs lsA hC hP hz hS hl)
theorem g_istore_0 {a0 : Option Value} {t : List (Option Value)} {x : Int32} (hn : 0 < Y.2.1) (hd : decode Y.1 pc = .ok (.istore_n 0, 1)) (h : g_V X Y d mc ms Q k kc ks (pc + 1) (some (.int x) :: t) st σ) : g_V X Y d mc ms Q k kc ks pc (a0 :: t) (.int x :: st) σ := by
  intro l p e s m args below meth c H locs lsA hC hP hz hS hl
  have hx := hC.1
  have hb := hC.2.1
  exact lv_istore_n hx hb hd rfl hl hn rfl (fun lsB hlB => h l p e s m args below meth c H locs lsB hC hP hz hS (g_st1 (i := 0) (v := .int x) (ls := (a0 :: t)) (fun a _ h0 => absurd h0 (Nat.lt_irrefl 0)) hlB rfl))
theorem g_astore_0 {a0 : Option Value} {t : List (Option Value)} {x : Nat} (hn : 0 < Y.2.1) (hd : decode Y.1 pc = .ok (.astore_n 0, 1)) (h : g_V X Y d mc ms Q k kc ks (pc + 1) (some (.ref x) :: t) st σ) : g_V X Y d mc ms Q k kc ks pc (a0 :: t) (.ref x :: st) σ := by
  intro l p e s m args below meth c H locs lsA hC hP hz hS hl
  have hx := hC.1
  have hb := hC.2.1
  exact lv_astore_n hx hb hd rfl hl hn rfl (fun lsB hlB => h l p e s m args below meth c H locs lsB hC hP hz hS (g_st1 (i := 0) (v := .ref x) (ls := (a0 :: t)) (fun a _ h0 => absurd h0 (Nat.lt_irrefl 0)) hlB rfl))
theorem g_iinc_0 {t : List (Option Value)} {x v : Int32} {n : Int} (hv : Int32.ofInt n = v) (hn : 0 < Y.2.1) (hd : decode Y.1 pc = .ok (.iinc 0 n, 3)) (h : g_V X Y d mc ms Q k kc ks (pc + 3) (some (.int (x + v)) :: t) st σ) : g_V X Y d mc ms Q k kc ks pc (some (.int x) :: t) st σ := by
  intro l p e s m args below meth c H locs lsA hC hP hz hS hl
  have hx := hC.1
  have hb := hC.2.1
  subst hv
  obtain ⟨j, hj⟩ := List.getElem?_of_mem (g_lv_mem.mpr ⟨0, .int x, rfl, rfl⟩ : (0 + 0, g_tv X.2.2.1 (.int x)) ∈ g_lv X.2.2.1 0 (some (.int x) :: t))
  rw [Nat.zero_add] at hj
  exact lv_iinc hx hb hd hl hj rfl hn rfl (fun lsB hlB => h l p e s m args below meth c H locs lsB hC hP hz hS (g_st1 (i := 0) (v := .int (x + Int32.ofInt n)) (ls := (some (.int x) :: t)) (fun a _ h0 => absurd h0 (Nat.lt_irrefl 0)) hlB rfl))
theorem g_istore_1 {a0 a1 : Option Value} {t : List (Option Value)} {x : Int32} (hc : g_c1 a0 = true) (hn : 1 < Y.2.1) (hd : decode Y.1 pc = .ok (.istore_n 1, 1)) (h : g_V X Y d mc ms Q k kc ks (pc + 1) (a0 :: some (.int x) :: t) st σ) : g_V X Y d mc ms Q k kc ks pc (a0 :: a1 :: t) (.int x :: st) σ := by
  intro l p e s m args below meth c H locs lsA hC hP hz hS hl
  have hx := hC.1
  have hb := hC.2.1
  exact lv_istore_n hx hb hd rfl hl hn rfl (fun lsB hlB => h l p e s m args below meth c H locs lsB hC hP hz hS (g_st1 (i := 1) (v := .int x) (ls := (a0 :: a1 :: t)) (fun a h9 _ => by cases h9; exact hc) hlB rfl))
theorem g_astore_1 {a0 a1 : Option Value} {t : List (Option Value)} {x : Nat} (hc : g_c1 a0 = true) (hn : 1 < Y.2.1) (hd : decode Y.1 pc = .ok (.astore_n 1, 1)) (h : g_V X Y d mc ms Q k kc ks (pc + 1) (a0 :: some (.ref x) :: t) st σ) : g_V X Y d mc ms Q k kc ks pc (a0 :: a1 :: t) (.ref x :: st) σ := by
  intro l p e s m args below meth c H locs lsA hC hP hz hS hl
  have hx := hC.1
  have hb := hC.2.1
  exact lv_astore_n hx hb hd rfl hl hn rfl (fun lsB hlB => h l p e s m args below meth c H locs lsB hC hP hz hS (g_st1 (i := 1) (v := .ref x) (ls := (a0 :: a1 :: t)) (fun a h9 _ => by cases h9; exact hc) hlB rfl))
theorem g_iinc_1 {a0 : Option Value} {t : List (Option Value)} {x v : Int32} {n : Int} (hc : g_c1 a0 = true) (hv : Int32.ofInt n = v) (hn : 1 < Y.2.1) (hd : decode Y.1 pc = .ok (.iinc 1 n, 3)) (h : g_V X Y d mc ms Q k kc ks (pc + 3) (a0 :: some (.int (x + v)) :: t) st σ) : g_V X Y d mc ms Q k kc ks pc (a0 :: some (.int x) :: t) st σ := by
  intro l p e s m args below meth c H locs lsA hC hP hz hS hl
  have hx := hC.1
  have hb := hC.2.1
  subst hv
  obtain ⟨j, hj⟩ := List.getElem?_of_mem (g_lv_mem.mpr ⟨1, .int x, rfl, rfl⟩ : (0 + 1, g_tv X.2.2.1 (.int x)) ∈ g_lv X.2.2.1 0 (a0 :: some (.int x) :: t))
  rw [Nat.zero_add] at hj
  exact lv_iinc hx hb hd hl hj rfl hn rfl (fun lsB hlB => h l p e s m args below meth c H locs lsB hC hP hz hS (g_st1 (i := 1) (v := .int (x + Int32.ofInt n)) (ls := (a0 :: some (.int x) :: t)) (fun a h9 _ => by cases h9; exact hc) hlB rfl))
theorem g_istore_2 {a0 a1 a2 : Option Value} {t : List (Option Value)} {x : Int32} (hc : g_c1 a1 = true) (hn : 2 < Y.2.1) (hd : decode Y.1 pc = .ok (.istore_n 2, 1)) (h : g_V X Y d mc ms Q k kc ks (pc + 1) (a0 :: a1 :: some (.int x) :: t) st σ) : g_V X Y d mc ms Q k kc ks pc (a0 :: a1 :: a2 :: t) (.int x :: st) σ := by
  intro l p e s m args below meth c H locs lsA hC hP hz hS hl
  have hx := hC.1
  have hb := hC.2.1
  exact lv_istore_n hx hb hd rfl hl hn rfl (fun lsB hlB => h l p e s m args below meth c H locs lsB hC hP hz hS (g_st1 (i := 2) (v := .int x) (ls := (a0 :: a1 :: a2 :: t)) (fun a h9 _ => by cases h9; exact hc) hlB rfl))
theorem g_astore_2 {a0 a1 a2 : Option Value} {t : List (Option Value)} {x : Nat} (hc : g_c1 a1 = true) (hn : 2 < Y.2.1) (hd : decode Y.1 pc = .ok (.astore_n 2, 1)) (h : g_V X Y d mc ms Q k kc ks (pc + 1) (a0 :: a1 :: some (.ref x) :: t) st σ) : g_V X Y d mc ms Q k kc ks pc (a0 :: a1 :: a2 :: t) (.ref x :: st) σ := by
  intro l p e s m args below meth c H locs lsA hC hP hz hS hl
  have hx := hC.1
  have hb := hC.2.1
  exact lv_astore_n hx hb hd rfl hl hn rfl (fun lsB hlB => h l p e s m args below meth c H locs lsB hC hP hz hS (g_st1 (i := 2) (v := .ref x) (ls := (a0 :: a1 :: a2 :: t)) (fun a h9 _ => by cases h9; exact hc) hlB rfl))
theorem g_iinc_2 {a0 a1 : Option Value} {t : List (Option Value)} {x v : Int32} {n : Int} (hc : g_c1 a1 = true) (hv : Int32.ofInt n = v) (hn : 2 < Y.2.1) (hd : decode Y.1 pc = .ok (.iinc 2 n, 3)) (h : g_V X Y d mc ms Q k kc ks (pc + 3) (a0 :: a1 :: some (.int (x + v)) :: t) st σ) : g_V X Y d mc ms Q k kc ks pc (a0 :: a1 :: some (.int x) :: t) st σ := by
  intro l p e s m args below meth c H locs lsA hC hP hz hS hl
  have hx := hC.1
  have hb := hC.2.1
  subst hv
  obtain ⟨j, hj⟩ := List.getElem?_of_mem (g_lv_mem.mpr ⟨2, .int x, rfl, rfl⟩ : (0 + 2, g_tv X.2.2.1 (.int x)) ∈ g_lv X.2.2.1 0 (a0 :: a1 :: some (.int x) :: t))
  rw [Nat.zero_add] at hj
  exact lv_iinc hx hb hd hl hj rfl hn rfl (fun lsB hlB => h l p e s m args below meth c H locs lsB hC hP hz hS (g_st1 (i := 2) (v := .int (x + Int32.ofInt n)) (ls := (a0 :: a1 :: some (.int x) :: t)) (fun a h9 _ => by cases h9; exact hc) hlB rfl))
theorem g_istore_3 {a0 a1 a2 a3 : Option Value} {t : List (Option Value)} {x : Int32} (hc : g_c1 a2 = true) (hn : 3 < Y.2.1) (hd : decode Y.1 pc = .ok (.istore_n 3, 1)) (h : g_V X Y d mc ms Q k kc ks (pc + 1) (a0 :: a1 :: a2 :: some (.int x) :: t) st σ) : g_V X Y d mc ms Q k kc ks pc (a0 :: a1 :: a2 :: a3 :: t) (.int x :: st) σ := by
  intro l p e s m args below meth c H locs lsA hC hP hz hS hl
  have hx := hC.1
  have hb := hC.2.1
  exact lv_istore_n hx hb hd rfl hl hn rfl (fun lsB hlB => h l p e s m args below meth c H locs lsB hC hP hz hS (g_st1 (i := 3) (v := .int x) (ls := (a0 :: a1 :: a2 :: a3 :: t)) (fun a h9 _ => by cases h9; exact hc) hlB rfl))
theorem g_astore_3 {a0 a1 a2 a3 : Option Value} {t : List (Option Value)} {x : Nat} (hc : g_c1 a2 = true) (hn : 3 < Y.2.1) (hd : decode Y.1 pc = .ok (.astore_n 3, 1)) (h : g_V X Y d mc ms Q k kc ks (pc + 1) (a0 :: a1 :: a2 :: some (.ref x) :: t) st σ) : g_V X Y d mc ms Q k kc ks pc (a0 :: a1 :: a2 :: a3 :: t) (.ref x :: st) σ := by
  intro l p e s m args below meth c H locs lsA hC hP hz hS hl
  have hx := hC.1
  have hb := hC.2.1
  exact lv_astore_n hx hb hd rfl hl hn rfl (fun lsB hlB => h l p e s m args below meth c H locs lsB hC hP hz hS (g_st1 (i := 3) (v := .ref x) (ls := (a0 :: a1 :: a2 :: a3 :: t)) (fun a h9 _ => by cases h9; exact hc) hlB rfl))
theorem g_iinc_3 {a0 a1 a2 : Option Value} {t : List (Option Value)} {x v : Int32} {n : Int} (hc : g_c1 a2 = true) (hv : Int32.ofInt n = v) (hn : 3 < Y.2.1) (hd : decode Y.1 pc = .ok (.iinc 3 n, 3)) (h : g_V X Y d mc ms Q k kc ks (pc + 3) (a0 :: a1 :: a2 :: some (.int (x + v)) :: t) st σ) : g_V X Y d mc ms Q k kc ks pc (a0 :: a1 :: a2 :: some (.int x) :: t) st σ := by
  intro l p e s m args below meth c H locs lsA hC hP hz hS hl
  have hx := hC.1
  have hb := hC.2.1
  subst hv
  obtain ⟨j, hj⟩ := List.getElem?_of_mem (g_lv_mem.mpr ⟨3, .int x, rfl, rfl⟩ : (0 + 3, g_tv X.2.2.1 (.int x)) ∈ g_lv X.2.2.1 0 (a0 :: a1 :: a2 :: some (.int x) :: t))
  rw [Nat.zero_add] at hj
  exact lv_iinc hx hb hd hl hj rfl hn rfl (fun lsB hlB => h l p e s m args below meth c H locs lsB hC hP hz hS (g_st1 (i := 3) (v := .int (x + Int32.ofInt n)) (ls := (a0 :: a1 :: a2 :: some (.int x) :: t)) (fun a h9 _ => by cases h9; exact hc) hlB rfl))
theorem g_istore_4 {a0 a1 a2 a3 a4 : Option Value} {t : List (Option Value)} {x : Int32} (hc : g_c1 a3 = true) (hn : 4 < Y.2.1) (hd : decode Y.1 pc = .ok (.istore 4, 2)) (h : g_V X Y d mc ms Q k kc ks (pc + 2) (a0 :: a1 :: a2 :: a3 :: some (.int x) :: t) st σ) : g_V X Y d mc ms Q k kc ks pc (a0 :: a1 :: a2 :: a3 :: a4 :: t) (.int x :: st) σ := by
  intro l p e s m args below meth c H locs lsA hC hP hz hS hl
  have hx := hC.1
  have hb := hC.2.1
  exact lv_istore hx hb hd hl hn rfl (fun lsB hlB => h l p e s m args below meth c H locs lsB hC hP hz hS (g_st1 (i := 4) (v := .int x) (ls := (a0 :: a1 :: a2 :: a3 :: a4 :: t)) (fun a h9 _ => by cases h9; exact hc) hlB rfl))
theorem g_astore_4 {a0 a1 a2 a3 a4 : Option Value} {t : List (Option Value)} {x : Nat} (hc : g_c1 a3 = true) (hn : 4 < Y.2.1) (hd : decode Y.1 pc = .ok (.astore 4, 2)) (h : g_V X Y d mc ms Q k kc ks (pc + 2) (a0 :: a1 :: a2 :: a3 :: some (.ref x) :: t) st σ) : g_V X Y d mc ms Q k kc ks pc (a0 :: a1 :: a2 :: a3 :: a4 :: t) (.ref x :: st) σ := by
  intro l p e s m args below meth c H locs lsA hC hP hz hS hl
  have hx := hC.1
  have hb := hC.2.1
  exact lv_astore hx hb hd hl hn rfl (fun lsB hlB => h l p e s m args below meth c H locs lsB hC hP hz hS (g_st1 (i := 4) (v := .ref x) (ls := (a0 :: a1 :: a2 :: a3 :: a4 :: t)) (fun a h9 _ => by cases h9; exact hc) hlB rfl))
theorem g_iinc_4 {a0 a1 a2 a3 : Option Value} {t : List (Option Value)} {x v : Int32} {n : Int} (hc : g_c1 a3 = true) (hv : Int32.ofInt n = v) (hn : 4 < Y.2.1) (hd : decode Y.1 pc = .ok (.iinc 4 n, 3)) (h : g_V X Y d mc ms Q k kc ks (pc + 3) (a0 :: a1 :: a2 :: a3 :: some (.int (x + v)) :: t) st σ) : g_V X Y d mc ms Q k kc ks pc (a0 :: a1 :: a2 :: a3 :: some (.int x) :: t) st σ := by
  intro l p e s m args below meth c H locs lsA hC hP hz hS hl
  have hx := hC.1
  have hb := hC.2.1
  subst hv
  obtain ⟨j, hj⟩ := List.getElem?_of_mem (g_lv_mem.mpr ⟨4, .int x, rfl, rfl⟩ : (0 + 4, g_tv X.2.2.1 (.int x)) ∈ g_lv X.2.2.1 0 (a0 :: a1 :: a2 :: a3 :: some (.int x) :: t))
  rw [Nat.zero_add] at hj
  exact lv_iinc hx hb hd hl hj rfl hn rfl (fun lsB hlB => h l p e s m args below meth c H locs lsB hC hP hz hS (g_st1 (i := 4) (v := .int (x + Int32.ofInt n)) (ls := (a0 :: a1 :: a2 :: a3 :: some (.int x) :: t)) (fun a h9 _ => by cases h9; exact hc) hlB rfl))
theorem g_istore_5 {a0 a1 a2 a3 a4 a5 : Option Value} {t : List (Option Value)} {x : Int32} (hc : g_c1 a4 = true) (hn : 5 < Y.2.1) (hd : decode Y.1 pc = .ok (.istore 5, 2)) (h : g_V X Y d mc ms Q k kc ks (pc + 2) (a0 :: a1 :: a2 :: a3 :: a4 :: some (.int x) :: t) st σ) : g_V X Y d mc ms Q k kc ks pc (a0 :: a1 :: a2 :: a3 :: a4 :: a5 :: t) (.int x :: st) σ := by
  intro l p e s m args below meth c H locs lsA hC hP hz hS hl
  have hx := hC.1
  have hb := hC.2.1
  exact lv_istore hx hb hd hl hn rfl (fun lsB hlB => h l p e s m args below meth c H locs lsB hC hP hz hS (g_st1 (i := 5) (v := .int x) (ls := (a0 :: a1 :: a2 :: a3 :: a4 :: a5 :: t)) (fun a h9 _ => by cases h9; exact hc) hlB rfl))
theorem g_astore_5 {a0 a1 a2 a3 a4 a5 : Option Value} {t : List (Option Value)} {x : Nat} (hc : g_c1 a4 = true) (hn : 5 < Y.2.1) (hd : decode Y.1 pc = .ok (.astore 5, 2)) (h : g_V X Y d mc ms Q k kc ks (pc + 2) (a0 :: a1 :: a2 :: a3 :: a4 :: some (.ref x) :: t) st σ) : g_V X Y d mc ms Q k kc ks pc (a0 :: a1 :: a2 :: a3 :: a4 :: a5 :: t) (.ref x :: st) σ := by
  intro l p e s m args below meth c H locs lsA hC hP hz hS hl
  have hx := hC.1
  have hb := hC.2.1
  exact lv_astore hx hb hd hl hn rfl (fun lsB hlB => h l p e s m args below meth c H locs lsB hC hP hz hS (g_st1 (i := 5) (v := .ref x) (ls := (a0 :: a1 :: a2 :: a3 :: a4 :: a5 :: t)) (fun a h9 _ => by cases h9; exact hc) hlB rfl))
theorem g_iinc_5 {a0 a1 a2 a3 a4 : Option Value} {t : List (Option Value)} {x v : Int32} {n : Int} (hc : g_c1 a4 = true) (hv : Int32.ofInt n = v) (hn : 5 < Y.2.1) (hd : decode Y.1 pc = .ok (.iinc 5 n, 3)) (h : g_V X Y d mc ms Q k kc ks (pc + 3) (a0 :: a1 :: a2 :: a3 :: a4 :: some (.int (x + v)) :: t) st σ) : g_V X Y d mc ms Q k kc ks pc (a0 :: a1 :: a2 :: a3 :: a4 :: some (.int x) :: t) st σ := by
  intro l p e s m args below meth c H locs lsA hC hP hz hS hl
  have hx := hC.1
  have hb := hC.2.1
  subst hv
  obtain ⟨j, hj⟩ := List.getElem?_of_mem (g_lv_mem.mpr ⟨5, .int x, rfl, rfl⟩ : (0 + 5, g_tv X.2.2.1 (.int x)) ∈ g_lv X.2.2.1 0 (a0 :: a1 :: a2 :: a3 :: a4 :: some (.int x) :: t))
  rw [Nat.zero_add] at hj
  exact lv_iinc hx hb hd hl hj rfl hn rfl (fun lsB hlB => h l p e s m args below meth c H locs lsB hC hP hz hS (g_st1 (i := 5) (v := .int (x + Int32.ofInt n)) (ls := (a0 :: a1 :: a2 :: a3 :: a4 :: some (.int x) :: t)) (fun a h9 _ => by cases h9; exact hc) hlB rfl))
theorem g_istore_6 {a0 a1 a2 a3 a4 a5 a6 : Option Value} {t : List (Option Value)} {x : Int32} (hc : g_c1 a5 = true) (hn : 6 < Y.2.1) (hd : decode Y.1 pc = .ok (.istore 6, 2)) (h : g_V X Y d mc ms Q k kc ks (pc + 2) (a0 :: a1 :: a2 :: a3 :: a4 :: a5 :: some (.int x) :: t) st σ) : g_V X Y d mc ms Q k kc ks pc (a0 :: a1 :: a2 :: a3 :: a4 :: a5 :: a6 :: t) (.int x :: st) σ := by
  intro l p e s m args below meth c H locs lsA hC hP hz hS hl
  have hx := hC.1
  have hb := hC.2.1
  exact lv_istore hx hb hd hl hn rfl (fun lsB hlB => h l p e s m args below meth c H locs lsB hC hP hz hS (g_st1 (i := 6) (v := .int x) (ls := (a0 :: a1 :: a2 :: a3 :: a4 :: a5 :: a6 :: t)) (fun a h9 _ => by cases h9; exact hc) hlB rfl))
theorem g_astore_6 {a0 a1 a2 a3 a4 a5 a6 : Option Value} {t : List (Option Value)} {x : Nat} (hc : g_c1 a5 = true) (hn : 6 < Y.2.1) (hd : decode Y.1 pc = .ok (.astore 6, 2)) (h : g_V X Y d mc ms Q k kc ks (pc + 2) (a0 :: a1 :: a2 :: a3 :: a4 :: a5 :: some (.ref x) :: t) st σ) : g_V X Y d mc ms Q k kc ks pc (a0 :: a1 :: a2 :: a3 :: a4 :: a5 :: a6 :: t) (.ref x :: st) σ := by
  intro l p e s m args below meth c H locs lsA hC hP hz hS hl
  have hx := hC.1
  have hb := hC.2.1
  exact lv_astore hx hb hd hl hn rfl (fun lsB hlB => h l p e s m args below meth c H locs lsB hC hP hz hS (g_st1 (i := 6) (v := .ref x) (ls := (a0 :: a1 :: a2 :: a3 :: a4 :: a5 :: a6 :: t)) (fun a h9 _ => by cases h9; exact hc) hlB rfl))
theorem g_iinc_6 {a0 a1 a2 a3 a4 a5 : Option Value} {t : List (Option Value)} {x v : Int32} {n : Int} (hc : g_c1 a5 = true) (hv : Int32.ofInt n = v) (hn : 6 < Y.2.1) (hd : decode Y.1 pc = .ok (.iinc 6 n, 3)) (h : g_V X Y d mc ms Q k kc ks (pc + 3) (a0 :: a1 :: a2 :: a3 :: a4 :: a5 :: some (.int (x + v)) :: t) st σ) : g_V X Y d mc ms Q k kc ks pc (a0 :: a1 :: a2 :: a3 :: a4 :: a5 :: some (.int x) :: t) st σ := by
  intro l p e s m args below meth c H locs lsA hC hP hz hS hl
  have hx := hC.1
  have hb := hC.2.1
  subst hv
  obtain ⟨j, hj⟩ := List.getElem?_of_mem (g_lv_mem.mpr ⟨6, .int x, rfl, rfl⟩ : (0 + 6, g_tv X.2.2.1 (.int x)) ∈ g_lv X.2.2.1 0 (a0 :: a1 :: a2 :: a3 :: a4 :: a5 :: some (.int x) :: t))
  rw [Nat.zero_add] at hj
  exact lv_iinc hx hb hd hl hj rfl hn rfl (fun lsB hlB => h l p e s m args below meth c H locs lsB hC hP hz hS (g_st1 (i := 6) (v := .int (x + Int32.ofInt n)) (ls := (a0 :: a1 :: a2 :: a3 :: a4 :: a5 :: some (.int x) :: t)) (fun a h9 _ => by cases h9; exact hc) hlB rfl))
theorem g_istore_7 {a0 a1 a2 a3 a4 a5 a6 a7 : Option Value} {t : List (Option Value)} {x : Int32} (hc : g_c1 a6 = true) (hn : 7 < Y.2.1) (hd : decode Y.1 pc = .ok (.istore 7, 2)) (h : g_V X Y d mc ms Q k kc ks (pc + 2) (a0 :: a1 :: a2 :: a3 :: a4 :: a5 :: a6 :: some (.int x) :: t) st σ) : g_V X Y d mc ms Q k kc ks pc (a0 :: a1 :: a2 :: a3 :: a4 :: a5 :: a6 :: a7 :: t) (.int x :: st) σ := by
  intro l p e s m args below meth c H locs lsA hC hP hz hS hl
  have hx := hC.1
  have hb := hC.2.1
  exact lv_istore hx hb hd hl hn rfl (fun lsB hlB => h l p e s m args below meth c H locs lsB hC hP hz hS (g_st1 (i := 7) (v := .int x) (ls := (a0 :: a1 :: a2 :: a3 :: a4 :: a5 :: a6 :: a7 :: t)) (fun a h9 _ => by cases h9; exact hc) hlB rfl))
theorem g_astore_7 {a0 a1 a2 a3 a4 a5 a6 a7 : Option Value} {t : List (Option Value)} {x : Nat} (hc : g_c1 a6 = true) (hn : 7 < Y.2.1) (hd : decode Y.1 pc = .ok (.astore 7, 2)) (h : g_V X Y d mc ms Q k kc ks (pc + 2) (a0 :: a1 :: a2 :: a3 :: a4 :: a5 :: a6 :: some (.ref x) :: t) st σ) : g_V X Y d mc ms Q k kc ks pc (a0 :: a1 :: a2 :: a3 :: a4 :: a5 :: a6 :: a7 :: t) (.ref x :: st) σ := by
  intro l p e s m args below meth c H locs lsA hC hP hz hS hl
  have hx := hC.1
  have hb := hC.2.1
  exact lv_astore hx hb hd hl hn rfl (fun lsB hlB => h l p e s m args below meth c H locs lsB hC hP hz hS (g_st1 (i := 7) (v := .ref x) (ls := (a0 :: a1 :: a2 :: a3 :: a4 :: a5 :: a6 :: a7 :: t)) (fun a h9 _ => by cases h9; exact hc) hlB rfl))
theorem g_iinc_7 {a0 a1 a2 a3 a4 a5 a6 : Option Value} {t : List (Option Value)} {x v : Int32} {n : Int} (hc : g_c1 a6 = true) (hv : Int32.ofInt n = v) (hn : 7 < Y.2.1) (hd : decode Y.1 pc = .ok (.iinc 7 n, 3)) (h : g_V X Y d mc ms Q k kc ks (pc + 3) (a0 :: a1 :: a2 :: a3 :: a4 :: a5 :: a6 :: some (.int (x + v)) :: t) st σ) : g_V X Y d mc ms Q k kc ks pc (a0 :: a1 :: a2 :: a3 :: a4 :: a5 :: a6 :: some (.int x) :: t) st σ := by
  intro l p e s m args below meth c H locs lsA hC hP hz hS hl
  have hx := hC.1
  have hb := hC.2.1
  subst hv
  obtain ⟨j, hj⟩ := List.getElem?_of_mem (g_lv_mem.mpr ⟨7, .int x, rfl, rfl⟩ : (0 + 7, g_tv X.2.2.1 (.int x)) ∈ g_lv X.2.2.1 0 (a0 :: a1 :: a2 :: a3 :: a4 :: a5 :: a6 :: some (.int x) :: t))
  rw [Nat.zero_add] at hj
  exact lv_iinc hx hb hd hl hj rfl hn rfl (fun lsB hlB => h l p e s m args below meth c H locs lsB hC hP hz hS (g_st1 (i := 7) (v := .int (x + Int32.ofInt n)) (ls := (a0 :: a1 :: a2 :: a3 :: a4 :: a5 :: a6 :: some (.int x) :: t)) (fun a h9 _ => by cases h9; exact hc) hlB rfl))
theorem g_istore_8 {a0 a1 a2 a3 a4 a5 a6 a7 a8 : Option Value} {t : List (Option Value)} {x : Int32} (hc : g_c1 a7 = true) (hn : 8 < Y.2.1) (hd : decode Y.1 pc = .ok (.istore 8, 2)) (h : g_V X Y d mc ms Q k kc ks (pc + 2) (a0 :: a1 :: a2 :: a3 :: a4 :: a5 :: a6 :: a7 :: some (.int x) :: t) st σ) : g_V X Y d mc ms Q k kc ks pc (a0 :: a1 :: a2 :: a3 :: a4 :: a5 :: a6 :: a7 :: a8 :: t) (.int x :: st) σ := by
  intro l p e s m args below meth c H locs lsA hC hP hz hS hl
  have hx := hC.1
  have hb := hC.2.1
  exact lv_istore hx hb hd hl hn rfl (fun lsB hlB => h l p e s m args below meth c H locs lsB hC hP hz hS (g_st1 (i := 8) (v := .int x) (ls := (a0 :: a1 :: a2 :: a3 :: a4 :: a5 :: a6 :: a7 :: a8 :: t)) (fun a h9 _ => by cases h9; exact hc) hlB rfl))
theorem g_astore_8 {a0 a1 a2 a3 a4 a5 a6 a7 a8 : Option Value} {t : List (Option Value)} {x : Nat} (hc : g_c1 a7 = true) (hn : 8 < Y.2.1) (hd : decode Y.1 pc = .ok (.astore 8, 2)) (h : g_V X Y d mc ms Q k kc ks (pc + 2) (a0 :: a1 :: a2 :: a3 :: a4 :: a5 :: a6 :: a7 :: some (.ref x) :: t) st σ) : g_V X Y d mc ms Q k kc ks pc (a0 :: a1 :: a2 :: a3 :: a4 :: a5 :: a6 :: a7 :: a8 :: t) (.ref x :: st) σ := by
  intro l p e s m args below meth c H locs lsA hC hP hz hS hl
  have hx := hC.1
  have hb := hC.2.1
  exact lv_astore hx hb hd hl hn rfl (fun lsB hlB => h l p e s m args below meth c H locs lsB hC hP hz hS (g_st1 (i := 8) (v := .ref x) (ls := (a0 :: a1 :: a2 :: a3 :: a4 :: a5 :: a6 :: a7 :: a8 :: t)) (fun a h9 _ => by cases h9; exact hc) hlB rfl))
theorem g_iinc_8 {a0 a1 a2 a3 a4 a5 a6 a7 : Option Value} {t : List (Option Value)} {x v : Int32} {n : Int} (hc : g_c1 a7 = true) (hv : Int32.ofInt n = v) (hn : 8 < Y.2.1) (hd : decode Y.1 pc = .ok (.iinc 8 n, 3)) (h : g_V X Y d mc ms Q k kc ks (pc + 3) (a0 :: a1 :: a2 :: a3 :: a4 :: a5 :: a6 :: a7 :: some (.int (x + v)) :: t) st σ) : g_V X Y d mc ms Q k kc ks pc (a0 :: a1 :: a2 :: a3 :: a4 :: a5 :: a6 :: a7 :: some (.int x) :: t) st σ := by
  intro l p e s m args below meth c H locs lsA hC hP hz hS hl
  have hx := hC.1
  have hb := hC.2.1
  subst hv
  obtain ⟨j, hj⟩ := List.getElem?_of_mem (g_lv_mem.mpr ⟨8, .int x, rfl, rfl⟩ : (0 + 8, g_tv X.2.2.1 (.int x)) ∈ g_lv X.2.2.1 0 (a0 :: a1 :: a2 :: a3 :: a4 :: a5 :: a6 :: a7 :: some (.int x) :: t))
  rw [Nat.zero_add] at hj
  exact lv_iinc hx hb hd hl hj rfl hn rfl (fun lsB hlB => h l p e s m args below meth c H locs lsB hC hP hz hS (g_st1 (i := 8) (v := .int (x + Int32.ofInt n)) (ls := (a0 :: a1 :: a2 :: a3 :: a4 :: a5 :: a6 :: a7 :: some (.int x) :: t)) (fun a h9 _ => by cases h9; exact hc) hlB rfl))
theorem g_istore_9 {a0 a1 a2 a3 a4 a5 a6 a7 a8 a9 : Option Value} {t : List (Option Value)} {x : Int32} (hc : g_c1 a8 = true) (hn : 9 < Y.2.1) (hd : decode Y.1 pc = .ok (.istore 9, 2)) (h : g_V X Y d mc ms Q k kc ks (pc + 2) (a0 :: a1 :: a2 :: a3 :: a4 :: a5 :: a6 :: a7 :: a8 :: some (.int x) :: t) st σ) : g_V X Y d mc ms Q k kc ks pc (a0 :: a1 :: a2 :: a3 :: a4 :: a5 :: a6 :: a7 :: a8 :: a9 :: t) (.int x :: st) σ := by
  intro l p e s m args below meth c H locs lsA hC hP hz hS hl
  have hx := hC.1
  have hb := hC.2.1
  exact lv_istore hx hb hd hl hn rfl (fun lsB hlB => h l p e s m args below meth c H locs lsB hC hP hz hS (g_st1 (i := 9) (v := .int x) (ls := (a0 :: a1 :: a2 :: a3 :: a4 :: a5 :: a6 :: a7 :: a8 :: a9 :: t)) (fun a h9 _ => by cases h9; exact hc) hlB rfl))
theorem g_astore_9 {a0 a1 a2 a3 a4 a5 a6 a7 a8 a9 : Option Value} {t : List (Option Value)} {x : Nat} (hc : g_c1 a8 = true) (hn : 9 < Y.2.1) (hd : decode Y.1 pc = .ok (.astore 9, 2)) (h : g_V X Y d mc ms Q k kc ks (pc + 2) (a0 :: a1 :: a2 :: a3 :: a4 :: a5 :: a6 :: a7 :: a8 :: some (.ref x) :: t) st σ) : g_V X Y d mc ms Q k kc ks pc (a0 :: a1 :: a2 :: a3 :: a4 :: a5 :: a6 :: a7 :: a8 :: a9 :: t) (.ref x :: st) σ := by
  intro l p e s m args below meth c H locs lsA hC hP hz hS hl
  have hx := hC.1
  have hb := hC.2.1
  exact lv_astore hx hb hd hl hn rfl (fun lsB hlB => h l p e s m args below meth c H locs lsB hC hP hz hS (g_st1 (i := 9) (v := .ref x) (ls := (a0 :: a1 :: a2 :: a3 :: a4 :: a5 :: a6 :: a7 :: a8 :: a9 :: t)) (fun a h9 _ => by cases h9; exact hc) hlB rfl))
theorem g_iinc_9 {a0 a1 a2 a3 a4 a5 a6 a7 a8 : Option Value} {t : List (Option Value)} {x v : Int32} {n : Int} (hc : g_c1 a8 = true) (hv : Int32.ofInt n = v) (hn : 9 < Y.2.1) (hd : decode Y.1 pc = .ok (.iinc 9 n, 3)) (h : g_V X Y d mc ms Q k kc ks (pc + 3) (a0 :: a1 :: a2 :: a3 :: a4 :: a5 :: a6 :: a7 :: a8 :: some (.int (x + v)) :: t) st σ) : g_V X Y d mc ms Q k kc ks pc (a0 :: a1 :: a2 :: a3 :: a4 :: a5 :: a6 :: a7 :: a8 :: some (.int x) :: t) st σ := by
  intro l p e s m args below meth c H locs lsA hC hP hz hS hl
  have hx := hC.1
  have hb := hC.2.1
  subst hv
  obtain ⟨j, hj⟩ := List.getElem?_of_mem (g_lv_mem.mpr ⟨9, .int x, rfl, rfl⟩ : (0 + 9, g_tv X.2.2.1 (.int x)) ∈ g_lv X.2.2.1 0 (a0 :: a1 :: a2 :: a3 :: a4 :: a5 :: a6 :: a7 :: a8 :: some (.int x) :: t))
  rw [Nat.zero_add] at hj
  exact lv_iinc hx hb hd hl hj rfl hn rfl (fun lsB hlB => h l p e s m args below meth c H locs lsB hC hP hz hS (g_st1 (i := 9) (v := .int (x + Int32.ofInt n)) (ls := (a0 :: a1 :: a2 :: a3 :: a4 :: a5 :: a6 :: a7 :: a8 :: some (.int x) :: t)) (fun a h9 _ => by cases h9; exact hc) hlB rfl))
theorem g_istore_10 {a0 a1 a2 a3 a4 a5 a6 a7 a8 a9 a10 : Option Value} {t : List (Option Value)} {x : Int32} (hc : g_c1 a9 = true) (hn : 10 < Y.2.1) (hd : decode Y.1 pc = .ok (.istore 10, 2)) (h : g_V X Y d mc ms Q k kc ks (pc + 2) (a0 :: a1 :: a2 :: a3 :: a4 :: a5 :: a6 :: a7 :: a8 :: a9 :: some (.int x) :: t) st σ) : g_V X Y d mc ms Q k kc ks pc (a0 :: a1 :: a2 :: a3 :: a4 :: a5 :: a6 :: a7 :: a8 :: a9 :: a10 :: t) (.int x :: st) σ := by
  intro l p e s m args below meth c H locs lsA hC hP hz hS hl
  have hx := hC.1
  have hb := hC.2.1
  exact lv_istore hx hb hd hl hn rfl (fun lsB hlB => h l p e s m args below meth c H locs lsB hC hP hz hS (g_st1 (i := 10) (v := .int x) (ls := (a0 :: a1 :: a2 :: a3 :: a4 :: a5 :: a6 :: a7 :: a8 :: a9 :: a10 :: t)) (fun a h9 _ => by cases h9; exact hc) hlB rfl))
theorem g_astore_10 {a0 a1 a2 a3 a4 a5 a6 a7 a8 a9 a10 : Option Value} {t : List (Option Value)} {x : Nat} (hc : g_c1 a9 = true) (hn : 10 < Y.2.1) (hd : decode Y.1 pc = .ok (.astore 10, 2)) (h : g_V X Y d mc ms Q k kc ks (pc + 2) (a0 :: a1 :: a2 :: a3 :: a4 :: a5 :: a6 :: a7 :: a8 :: a9 :: some (.ref x) :: t) st σ) : g_V X Y d mc ms Q k kc ks pc (a0 :: a1 :: a2 :: a3 :: a4 :: a5 :: a6 :: a7 :: a8 :: a9 :: a10 :: t) (.ref x :: st) σ := by
  intro l p e s m args below meth c H locs lsA hC hP hz hS hl
  have hx := hC.1
  have hb := hC.2.1
  exact lv_astore hx hb hd hl hn rfl (fun lsB hlB => h l p e s m args below meth c H locs lsB hC hP hz hS (g_st1 (i := 10) (v := .ref x) (ls := (a0 :: a1 :: a2 :: a3 :: a4 :: a5 :: a6 :: a7 :: a8 :: a9 :: a10 :: t)) (fun a h9 _ => by cases h9; exact hc) hlB rfl))
theorem g_iinc_10 {a0 a1 a2 a3 a4 a5 a6 a7 a8 a9 : Option Value} {t : List (Option Value)} {x v : Int32} {n : Int} (hc : g_c1 a9 = true) (hv : Int32.ofInt n = v) (hn : 10 < Y.2.1) (hd : decode Y.1 pc = .ok (.iinc 10 n, 3)) (h : g_V X Y d mc ms Q k kc ks (pc + 3) (a0 :: a1 :: a2 :: a3 :: a4 :: a5 :: a6 :: a7 :: a8 :: a9 :: some (.int (x + v)) :: t) st σ) : g_V X Y d mc ms Q k kc ks pc (a0 :: a1 :: a2 :: a3 :: a4 :: a5 :: a6 :: a7 :: a8 :: a9 :: some (.int x) :: t) st σ := by
  intro l p e s m args below meth c H locs lsA hC hP hz hS hl
  have hx := hC.1
  have hb := hC.2.1
  subst hv
  obtain ⟨j, hj⟩ := List.getElem?_of_mem (g_lv_mem.mpr ⟨10, .int x, rfl, rfl⟩ : (0 + 10, g_tv X.2.2.1 (.int x)) ∈ g_lv X.2.2.1 0 (a0 :: a1 :: a2 :: a3 :: a4 :: a5 :: a6 :: a7 :: a8 :: a9 :: some (.int x) :: t))
  rw [Nat.zero_add] at hj
  exact lv_iinc hx hb hd hl hj rfl hn rfl (fun lsB hlB => h l p e s m args below meth c H locs lsB hC hP hz hS (g_st1 (i := 10) (v := .int (x + Int32.ofInt n)) (ls := (a0 :: a1 :: a2 :: a3 :: a4 :: a5 :: a6 :: a7 :: a8 :: a9 :: some (.int x) :: t)) (fun a h9 _ => by cases h9; exact hc) hlB rfl))
theorem g_istore_11 {a0 a1 a2 a3 a4 a5 a6 a7 a8 a9 a10 a11 : Option Value} {t : List (Option Value)} {x : Int32} (hc : g_c1 a10 = true) (hn : 11 < Y.2.1) (hd : decode Y.1 pc = .ok (.istore 11, 2)) (h : g_V X Y d mc ms Q k kc ks (pc + 2) (a0 :: a1 :: a2 :: a3 :: a4 :: a5 :: a6 :: a7 :: a8 :: a9 :: a10 :: some (.int x) :: t) st σ) : g_V X Y d mc ms Q k kc ks pc (a0 :: a1 :: a2 :: a3 :: a4 :: a5 :: a6 :: a7 :: a8 :: a9 :: a10 :: a11 :: t) (.int x :: st) σ := by
  intro l p e s m args below meth c H locs lsA hC hP hz hS hl
  have hx := hC.1
  have hb := hC.2.1
  exact lv_istore hx hb hd hl hn rfl (fun lsB hlB => h l p e s m args below meth c H locs lsB hC hP hz hS (g_st1 (i := 11) (v := .int x) (ls := (a0 :: a1 :: a2 :: a3 :: a4 :: a5 :: a6 :: a7 :: a8 :: a9 :: a10 :: a11 :: t)) (fun a h9 _ => by cases h9; exact hc) hlB rfl))
theorem g_astore_11 {a0 a1 a2 a3 a4 a5 a6 a7 a8 a9 a10 a11 : Option Value} {t : List (Option Value)} {x : Nat} (hc : g_c1 a10 = true) (hn : 11 < Y.2.1) (hd : decode Y.1 pc = .ok (.astore 11, 2)) (h : g_V X Y d mc ms Q k kc ks (pc + 2) (a0 :: a1 :: a2 :: a3 :: a4 :: a5 :: a6 :: a7 :: a8 :: a9 :: a10 :: some (.ref x) :: t) st σ) : g_V X Y d mc ms Q k kc ks pc (a0 :: a1 :: a2 :: a3 :: a4 :: a5 :: a6 :: a7 :: a8 :: a9 :: a10 :: a11 :: t) (.ref x :: st) σ := by
  intro l p e s m args below meth c H locs lsA hC hP hz hS hl
  have hx := hC.1
  have hb := hC.2.1
  exact lv_astore hx hb hd hl hn rfl (fun lsB hlB => h l p e s m args below meth c H locs lsB hC hP hz hS (g_st1 (i := 11) (v := .ref x) (ls := (a0 :: a1 :: a2 :: a3 :: a4 :: a5 :: a6 :: a7 :: a8 :: a9 :: a10 :: a11 :: t)) (fun a h9 _ => by cases h9; exact hc) hlB rfl))
theorem g_iinc_11 {a0 a1 a2 a3 a4 a5 a6 a7 a8 a9 a10 : Option Value} {t : List (Option Value)} {x v : Int32} {n : Int} (hc : g_c1 a10 = true) (hv : Int32.ofInt n = v) (hn : 11 < Y.2.1) (hd : decode Y.1 pc = .ok (.iinc 11 n, 3)) (h : g_V X Y d mc ms Q k kc ks (pc + 3) (a0 :: a1 :: a2 :: a3 :: a4 :: a5 :: a6 :: a7 :: a8 :: a9 :: a10 :: some (.int (x + v)) :: t) st σ) : g_V X Y d mc ms Q k kc ks pc (a0 :: a1 :: a2 :: a3 :: a4 :: a5 :: a6 :: a7 :: a8 :: a9 :: a10 :: some (.int x) :: t) st σ := by
  intro l p e s m args below meth c H locs lsA hC hP hz hS hl
  have hx := hC.1
  have hb := hC.2.1
  subst hv
  obtain ⟨j, hj⟩ := List.getElem?_of_mem (g_lv_mem.mpr ⟨11, .int x, rfl, rfl⟩ : (0 + 11, g_tv X.2.2.1 (.int x)) ∈ g_lv X.2.2.1 0 (a0 :: a1 :: a2 :: a3 :: a4 :: a5 :: a6 :: a7 :: a8 :: a9 :: a10 :: some (.int x) :: t))
  rw [Nat.zero_add] at hj
  exact lv_iinc hx hb hd hl hj rfl hn rfl (fun lsB hlB => h l p e s m args below meth c H locs lsB hC hP hz hS (g_st1 (i := 11) (v := .int (x + Int32.ofInt n)) (ls := (a0 :: a1 :: a2 :: a3 :: a4 :: a5 :: a6 :: a7 :: a8 :: a9 :: a10 :: some (.int x) :: t)) (fun a h9 _ => by cases h9; exact hc) hlB rfl))
theorem g_istore_12 {a0 a1 a2 a3 a4 a5 a6 a7 a8 a9 a10 a11 a12 : Option Value} {t : List (Option Value)} {x : Int32} (hc : g_c1 a11 = true) (hn : 12 < Y.2.1) (hd : decode Y.1 pc = .ok (.istore 12, 2)) (h : g_V X Y d mc ms Q k kc ks (pc + 2) (a0 :: a1 :: a2 :: a3 :: a4 :: a5 :: a6 :: a7 :: a8 :: a9 :: a10 :: a11 :: some (.int x) :: t) st σ) : g_V X Y d mc ms Q k kc ks pc (a0 :: a1 :: a2 :: a3 :: a4 :: a5 :: a6 :: a7 :: a8 :: a9 :: a10 :: a11 :: a12 :: t) (.int x :: st) σ := by
  intro l p e s m args below meth c H locs lsA hC hP hz hS hl
  have hx := hC.1
  have hb := hC.2.1
  exact lv_istore hx hb hd hl hn rfl (fun lsB hlB => h l p e s m args below meth c H locs lsB hC hP hz hS (g_st1 (i := 12) (v := .int x) (ls := (a0 :: a1 :: a2 :: a3 :: a4 :: a5 :: a6 :: a7 :: a8 :: a9 :: a10 :: a11 :: a12 :: t)) (fun a h9 _ => by cases h9; exact hc) hlB rfl))
theorem g_astore_12 {a0 a1 a2 a3 a4 a5 a6 a7 a8 a9 a10 a11 a12 : Option Value} {t : List (Option Value)} {x : Nat} (hc : g_c1 a11 = true) (hn : 12 < Y.2.1) (hd : decode Y.1 pc = .ok (.astore 12, 2)) (h : g_V X Y d mc ms Q k kc ks (pc + 2) (a0 :: a1 :: a2 :: a3 :: a4 :: a5 :: a6 :: a7 :: a8 :: a9 :: a10 :: a11 :: some (.ref x) :: t) st σ) : g_V X Y d mc ms Q k kc ks pc (a0 :: a1 :: a2 :: a3 :: a4 :: a5 :: a6 :: a7 :: a8 :: a9 :: a10 :: a11 :: a12 :: t) (.ref x :: st) σ := by
  intro l p e s m args below meth c H locs lsA hC hP hz hS hl
  have hx := hC.1
  have hb := hC.2.1
  exact lv_astore hx hb hd hl hn rfl (fun lsB hlB => h l p e s m args below meth c H locs lsB hC hP hz hS (g_st1 (i := 12) (v := .ref x) (ls := (a0 :: a1 :: a2 :: a3 :: a4 :: a5 :: a6 :: a7 :: a8 :: a9 :: a10 :: a11 :: a12 :: t)) (fun a h9 _ => by cases h9; exact hc) hlB rfl))
theorem g_iinc_12 {a0 a1 a2 a3 a4 a5 a6 a7 a8 a9 a10 a11 : Option Value} {t : List (Option Value)} {x v : Int32} {n : Int} (hc : g_c1 a11 = true) (hv : Int32.ofInt n = v) (hn : 12 < Y.2.1) (hd : decode Y.1 pc = .ok (.iinc 12 n, 3)) (h : g_V X Y d mc ms Q k kc ks (pc + 3) (a0 :: a1 :: a2 :: a3 :: a4 :: a5 :: a6 :: a7 :: a8 :: a9 :: a10 :: a11 :: some (.int (x + v)) :: t) st σ) : g_V X Y d mc ms Q k kc ks pc (a0 :: a1 :: a2 :: a3 :: a4 :: a5 :: a6 :: a7 :: a8 :: a9 :: a10 :: a11 :: some (.int x) :: t) st σ := by
  intro l p e s m args below meth c H locs lsA hC hP hz hS hl
  have hx := hC.1
  have hb := hC.2.1
  subst hv
  obtain ⟨j, hj⟩ := List.getElem?_of_mem (g_lv_mem.mpr ⟨12, .int x, rfl, rfl⟩ : (0 + 12, g_tv X.2.2.1 (.int x)) ∈ g_lv X.2.2.1 0 (a0 :: a1 :: a2 :: a3 :: a4 :: a5 :: a6 :: a7 :: a8 :: a9 :: a10 :: a11 :: some (.int x) :: t))
  rw [Nat.zero_add] at hj
  exact lv_iinc hx hb hd hl hj rfl hn rfl (fun lsB hlB => h l p e s m args below meth c H locs lsB hC hP hz hS (g_st1 (i := 12) (v := .int (x + Int32.ofInt n)) (ls := (a0 :: a1 :: a2 :: a3 :: a4 :: a5 :: a6 :: a7 :: a8 :: a9 :: a10 :: a11 :: some (.int x) :: t)) (fun a h9 _ => by cases h9; exact hc) hlB rfl))
theorem g_istore_13 {a0 a1 a2 a3 a4 a5 a6 a7 a8 a9 a10 a11 a12 a13 : Option Value} {t : List (Option Value)} {x : Int32} (hc : g_c1 a12 = true) (hn : 13 < Y.2.1) (hd : decode Y.1 pc = .ok (.istore 13, 2)) (h : g_V X Y d mc ms Q k kc ks (pc + 2) (a0 :: a1 :: a2 :: a3 :: a4 :: a5 :: a6 :: a7 :: a8 :: a9 :: a10 :: a11 :: a12 :: some (.int x) :: t) st σ) : g_V X Y d mc ms Q k kc ks pc (a0 :: a1 :: a2 :: a3 :: a4 :: a5 :: a6 :: a7 :: a8 :: a9 :: a10 :: a11 :: a12 :: a13 :: t) (.int x :: st) σ := by
  intro l p e s m args below meth c H locs lsA hC hP hz hS hl
  have hx := hC.1
  have hb := hC.2.1
  exact lv_istore hx hb hd hl hn rfl (fun lsB hlB => h l p e s m args below meth c H locs lsB hC hP hz hS (g_st1 (i := 13) (v := .int x) (ls := (a0 :: a1 :: a2 :: a3 :: a4 :: a5 :: a6 :: a7 :: a8 :: a9 :: a10 :: a11 :: a12 :: a13 :: t)) (fun a h9 _ => by cases h9; exact hc) hlB rfl))
theorem g_astore_13 {a0 a1 a2 a3 a4 a5 a6 a7 a8 a9 a10 a11 a12 a13 : Option Value} {t : List (Option Value)} {x : Nat} (hc : g_c1 a12 = true) (hn : 13 < Y.2.1) (hd : decode Y.1 pc = .ok (.astore 13, 2)) (h : g_V X Y d mc ms Q k kc ks (pc + 2) (a0 :: a1 :: a2 :: a3 :: a4 :: a5 :: a6 :: a7 :: a8 :: a9 :: a10 :: a11 :: a12 :: some (.ref x) :: t) st σ) : g_V X Y d mc ms Q k kc ks pc (a0 :: a1 :: a2 :: a3 :: a4 :: a5 :: a6 :: a7 :: a8 :: a9 :: a10 :: a11 :: a12 :: a13 :: t) (.ref x :: st) σ := by
  intro l p e s m args below meth c H locs lsA hC hP hz hS hl
  have hx := hC.1
  have hb := hC.2.1
  exact lv_astore hx hb hd hl hn rfl (fun lsB hlB => h l p e s m args below meth c H locs lsB hC hP hz hS (g_st1 (i := 13) (v := .ref x) (ls := (a0 :: a1 :: a2 :: a3 :: a4 :: a5 :: a6 :: a7 :: a8 :: a9 :: a10 :: a11 :: a12 :: a13 :: t)) (fun a h9 _ => by cases h9; exact hc) hlB rfl))
theorem g_iinc_13 {a0 a1 a2 a3 a4 a5 a6 a7 a8 a9 a10 a11 a12 : Option Value} {t : List (Option Value)} {x v : Int32} {n : Int} (hc : g_c1 a12 = true) (hv : Int32.ofInt n = v) (hn : 13 < Y.2.1) (hd : decode Y.1 pc = .ok (.iinc 13 n, 3)) (h : g_V X Y d mc ms Q k kc ks (pc + 3) (a0 :: a1 :: a2 :: a3 :: a4 :: a5 :: a6 :: a7 :: a8 :: a9 :: a10 :: a11 :: a12 :: some (.int (x + v)) :: t) st σ) : g_V X Y d mc ms Q k kc ks pc (a0 :: a1 :: a2 :: a3 :: a4 :: a5 :: a6 :: a7 :: a8 :: a9 :: a10 :: a11 :: a12 :: some (.int x) :: t) st σ := by
  intro l p e s m args below meth c H locs lsA hC hP hz hS hl
  have hx := hC.1
  have hb := hC.2.1
  subst hv
  obtain ⟨j, hj⟩ := List.getElem?_of_mem (g_lv_mem.mpr ⟨13, .int x, rfl, rfl⟩ : (0 + 13, g_tv X.2.2.1 (.int x)) ∈ g_lv X.2.2.1 0 (a0 :: a1 :: a2 :: a3 :: a4 :: a5 :: a6 :: a7 :: a8 :: a9 :: a10 :: a11 :: a12 :: some (.int x) :: t))
  rw [Nat.zero_add] at hj
  exact lv_iinc hx hb hd hl hj rfl hn rfl (fun lsB hlB => h l p e s m args below meth c H locs lsB hC hP hz hS (g_st1 (i := 13) (v := .int (x + Int32.ofInt n)) (ls := (a0 :: a1 :: a2 :: a3 :: a4 :: a5 :: a6 :: a7 :: a8 :: a9 :: a10 :: a11 :: a12 :: some (.int x) :: t)) (fun a h9 _ => by cases h9; exact hc) hlB rfl))
theorem g_lstore_1 {a0 a1 b : Option Value} {t : List (Option Value)} {x : Int64} (hc : g_c1 a0 = true) (hn : 1 + 1 < Y.2.1) (hd : decode Y.1 pc = .ok (.lstore_n 1, 1)) (h : g_V X Y d mc ms Q k kc ks (pc + 1) (a0 :: some (.long x) :: none :: t) st σ) : g_V X Y d mc ms Q k kc ks pc (a0 :: a1 :: b :: t) (.long x :: st) σ := by
  intro l p e s m args below meth c H locs lsA hC hP hz hS hl
  have hx := hC.1
  have hb := hC.2.1
  exact lv_lstore_n hx hb hd rfl hl hn rfl (fun lsB hlB => h l p e s m args below meth c H locs lsB hC hP hz hS (g_st2 (i := 1) (v := .long x) (ls := (a0 :: a1 :: b :: t)) (fun a h9 _ => by cases h9; exact hc) hlB rfl))
theorem g_lstore_2 {a0 a1 a2 b : Option Value} {t : List (Option Value)} {x : Int64} (hc : g_c1 a1 = true) (hn : 2 + 1 < Y.2.1) (hd : decode Y.1 pc = .ok (.lstore_n 2, 1)) (h : g_V X Y d mc ms Q k kc ks (pc + 1) (a0 :: a1 :: some (.long x) :: none :: t) st σ) : g_V X Y d mc ms Q k kc ks pc (a0 :: a1 :: a2 :: b :: t) (.long x :: st) σ := by
  intro l p e s m args below meth c H locs lsA hC hP hz hS hl
  have hx := hC.1
  have hb := hC.2.1
  exact lv_lstore_n hx hb hd rfl hl hn rfl (fun lsB hlB => h l p e s m args below meth c H locs lsB hC hP hz hS (g_st2 (i := 2) (v := .long x) (ls := (a0 :: a1 :: a2 :: b :: t)) (fun a h9 _ => by cases h9; exact hc) hlB rfl))
theorem g_lstore_3 {a0 a1 a2 a3 b : Option Value} {t : List (Option Value)} {x : Int64} (hc : g_c1 a2 = true) (hn : 3 + 1 < Y.2.1) (hd : decode Y.1 pc = .ok (.lstore_n 3, 1)) (h : g_V X Y d mc ms Q k kc ks (pc + 1) (a0 :: a1 :: a2 :: some (.long x) :: none :: t) st σ) : g_V X Y d mc ms Q k kc ks pc (a0 :: a1 :: a2 :: a3 :: b :: t) (.long x :: st) σ := by
  intro l p e s m args below meth c H locs lsA hC hP hz hS hl
  have hx := hC.1
  have hb := hC.2.1
  exact lv_lstore_n hx hb hd rfl hl hn rfl (fun lsB hlB => h l p e s m args below meth c H locs lsB hC hP hz hS (g_st2 (i := 3) (v := .long x) (ls := (a0 :: a1 :: a2 :: a3 :: b :: t)) (fun a h9 _ => by cases h9; exact hc) hlB rfl))
theorem g_lstore_4 {a0 a1 a2 a3 a4 b : Option Value} {t : List (Option Value)} {x : Int64} (hc : g_c1 a3 = true) (hn : 4 + 1 < Y.2.1) (hd : decode Y.1 pc = .ok (.lstore 4, 2)) (h : g_V X Y d mc ms Q k kc ks (pc + 2) (a0 :: a1 :: a2 :: a3 :: some (.long x) :: none :: t) st σ) : g_V X Y d mc ms Q k kc ks pc (a0 :: a1 :: a2 :: a3 :: a4 :: b :: t) (.long x :: st) σ := by
  intro l p e s m args below meth c H locs lsA hC hP hz hS hl
  have hx := hC.1
  have hb := hC.2.1
  exact lv_lstore hx hb hd hl hn rfl (fun lsB hlB => h l p e s m args below meth c H locs lsB hC hP hz hS (g_st2 (i := 4) (v := .long x) (ls := (a0 :: a1 :: a2 :: a3 :: a4 :: b :: t)) (fun a h9 _ => by cases h9; exact hc) hlB rfl))
theorem g_lstore_5 {a0 a1 a2 a3 a4 a5 b : Option Value} {t : List (Option Value)} {x : Int64} (hc : g_c1 a4 = true) (hn : 5 + 1 < Y.2.1) (hd : decode Y.1 pc = .ok (.lstore 5, 2)) (h : g_V X Y d mc ms Q k kc ks (pc + 2) (a0 :: a1 :: a2 :: a3 :: a4 :: some (.long x) :: none :: t) st σ) : g_V X Y d mc ms Q k kc ks pc (a0 :: a1 :: a2 :: a3 :: a4 :: a5 :: b :: t) (.long x :: st) σ := by
  intro l p e s m args below meth c H locs lsA hC hP hz hS hl
  have hx := hC.1
  have hb := hC.2.1
  exact lv_lstore hx hb hd hl hn rfl (fun lsB hlB => h l p e s m args below meth c H locs lsB hC hP hz hS (g_st2 (i := 5) (v := .long x) (ls := (a0 :: a1 :: a2 :: a3 :: a4 :: a5 :: b :: t)) (fun a h9 _ => by cases h9; exact hc) hlB rfl))
theorem g_lstore_6 {a0 a1 a2 a3 a4 a5 a6 b : Option Value} {t : List (Option Value)} {x : Int64} (hc : g_c1 a5 = true) (hn : 6 + 1 < Y.2.1) (hd : decode Y.1 pc = .ok (.lstore 6, 2)) (h : g_V X Y d mc ms Q k kc ks (pc + 2) (a0 :: a1 :: a2 :: a3 :: a4 :: a5 :: some (.long x) :: none :: t) st σ) : g_V X Y d mc ms Q k kc ks pc (a0 :: a1 :: a2 :: a3 :: a4 :: a5 :: a6 :: b :: t) (.long x :: st) σ := by
  intro l p e s m args below meth c H locs lsA hC hP hz hS hl
  have hx := hC.1
  have hb := hC.2.1
  exact lv_lstore hx hb hd hl hn rfl (fun lsB hlB => h l p e s m args below meth c H locs lsB hC hP hz hS (g_st2 (i := 6) (v := .long x) (ls := (a0 :: a1 :: a2 :: a3 :: a4 :: a5 :: a6 :: b :: t)) (fun a h9 _ => by cases h9; exact hc) hlB rfl))
theorem g_lstore_7 {a0 a1 a2 a3 a4 a5 a6 a7 b : Option Value} {t : List (Option Value)} {x : Int64} (hc : g_c1 a6 = true) (hn : 7 + 1 < Y.2.1) (hd : decode Y.1 pc = .ok (.lstore 7, 2)) (h : g_V X Y d mc ms Q k kc ks (pc + 2) (a0 :: a1 :: a2 :: a3 :: a4 :: a5 :: a6 :: some (.long x) :: none :: t) st σ) : g_V X Y d mc ms Q k kc ks pc (a0 :: a1 :: a2 :: a3 :: a4 :: a5 :: a6 :: a7 :: b :: t) (.long x :: st) σ := by
  intro l p e s m args below meth c H locs lsA hC hP hz hS hl
  have hx := hC.1
  have hb := hC.2.1
  exact lv_lstore hx hb hd hl hn rfl (fun lsB hlB => h l p e s m args below meth c H locs lsB hC hP hz hS (g_st2 (i := 7) (v := .long x) (ls := (a0 :: a1 :: a2 :: a3 :: a4 :: a5 :: a6 :: a7 :: b :: t)) (fun a h9 _ => by cases h9; exact hc) hlB rfl))
theorem g_iadd {x y : Int32} (hd : decode Y.1 pc = .ok (.iadd, 1))  (h : g_V X Y d mc ms Q k kc ks (pc + 1) ls (.int (x + y) :: st) σ) : g_V X Y d mc ms Q k kc ks pc ls (.int y :: .int x :: st) σ := by
  intro l p e s m args below meth c H locs lsA hC hP hz hS hl
  have hx := hC.1
  have hb := hC.2.1
  exact lv_iadd hx hb hd (h l p e s m args below meth c H locs lsA hC hP hz hS hl)
theorem g_isub {x y : Int32} (hd : decode Y.1 pc = .ok (.isub, 1))  (h : g_V X Y d mc ms Q k kc ks (pc + 1) ls (.int (x - y) :: st) σ) : g_V X Y d mc ms Q k kc ks pc ls (.int y :: .int x :: st) σ := by
  intro l p e s m args below meth c H locs lsA hC hP hz hS hl
  have hx := hC.1
  have hb := hC.2.1
  exact lv_isub hx hb hd (h l p e s m args below meth c H locs lsA hC hP hz hS hl)
theorem g_imul {x y : Int32} (hd : decode Y.1 pc = .ok (.imul, 1))  (h : g_V X Y d mc ms Q k kc ks (pc + 1) ls (.int (x * y) :: st) σ) : g_V X Y d mc ms Q k kc ks pc ls (.int y :: .int x :: st) σ := by
  intro l p e s m args below meth c H locs lsA hC hP hz hS hl
  have hx := hC.1
  have hb := hC.2.1
  exact lv_imul hx hb hd (h l p e s m args below meth c H locs lsA hC hP hz hS hl)
theorem g_iand {x y : Int32} (hd : decode Y.1 pc = .ok (.iand, 1))  (h : g_V X Y d mc ms Q k kc ks (pc + 1) ls (.int (x &&& y) :: st) σ) : g_V X Y d mc ms Q k kc ks pc ls (.int y :: .int x :: st) σ := by
  intro l p e s m args below meth c H locs lsA hC hP hz hS hl
  have hx := hC.1
  have hb := hC.2.1
  exact lv_iand hx hb hd (h l p e s m args below meth c H locs lsA hC hP hz hS hl)
theorem g_ior {x y : Int32} (hd : decode Y.1 pc = .ok (.ior, 1))  (h : g_V X Y d mc ms Q k kc ks (pc + 1) ls (.int (x ||| y) :: st) σ) : g_V X Y d mc ms Q k kc ks pc ls (.int y :: .int x :: st) σ := by
  intro l p e s m args below meth c H locs lsA hC hP hz hS hl
  have hx := hC.1
  have hb := hC.2.1
  exact lv_ior hx hb hd (h l p e s m args below meth c H locs lsA hC hP hz hS hl)
theorem g_ixor {x y : Int32} (hd : decode Y.1 pc = .ok (.ixor, 1))  (h : g_V X Y d mc ms Q k kc ks (pc + 1) ls (.int (x ^^^ y) :: st) σ) : g_V X Y d mc ms Q k kc ks pc ls (.int y :: .int x :: st) σ := by
  intro l p e s m args below meth c H locs lsA hC hP hz hS hl
  have hx := hC.1
  have hb := hC.2.1
  exact lv_ixor hx hb hd (h l p e s m args below meth c H locs lsA hC hP hz hS hl)
theorem g_ishl {x y : Int32} (hd : decode Y.1 pc = .ok (.ishl, 1))  (h : g_V X Y d mc ms Q k kc ks (pc + 1) ls (.int (x <<< (y &&& 31)) :: st) σ) : g_V X Y d mc ms Q k kc ks pc ls (.int y :: .int x :: st) σ := by
  intro l p e s m args below meth c H locs lsA hC hP hz hS hl
  have hx := hC.1
  have hb := hC.2.1
  exact lv_ishl hx hb hd (h l p e s m args below meth c H locs lsA hC hP hz hS hl)
theorem g_ishr {x y : Int32} (hd : decode Y.1 pc = .ok (.ishr, 1))  (h : g_V X Y d mc ms Q k kc ks (pc + 1) ls (.int (x >>> (y &&& 31)) :: st) σ) : g_V X Y d mc ms Q k kc ks pc ls (.int y :: .int x :: st) σ := by
  intro l p e s m args below meth c H locs lsA hC hP hz hS hl
  have hx := hC.1
  have hb := hC.2.1
  exact lv_ishr hx hb hd (h l p e s m args below meth c H locs lsA hC hP hz hS hl)
theorem g_idiv {x y : Int32}  (hd : decode Y.1 pc = .ok (.idiv, 1)) (hne : ¬ y = 0) (h : g_V X Y d mc ms Q k kc ks (pc + 1) ls (.int (x / y) :: st) σ) : g_V X Y d mc ms Q k kc ks pc ls (.int y :: .int x :: st) σ := by
  intro l p e s m args below meth c H locs lsA hC hP hz hS hl
  have hx := hC.1
  have hb := hC.2.1
  exact lv_idiv hx hb hd hne (h l p e s m args below meth c H locs lsA hC hP hz hS hl)
theorem g_irem {x y : Int32}  (hd : decode Y.1 pc = .ok (.irem, 1)) (hne : ¬ y = 0) (h : g_V X Y d mc ms Q k kc ks (pc + 1) ls (.int (g_rem x y) :: st) σ) : g_V X Y d mc ms Q k kc ks pc ls (.int y :: .int x :: st) σ := by
  intro l p e s m args below meth c H locs lsA hC hP hz hS hl
  have hx := hC.1
  have hb := hC.2.1
  exact lv_irem hx hb hd hne (h l p e s m args below meth c H locs lsA hC hP hz hS hl)
theorem g_ladd {x y : Int64} (hd : decode Y.1 pc = .ok (.ladd, 1))  (h : g_V X Y d mc ms Q k kc ks (pc + 1) ls (.long (x + y) :: st) σ) : g_V X Y d mc ms Q k kc ks pc ls (.long y :: .long x :: st) σ := by
  intro l p e s m args below meth c H locs lsA hC hP hz hS hl
  have hx := hC.1
  have hb := hC.2.1
  exact lv_ladd hx hb hd (h l p e s m args below meth c H locs lsA hC hP hz hS hl)
theorem g_lsub {x y : Int64} (hd : decode Y.1 pc = .ok (.lsub, 1))  (h : g_V X Y d mc ms Q k kc ks (pc + 1) ls (.long (x - y) :: st) σ) : g_V X Y d mc ms Q k kc ks pc ls (.long y :: .long x :: st) σ := by
  intro l p e s m args below meth c H locs lsA hC hP hz hS hl
  have hx := hC.1
  have hb := hC.2.1
  exact lv_lsub hx hb hd (h l p e s m args below meth c H locs lsA hC hP hz hS hl)
theorem g_lmul {x y : Int64} (hd : decode Y.1 pc = .ok (.lmul, 1))  (h : g_V X Y d mc ms Q k kc ks (pc + 1) ls (.long (x * y) :: st) σ) : g_V X Y d mc ms Q k kc ks pc ls (.long y :: .long x :: st) σ := by
  intro l p e s m args below meth c H locs lsA hC hP hz hS hl
  have hx := hC.1
  have hb := hC.2.1
  exact lv_lmul hx hb hd (h l p e s m args below meth c H locs lsA hC hP hz hS hl)
theorem g_land {x y : Int64} (hd : decode Y.1 pc = .ok (.land, 1))  (h : g_V X Y d mc ms Q k kc ks (pc + 1) ls (.long (x &&& y) :: st) σ) : g_V X Y d mc ms Q k kc ks pc ls (.long y :: .long x :: st) σ := by
  intro l p e s m args below meth c H locs lsA hC hP hz hS hl
  have hx := hC.1
  have hb := hC.2.1
  exact lv_land hx hb hd (h l p e s m args below meth c H locs lsA hC hP hz hS hl)
theorem g_lor {x y : Int64} (hd : decode Y.1 pc = .ok (.lor, 1))  (h : g_V X Y d mc ms Q k kc ks (pc + 1) ls (.long (x ||| y) :: st) σ) : g_V X Y d mc ms Q k kc ks pc ls (.long y :: .long x :: st) σ := by
  intro l p e s m args below meth c H locs lsA hC hP hz hS hl
  have hx := hC.1
  have hb := hC.2.1
  exact lv_lor hx hb hd (h l p e s m args below meth c H locs lsA hC hP hz hS hl)
theorem g_lxor {x y : Int64} (hd : decode Y.1 pc = .ok (.lxor, 1))  (h : g_V X Y d mc ms Q k kc ks (pc + 1) ls (.long (x ^^^ y) :: st) σ) : g_V X Y d mc ms Q k kc ks pc ls (.long y :: .long x :: st) σ := by
  intro l p e s m args below meth c H locs lsA hC hP hz hS hl
  have hx := hC.1
  have hb := hC.2.1
  exact lv_lxor hx hb hd (h l p e s m args below meth c H locs lsA hC hP hz hS hl)
theorem g_ldiv {x y : Int64}  (hd : decode Y.1 pc = .ok (.ldiv, 1)) (hne : ¬ y = 0) (h : g_V X Y d mc ms Q k kc ks (pc + 1) ls (.long (x / y) :: st) σ) : g_V X Y d mc ms Q k kc ks pc ls (.long y :: .long x :: st) σ := by
  intro l p e s m args below meth c H locs lsA hC hP hz hS hl
  have hx := hC.1
  have hb := hC.2.1
  exact lv_ldiv hx hb hd hne (h l p e s m args below meth c H locs lsA hC hP hz hS hl)
theorem g_lrem {x y : Int64}  (hd : decode Y.1 pc = .ok (.lrem, 1)) (hne : ¬ y = 0) (h : g_V X Y d mc ms Q k kc ks (pc + 1) ls (.long (g_lrm x y) :: st) σ) : g_V X Y d mc ms Q k kc ks pc ls (.long y :: .long x :: st) σ := by
  intro l p e s m args below meth c H locs lsA hC hP hz hS hl
  have hx := hC.1
  have hb := hC.2.1
  exact lv_lrem hx hb hd hne (h l p e s m args below meth c H locs lsA hC hP hz hS hl)
def g_ush (x y : Int32) : Int32 := (x.toUInt32 >>> (y.toUInt32 &&& Int32.toUInt32 31)).toInt32
def g_lush (x : Int64) (y : Int32) : Int64 := (x.toUInt64 >>> (y.toInt64.toUInt64 &&& Int64.toUInt64 63)).toInt64
theorem g_iushr {x y : Int32} (hd : decode Y.1 pc = .ok (.iushr, 1))  (h : g_V X Y d mc ms Q k kc ks (pc + 1) ls (.int (g_ush x y) :: st) σ) : g_V X Y d mc ms Q k kc ks pc ls (.int y :: .int x :: st) σ := by
  intro l p e s m args below meth c H locs lsA hC hP hz hS hl
  have hx := hC.1
  have hb := hC.2.1
  exact lv_iushr hx hb hd rfl (h l p e s m args below meth c H locs lsA hC hP hz hS hl)
theorem g_lushr {x : Int64} {y : Int32} (hd : decode Y.1 pc = .ok (.lushr, 1))  (h : g_V X Y d mc ms Q k kc ks (pc + 1) ls (.long (g_lush x y) :: st) σ) : g_V X Y d mc ms Q k kc ks pc ls (.int y :: .long x :: st) σ := by
  intro l p e s m args below meth c H locs lsA hC hP hz hS hl
  have hx := hC.1
  have hb := hC.2.1
  exact lv_lushr hx hb hd rfl (h l p e s m args below meth c H locs lsA hC hP hz hS hl)
theorem g_lshl {x : Int64} {y : Int32} (hd : decode Y.1 pc = .ok (.lshl, 1))  (h : g_V X Y d mc ms Q k kc ks (pc + 1) ls (.long (x <<< (y.toInt64 &&& 63)) :: st) σ) : g_V X Y d mc ms Q k kc ks pc ls (.int y :: .long x :: st) σ := by
  intro l p e s m args below meth c H locs lsA hC hP hz hS hl
  have hx := hC.1
  have hb := hC.2.1
  exact lv_lshl hx hb hd rfl (h l p e s m args below meth c H locs lsA hC hP hz hS hl)
theorem g_lshr {x : Int64} {y : Int32} (hd : decode Y.1 pc = .ok (.lshr, 1))  (h : g_V X Y d mc ms Q k kc ks (pc + 1) ls (.long (x >>> (y.toInt64 &&& 63)) :: st) σ) : g_V X Y d mc ms Q k kc ks pc ls (.int y :: .long x :: st) σ := by
  intro l p e s m args below meth c H locs lsA hC hP hz hS hl
  have hx := hC.1
  have hb := hC.2.1
  exact lv_lshr hx hb hd rfl (h l p e s m args below meth c H locs lsA hC hP hz hS hl)
theorem g_i2l {x : Int32} (hd : decode Y.1 pc = .ok (.i2l, 1))  (h : g_V X Y d mc ms Q k kc ks (pc + 1) ls (.long x.toInt64 :: st) σ) : g_V X Y d mc ms Q k kc ks pc ls (.int x :: st) σ := by
  intro l p e s m args below meth c H locs lsA hC hP hz hS hl
  have hx := hC.1
  have hb := hC.2.1
  exact lv_i2l hx hb hd rfl (h l p e s m args below meth c H locs lsA hC hP hz hS hl)
theorem g_l2i {x : Int64} (hd : decode Y.1 pc = .ok (.l2i, 1))  (h : g_V X Y d mc ms Q k kc ks (pc + 1) ls (.int x.toInt32 :: st) σ) : g_V X Y d mc ms Q k kc ks pc ls (.long x :: st) σ := by
  intro l p e s m args below meth c H locs lsA hC hP hz hS hl
  have hx := hC.1
  have hb := hC.2.1
  exact lv_l2i hx hb hd rfl (h l p e s m args below meth c H locs lsA hC hP hz hS hl)
theorem g_i2b {x : Int32} (hd : decode Y.1 pc = .ok (.i2b, 1))  (h : g_V X Y d mc ms Q k kc ks (pc + 1) ls (.int x.toInt8.toInt32 :: st) σ) : g_V X Y d mc ms Q k kc ks pc ls (.int x :: st) σ := by
  intro l p e s m args below meth c H locs lsA hC hP hz hS hl
  have hx := hC.1
  have hb := hC.2.1
  exact lv_i2b hx hb hd rfl (h l p e s m args below meth c H locs lsA hC hP hz hS hl)
theorem g_i2s {x : Int32} (hd : decode Y.1 pc = .ok (.i2s, 1))  (h : g_V X Y d mc ms Q k kc ks (pc + 1) ls (.int x.toInt16.toInt32 :: st) σ) : g_V X Y d mc ms Q k kc ks pc ls (.int x :: st) σ := by
  intro l p e s m args below meth c H locs lsA hC hP hz hS hl
  have hx := hC.1
  have hb := hC.2.1
  exact lv_i2s hx hb hd rfl (h l p e s m args below meth c H locs lsA hC hP hz hS hl)
theorem g_ineg {x : Int32} (hd : decode Y.1 pc = .ok (.ineg, 1))  (h : g_V X Y d mc ms Q k kc ks (pc + 1) ls (.int (-x) :: st) σ) : g_V X Y d mc ms Q k kc ks pc ls (.int x :: st) σ := by
  intro l p e s m args below meth c H locs lsA hC hP hz hS hl
  have hx := hC.1
  have hb := hC.2.1
  exact lv_ineg hx hb hd (h l p e s m args below meth c H locs lsA hC hP hz hS hl)
theorem g_lcmp {x y : Int64} (hd : decode Y.1 pc = .ok (.lcmp, 1))  (h : g_V X Y d mc ms Q k kc ks (pc + 1) ls (.int (lg_cmp x y) :: st) σ) : g_V X Y d mc ms Q k kc ks pc ls (.long y :: .long x :: st) σ := by
  intro l p e s m args below meth c H locs lsA hC hP hz hS hl
  have hx := hC.1
  have hb := hC.2.1
  exact W.lcmp hx hb hd (h l p e s m args below meth c H locs lsA hC hP hz hS hl)
theorem g_tvc (ad : Nat → Nat) (v : Value) : (g_tv ad v).category = v.category := by cases v <;> rfl
theorem g_dup {va : Value}  (hd : decode Y.1 pc = .ok (.dup, 1)) (hva : va.category = 1) (h : g_V X Y d mc ms Q k kc ks (pc + 1) ls (va :: va :: st) σ) : g_V X Y d mc ms Q k kc ks pc ls (va :: st) σ := by
  intro l p e s m args below meth c H locs lsA hC hP hz hS hl
  have hx := hC.1
  have hb := hC.2.1
  exact lv_dup hx hb hd ((g_tvc _ _).trans hva) (h l p e s m args below meth c H locs lsA hC hP hz hS hl)
theorem g_pop {va : Value}  (hd : decode Y.1 pc = .ok (.pop, 1)) (hva : va.category = 1) (h : g_V X Y d mc ms Q k kc ks (pc + 1) ls st σ) : g_V X Y d mc ms Q k kc ks pc ls (va :: st) σ := by
  intro l p e s m args below meth c H locs lsA hC hP hz hS hl
  have hx := hC.1
  have hb := hC.2.1
  exact lv_pop hx hb hd ((g_tvc _ _).trans hva) (h l p e s m args below meth c H locs lsA hC hP hz hS hl)
theorem g_dup2 {va vb : Value}  (hd : decode Y.1 pc = .ok (.dup2, 1)) (hva : va.category = 1) (hvb : vb.category = 1) (h : g_V X Y d mc ms Q k kc ks (pc + 1) ls (va :: vb :: va :: vb :: st) σ) : g_V X Y d mc ms Q k kc ks pc ls (va :: vb :: st) σ := by
  intro l p e s m args below meth c H locs lsA hC hP hz hS hl
  have hx := hC.1
  have hb := hC.2.1
  exact lv_dup2_11 hx hb hd ((g_tvc _ _).trans hva) ((g_tvc _ _).trans hvb) (h l p e s m args below meth c H locs lsA hC hP hz hS hl)
theorem g_dup_x1 {va vb : Value}  (hd : decode Y.1 pc = .ok (.dup_x1, 1)) (hva : va.category = 1) (hvb : vb.category = 1) (h : g_V X Y d mc ms Q k kc ks (pc + 1) ls (va :: vb :: va :: st) σ) : g_V X Y d mc ms Q k kc ks pc ls (va :: vb :: st) σ := by
  intro l p e s m args below meth c H locs lsA hC hP hz hS hl
  have hx := hC.1
  have hb := hC.2.1
  exact lv_dup_x1 hx hb hd ((g_tvc _ _).trans hva) ((g_tvc _ _).trans hvb) (h l p e s m args below meth c H locs lsA hC hP hz hS hl)
theorem g_if_eq {x : Int32} {off : Int} (tgt : Nat) (ht : (pc : Int) + off = (tgt : Int)) (hd : decode Y.1 pc = .ok (.ifCond .eq off, 3)) (h1 : x = 0 → g_V X Y d mc ms Q k kc ks tgt ls st σ) (h2 : ¬ (x = 0) → g_V X Y d mc ms Q k kc ks (pc + 3) ls st σ) : g_V X Y d mc ms Q k kc ks pc ls (.int x :: st) σ := by
  intro l p e s m args below meth c H locs lsA hC hP hz hS hl
  have hx := hC.1
  have hb := hC.2.1
  exact lv_if_eq hx hb hd ht (fun c9 => h1 c9 l p e s m args below meth c H locs lsA hC hP hz hS hl) (fun c9 => h2 c9 l p e s m args below meth c H locs lsA hC hP hz hS hl)
theorem g_icmp_eq {x y : Int32} {off : Int} (tgt : Nat) (ht : (pc : Int) + off = (tgt : Int)) (hd : decode Y.1 pc = .ok (.if_icmp .eq off, 3)) (h1 : x = y → g_V X Y d mc ms Q k kc ks tgt ls st σ) (h2 : ¬ (x = y) → g_V X Y d mc ms Q k kc ks (pc + 3) ls st σ) : g_V X Y d mc ms Q k kc ks pc ls (.int y :: .int x :: st) σ := by
  intro l p e s m args below meth c H locs lsA hC hP hz hS hl
  have hx := hC.1
  have hb := hC.2.1
  exact lv_icmp_eq hx hb hd ht (fun c9 => h1 c9 l p e s m args below meth c H locs lsA hC hP hz hS hl) (fun c9 => h2 c9 l p e s m args below meth c H locs lsA hC hP hz hS hl)
theorem g_if_ne {x : Int32} {off : Int} (tgt : Nat) (ht : (pc : Int) + off = (tgt : Int)) (hd : decode Y.1 pc = .ok (.ifCond .ne off, 3)) (h1 : ¬ x = 0 → g_V X Y d mc ms Q k kc ks tgt ls st σ) (h2 : x = 0 → g_V X Y d mc ms Q k kc ks (pc + 3) ls st σ) : g_V X Y d mc ms Q k kc ks pc ls (.int x :: st) σ := by
  intro l p e s m args below meth c H locs lsA hC hP hz hS hl
  have hx := hC.1
  have hb := hC.2.1
  exact lv_if_ne hx hb hd ht (fun c9 => h1 c9 l p e s m args below meth c H locs lsA hC hP hz hS hl) (fun c9 => h2 c9 l p e s m args below meth c H locs lsA hC hP hz hS hl)
theorem g_icmp_ne {x y : Int32} {off : Int} (tgt : Nat) (ht : (pc : Int) + off = (tgt : Int)) (hd : decode Y.1 pc = .ok (.if_icmp .ne off, 3)) (h1 : ¬ x = y → g_V X Y d mc ms Q k kc ks tgt ls st σ) (h2 : x = y → g_V X Y d mc ms Q k kc ks (pc + 3) ls st σ) : g_V X Y d mc ms Q k kc ks pc ls (.int y :: .int x :: st) σ := by
  intro l p e s m args below meth c H locs lsA hC hP hz hS hl
  have hx := hC.1
  have hb := hC.2.1
  exact lv_icmp_ne hx hb hd ht (fun c9 => h1 c9 l p e s m args below meth c H locs lsA hC hP hz hS hl) (fun c9 => h2 c9 l p e s m args below meth c H locs lsA hC hP hz hS hl)
theorem g_if_lt {x : Int32} {off : Int} (tgt : Nat) (ht : (pc : Int) + off = (tgt : Int)) (hd : decode Y.1 pc = .ok (.ifCond .lt off, 3)) (h1 : x < 0 → g_V X Y d mc ms Q k kc ks tgt ls st σ) (h2 : ¬ (x < 0) → g_V X Y d mc ms Q k kc ks (pc + 3) ls st σ) : g_V X Y d mc ms Q k kc ks pc ls (.int x :: st) σ := by
  intro l p e s m args below meth c H locs lsA hC hP hz hS hl
  have hx := hC.1
  have hb := hC.2.1
  exact lv_if_lt hx hb hd ht (fun c9 => h1 c9 l p e s m args below meth c H locs lsA hC hP hz hS hl) (fun c9 => h2 c9 l p e s m args below meth c H locs lsA hC hP hz hS hl)
theorem g_icmp_lt {x y : Int32} {off : Int} (tgt : Nat) (ht : (pc : Int) + off = (tgt : Int)) (hd : decode Y.1 pc = .ok (.if_icmp .lt off, 3)) (h1 : x < y → g_V X Y d mc ms Q k kc ks tgt ls st σ) (h2 : ¬ (x < y) → g_V X Y d mc ms Q k kc ks (pc + 3) ls st σ) : g_V X Y d mc ms Q k kc ks pc ls (.int y :: .int x :: st) σ := by
  intro l p e s m args below meth c H locs lsA hC hP hz hS hl
  have hx := hC.1
  have hb := hC.2.1
  exact lv_icmp_lt hx hb hd ht (fun c9 => h1 c9 l p e s m args below meth c H locs lsA hC hP hz hS hl) (fun c9 => h2 c9 l p e s m args below meth c H locs lsA hC hP hz hS hl)
theorem g_if_ge {x : Int32} {off : Int} (tgt : Nat) (ht : (pc : Int) + off = (tgt : Int)) (hd : decode Y.1 pc = .ok (.ifCond .ge off, 3)) (h1 : x ≥ 0 → g_V X Y d mc ms Q k kc ks tgt ls st σ) (h2 : ¬ (x ≥ 0) → g_V X Y d mc ms Q k kc ks (pc + 3) ls st σ) : g_V X Y d mc ms Q k kc ks pc ls (.int x :: st) σ := by
  intro l p e s m args below meth c H locs lsA hC hP hz hS hl
  have hx := hC.1
  have hb := hC.2.1
  exact lv_if_ge hx hb hd ht (fun c9 => h1 c9 l p e s m args below meth c H locs lsA hC hP hz hS hl) (fun c9 => h2 c9 l p e s m args below meth c H locs lsA hC hP hz hS hl)
theorem g_icmp_ge {x y : Int32} {off : Int} (tgt : Nat) (ht : (pc : Int) + off = (tgt : Int)) (hd : decode Y.1 pc = .ok (.if_icmp .ge off, 3)) (h1 : x ≥ y → g_V X Y d mc ms Q k kc ks tgt ls st σ) (h2 : ¬ (x ≥ y) → g_V X Y d mc ms Q k kc ks (pc + 3) ls st σ) : g_V X Y d mc ms Q k kc ks pc ls (.int y :: .int x :: st) σ := by
  intro l p e s m args below meth c H locs lsA hC hP hz hS hl
  have hx := hC.1
  have hb := hC.2.1
  exact lv_icmp_ge hx hb hd ht (fun c9 => h1 c9 l p e s m args below meth c H locs lsA hC hP hz hS hl) (fun c9 => h2 c9 l p e s m args below meth c H locs lsA hC hP hz hS hl)
theorem g_if_gt {x : Int32} {off : Int} (tgt : Nat) (ht : (pc : Int) + off = (tgt : Int)) (hd : decode Y.1 pc = .ok (.ifCond .gt off, 3)) (h1 : x > 0 → g_V X Y d mc ms Q k kc ks tgt ls st σ) (h2 : ¬ (x > 0) → g_V X Y d mc ms Q k kc ks (pc + 3) ls st σ) : g_V X Y d mc ms Q k kc ks pc ls (.int x :: st) σ := by
  intro l p e s m args below meth c H locs lsA hC hP hz hS hl
  have hx := hC.1
  have hb := hC.2.1
  exact lv_if_gt hx hb hd ht (fun c9 => h1 c9 l p e s m args below meth c H locs lsA hC hP hz hS hl) (fun c9 => h2 c9 l p e s m args below meth c H locs lsA hC hP hz hS hl)
theorem g_icmp_gt {x y : Int32} {off : Int} (tgt : Nat) (ht : (pc : Int) + off = (tgt : Int)) (hd : decode Y.1 pc = .ok (.if_icmp .gt off, 3)) (h1 : x > y → g_V X Y d mc ms Q k kc ks tgt ls st σ) (h2 : ¬ (x > y) → g_V X Y d mc ms Q k kc ks (pc + 3) ls st σ) : g_V X Y d mc ms Q k kc ks pc ls (.int y :: .int x :: st) σ := by
  intro l p e s m args below meth c H locs lsA hC hP hz hS hl
  have hx := hC.1
  have hb := hC.2.1
  exact lv_icmp_gt hx hb hd ht (fun c9 => h1 c9 l p e s m args below meth c H locs lsA hC hP hz hS hl) (fun c9 => h2 c9 l p e s m args below meth c H locs lsA hC hP hz hS hl)
theorem g_if_le {x : Int32} {off : Int} (tgt : Nat) (ht : (pc : Int) + off = (tgt : Int)) (hd : decode Y.1 pc = .ok (.ifCond .le off, 3)) (h1 : x ≤ 0 → g_V X Y d mc ms Q k kc ks tgt ls st σ) (h2 : ¬ (x ≤ 0) → g_V X Y d mc ms Q k kc ks (pc + 3) ls st σ) : g_V X Y d mc ms Q k kc ks pc ls (.int x :: st) σ := by
  intro l p e s m args below meth c H locs lsA hC hP hz hS hl
  have hx := hC.1
  have hb := hC.2.1
  exact lv_if_le hx hb hd ht (fun c9 => h1 c9 l p e s m args below meth c H locs lsA hC hP hz hS hl) (fun c9 => h2 c9 l p e s m args below meth c H locs lsA hC hP hz hS hl)
theorem g_icmp_le {x y : Int32} {off : Int} (tgt : Nat) (ht : (pc : Int) + off = (tgt : Int)) (hd : decode Y.1 pc = .ok (.if_icmp .le off, 3)) (h1 : x ≤ y → g_V X Y d mc ms Q k kc ks tgt ls st σ) (h2 : ¬ (x ≤ y) → g_V X Y d mc ms Q k kc ks (pc + 3) ls st σ) : g_V X Y d mc ms Q k kc ks pc ls (.int y :: .int x :: st) σ := by
  intro l p e s m args below meth c H locs lsA hC hP hz hS hl
  have hx := hC.1
  have hb := hC.2.1
  exact lv_icmp_le hx hb hd ht (fun c9 => h1 c9 l p e s m args below meth c H locs lsA hC hP hz hS hl) (fun c9 => h2 c9 l p e s m args below meth c H locs lsA hC hP hz hS hl)
theorem g_goto {off : Int} (tgt : Nat) (ht : (pc : Int) + off = (tgt : Int)) (hd : decode Y.1 pc = .ok (.goto off, 3)) (h : g_V X Y d mc ms Q k kc ks tgt ls st σ) : g_V X Y d mc ms Q k kc ks pc ls st σ := by
  intro l p e s m args below meth c H locs lsA hC hP hz hS hl
  have hx := hC.1
  have hb := hC.2.1
  exact lv_goto hx hb hd ht (h l p e s m args below meth c H locs lsA hC hP hz hS hl)
theorem g_switchT {dflt lo hi : Int} {offs : Array Int} {len : Nat} {x : Int32} (hd : decode Y.1 pc = .ok (.tableswitch dflt lo hi offs, len))
    (h : g_V X Y d mc ms Q k kc ks ((pc : Int) + (if x.toInt < lo ∨ hi < x.toInt then dflt else (offs[(x.toInt - lo).toNat]?).getD 0)).toNat ls st σ) (h0 : ∀ z : Int, (pc : Int) + (if x.toInt < lo ∨ hi < x.toInt then dflt else (offs[(x.toInt - lo).toNat]?).getD 0) = z → 0 ≤ z) (h1 : hi - lo < offs.size) : g_V X Y d mc ms Q k kc ks pc ls (.int x :: st) σ := by
  intro l p e s m args below meth c H locs lsA hC hP hz hS hl
  have hx := hC.1
  have hb := hC.2.1
  by_cases c9 : x.toInt < lo ∨ hi < x.toInt
  · rw [if_pos c9] at h
    have h2 := h0 _ rfl
    rw [if_pos c9] at h2
    exact lv_tableOut hx hb hd c9 (Int.toNat_of_nonneg h2).symm (h l p e s m args below meth c H locs lsA hC hP hz hS hl)
  · rw [if_neg c9] at h
    have h2 := h0 _ rfl
    rw [if_neg c9] at h2
    have hlt : (x.toInt - lo).toNat < offs.size := by omega
    rw [Array.getElem?_eq_getElem hlt, Option.getD_some] at h h2
    exact lv_tableIn hx hb hd (fun q => c9 (Or.inl q)) (fun q => c9 (Or.inr q)) (Array.getElem?_eq_getElem hlt) (Int.toNat_of_nonneg h2).symm (h l p e s m args below meth c H locs lsA hC hP hz hS hl)
theorem g_tabIn {dflt lo hi : Int} {offs : Array Int} {len : Nat} {x : Int32} {off : Int} (tgt : Nat) (hd : decode Y.1 pc = .ok (.tableswitch dflt lo hi offs, len)) (h1 : ¬ x.toInt < lo) (h2 : ¬ hi < x.toInt) (ho : offs[(x.toInt - lo).toNat]? = some off) (ht : (pc : Int) + off = (tgt : Int)) (h : g_V X Y d mc ms Q k kc ks tgt ls st σ) : g_V X Y d mc ms Q k kc ks pc ls (.int x :: st) σ := by
  intro l p e s m args below meth c H locs lsA hC hP hz hS hl
  have hx := hC.1
  have hb := hC.2.1
  exact lv_tableIn hx hb hd h1 h2 ho ht (h l p e s m args below meth c H locs lsA hC hP hz hS hl)
theorem g_tabOut {dflt lo hi : Int} {offs : Array Int} {len : Nat} {x : Int32} (tgt : Nat) (hd : decode Y.1 pc = .ok (.tableswitch dflt lo hi offs, len)) (h1 : x.toInt < lo ∨ hi < x.toInt) (ht : (pc : Int) + dflt = (tgt : Int)) (h : g_V X Y d mc ms Q k kc ks tgt ls st σ) : g_V X Y d mc ms Q k kc ks pc ls (.int x :: st) σ := by
  intro l p e s m args below meth c H locs lsA hC hP hz hS hl
  have hx := hC.1
  have hb := hC.2.1
  exact lv_tableOut hx hb hd h1 ht (h l p e s m args below meth c H locs lsA hC hP hz hS hl)
theorem g_lookup {dflt : Int} {ps : Array (Int × Int)} {len : Nat} {x : Int32} {off : Int} (tgt : Nat) (hd : decode Y.1 pc = .ok (.lookupswitch dflt ps, len)) (hp : (ps.toList.zip (ps.toList.drop 1)).all (fun (a, next) => a.1 < next.1) = true) (ho : Op.lookupswitch.offset ps.toList dflt x.toInt = off) (ht : (pc : Int) + off = (tgt : Int)) (h : g_V X Y d mc ms Q k kc ks tgt ls st σ) : g_V X Y d mc ms Q k kc ks pc ls (.int x :: st) σ := by
  intro l p e s m args below meth c H locs lsA hC hP hz hS hl
  have hx := hC.1
  have hb := hC.2.1
  exact lv_lookup hx hb hd hp ho ht (h l p e s m args below meth c H locs lsA hC hP hz hS hl)
theorem g_ifnonnull {x : Nat} {off : Int} (tgt : Nat) (ht : (pc : Int) + off = (tgt : Int)) (hd : decode Y.1 pc = .ok (.ifnonnull off, 3)) (h : g_V X Y d mc ms Q k kc ks tgt ls st σ) : g_V X Y d mc ms Q k kc ks pc ls (.ref x :: st) σ := by
  intro l p e s m args below meth c H locs lsA hC hP hz hS hl
  have hx := hC.1
  have hb := hC.2.1
  exact lv_ifnonnull hx hb hd ht (h l p e s m args below meth c H locs lsA hC hP hz hS hl)
theorem g_ifnonnullN {off : Int} (hd : decode Y.1 pc = .ok (.ifnonnull off, 3)) (h : g_V X Y d mc ms Q k kc ks (pc + 3) ls st σ) : g_V X Y d mc ms Q k kc ks pc ls (.null :: st) σ := by
  intro l p e s m args below meth c H locs lsA hC hP hz hS hl
  have hx := hC.1
  have hb := hC.2.1
  exact lv_ifnonnullN hx hb hd (h l p e s m args below meth c H locs lsA hC hP hz hS hl)
theorem g_ldc {v : Int32} {index : Nat} (hc : Cond.constant Y.2.2.2.1 index v ∈ g_T) (hd : decode Y.1 pc = .ok (.ldc index, 2)) (h : g_V X Y d mc ms Q k kc ks (pc + 2) ls (.int v :: st) σ) : g_V X Y d mc ms Q k kc ks pc ls st σ := by
  intro l p e s m args below meth c H locs lsA hC hP hz hS hl
  have hx := hC.1
  have hb := hC.2.1
  exact W.ldc hx hb hC.2.2.2.2.1 (hC.2.2.2.2.2.1 _ hc) rfl hd (h l p e s m args below meth c H locs lsA hC hP hz hS hl)
theorem g_ldc2 {v : Int64} {index : Nat} (hc : Cond.constantLong Y.2.2.2.1 index v ∈ g_T) (hd : decode Y.1 pc = .ok (.ldc2_w index, 3)) (h : g_V X Y d mc ms Q k kc ks (pc + 3) ls (.long v :: st) σ) : g_V X Y d mc ms Q k kc ks pc ls st σ := by
  intro l p e s m args below meth c H locs lsA hC hP hz hS hl
  have hx := hC.1
  have hb := hC.2.1
  exact W.ldc2 hx hb hC.2.2.2.2.1 (hC.2.2.2.2.2.1 _ hc) rfl hd (h l p e s m args below meth c H locs lsA hC hP hz hS hl)
theorem g_less (ls2 : List (Option Value)) (hs : g_sub ls2 ls) (h : g_V X Y d mc ms Q k kc ks pc ls2 st σ) : g_V X Y d mc ms Q k kc ks pc ls st σ := by
  intro l p e s m args below meth c H locs lsA hC hP hz hS hl
  have hx := hC.1
  have hb := hC.2.1
  exact h l p e s m args below meth c H locs lsA hC hP hz hS (g_lv_sub hs hl)
theorem g_iald {a n : Nat} {i : Int32} (hs : X.2.2.2.1 (k + kc) a = some (0, 0, n)) (hin : vp_in i n) (hd : decode Y.1 pc = .ok (.iaload, 1)) (h : g_V X Y d mc ms Q k kc ks (pc + 1) ls (.int (σ.1 a i.toNatClampNeg) :: st) σ) : g_V X Y d mc ms Q k kc ks pc ls (.int i :: .ref a :: st) σ := by
  intro l p e s m args below meth c H locs lsA hC hP hz hS hl
  have hx := hC.1
  have hb := hC.2.1
  have hK := hC.2.2.2.2.2.2.2.2.1
  have hlt : i.toNatClampNeg < n := Nat.not_le.mp fun q => hin (Or.inr q)
  have hq : H[X.2.2.1 a]? = some (arrV (X.2.1 0) n (fun j => .int (σ.1 a j))) := hP.1 a _ hs
  exact W.iald (v := .int (σ.1 a i.toNatClampNeg)) hx hb hq ((hK.2 0 _ rfl).1 n _) (fun q => by cases q) (by rw [arrV_size]; exact hin) (by rw [arrV_read _ _ hlt]) rfl rfl hd (h l p e s m args below meth c H locs lsA hC hP hz hS hl)
theorem g_iast {a n : Nat} {i x : Int32} (hs : X.2.2.2.1 (k + kc) a = some (0, 0, n)) (hin : vp_in i n) (hd : decode Y.1 pc = .ok (.iastore, 1)) (h : g_V X Y d mc ms Q k kc ks (pc + 1) ls st (g_set σ.1 a i.toNatClampNeg x, σ.2)) : g_V X Y d mc ms Q k kc ks pc ls (.int x :: .int i :: .ref a :: st) σ := by
  intro l p e s m args below meth c H locs lsA hC hP hz hS hl
  have hx := hC.1
  have hb := hC.2.1
  have hK := hC.2.2.2.2.2.2.2.2.1
  have hJ := hC.2.2.2.2.2.2.2.2.2.1
  have hq : H[X.2.2.1 a]? = some (arrV (X.2.1 0) n (fun j => .int (σ.1 a j))) := hP.1 a _ hs
  refine W.iast hx hb hq ((hK.2 0 _ rfl).1 n _) (fun q => by cases q) (by rw [arrV_size]; exact hin) rfl rfl hd fun H1 e1 z oq => ?_
  refine h l p e s m args below meth c H1 _ lsA hC (g_P_put hJ hP z hs oq (fun j hj => ⟨?_, rfl⟩) ?_) (z.trans hz) (hS.put z oq (hJ.2 _ a _ hs)) hl
  · funext b
    simp [g_set, hj]
  · show H1[X.2.2.1 a]? = _
    rw [e1, arrV_store]
    congr 2
    funext j
    simp only [updV, g_set, true_and]
    split <;> rfl
theorem g_alen {a n : Nat} (hs : X.2.2.2.1 (k + kc) a = some (0, 0, n)) (hd : decode Y.1 pc = .ok (.arraylength, 1)) (h : g_V X Y d mc ms Q k kc ks (pc + 1) ls (.int (Int32.ofNat n) :: st) σ) : g_V X Y d mc ms Q k kc ks pc ls (.ref a :: st) σ := by
  intro l p e s m args below meth c H locs lsA hC hP hz hS hl
  have hx := hC.1
  have hb := hC.2.1
  have hK := hC.2.2.2.2.2.2.2.2.1
  have hq : H[X.2.2.1 a]? = some (arrV (X.2.1 0) n (fun j => .int (σ.1 a j))) := hP.1 a _ hs
  exact W.alen (n := Int32.ofNat n) hx hb hq ((hK.2 0 _ rfl).1 n _) (by rw [arrV_size] <;> rfl) rfl rfl hd (h l p e s m args below meth c H locs lsA hC hP hz hS hl)
theorem g_aald1 {a n r : Nat} {i : Int32} (hs : X.2.2.2.1 (k + kc) a = some (1, 1, n)) (hin : vp_in i n) (hr : σ.2 a i.toNatClampNeg = some r) (hd : decode Y.1 pc = .ok (.aaload, 1)) (h : g_V X Y d mc ms Q k kc ks (pc + 1) ls (.ref r :: st) σ) : g_V X Y d mc ms Q k kc ks pc ls (.int i :: .ref a :: st) σ := by
  intro l p e s m args below meth c H locs lsA hC hP hz hS hl
  have hx := hC.1
  have hb := hC.2.1
  have hK := hC.2.2.2.2.2.2.2.2.1
  have hlt : i.toNatClampNeg < n := Nat.not_le.mp fun q => hin (Or.inr q)
  have hq : H[X.2.2.1 a]? = some (arrV (X.2.1 1) n (fun j => va_rf ((σ.2 a j).map X.2.2.1))) := hP.1 a _ hs
  exact W.aald (v := .ref (X.2.2.1 r)) (ty := .object "OvenPairs$Oven") hx hb hq ((hK.2 1 _ rfl).1 n _) rfl (fun q => by cases q) (by rw [arrV_size]; exact hin) (by rw [arrV_read _ _ hlt, hr]; rfl) rfl rfl hd (h l p e s m args below meth c H locs lsA hC hP hz hS hl)
theorem g_aald2 {a n r : Nat} {i : Int32} (hs : X.2.2.2.1 (k + kc) a = some (1, 2, n)) (hin : vp_in i n) (hr : σ.2 a i.toNatClampNeg = some r) (hd : decode Y.1 pc = .ok (.aaload, 1)) (h : g_V X Y d mc ms Q k kc ks (pc + 1) ls (.ref r :: st) σ) : g_V X Y d mc ms Q k kc ks pc ls (.int i :: .ref a :: st) σ := by
  intro l p e s m args below meth c H locs lsA hC hP hz hS hl
  have hx := hC.1
  have hb := hC.2.1
  have hK := hC.2.2.2.2.2.2.2.2.1
  have hlt : i.toNatClampNeg < n := Nat.not_le.mp fun q => hin (Or.inr q)
  have hq : H[X.2.2.1 a]? = some (arrV (X.2.1 2) n (fun j => va_rf ((σ.2 a j).map X.2.2.1))) := hP.1 a _ hs
  exact W.aald (v := .ref (X.2.2.1 r)) (ty := .array .int) hx hb hq ((hK.2 2 _ rfl).1 n _) rfl (fun q => by cases q) (by rw [arrV_size]; exact hin) (by rw [arrV_read _ _ hlt, hr]; rfl) rfl rfl hd (h l p e s m args below meth c H locs lsA hC hP hz hS hl)
/-- a link of class 'own' to field kf of class ci (of N fields) -/
def g_FL (own : String) (index ci kf N : Nat) : Prop := ∃ (C : String) (T : u_T), g_cl[ci]? = some (C, T, N) ∧ (∀ w ∈ u_ws C T N, w ∈ g_T) ∧ kf < N ∧ Cond.fieldLink own index (T kf).1 (T kf).2.1 (T kf).2.2.1 ∈ g_T ∧ (∀ k, k < N → parseFieldDescriptor (T k).2.2.1 = some (g_ty ci k)) ∧ (∀ a, a < N → ∀ b, b < N → a ≠ b → (T a).2.1 ≠ (T b).2.1)
/-- .. that isn't final -/
def g_FW (ci kf : Nat) : Prop := ∀ (C : String) (T : u_T) (N : Nat), g_cl[ci]? = some (C, T, N) → (T kf).2.2.2 = false
/-- .. that is, and is of the class itself -/
def g_FF (own : String) (ci kf : Nat) : Prop := ∀ (C : String) (T : u_T) (N : Nat), g_cl[ci]? = some (C, T, N) → (T kf).2.2.2 = true ∧ (T kf).1 = own
theorem g_get {a index ci kf N : Nat} (hf : g_FL Y.2.2.2.1 index ci kf N) (hs : X.2.2.2.1 (k + kc) a = some (2, ci, N)) (hd : decode Y.1 pc = .ok (.getfield index, 3)) {v : Value} (hv : g_fv X.2.2.1 σ ci a kf = g_tv X.2.2.1 v) (h : g_V X Y d mc ms Q k kc ks (pc + 3) ls (v :: st) σ) : g_V X Y d mc ms Q k kc ks pc ls (.ref a :: st) σ := by
  intro l p e s m args below meth c H locs lsA hC hP hz hS hl
  have hx := hC.1
  have hb := hC.2.1
  obtain ⟨C, T, hc, hin, hk, hlink, -, -⟩ := hf
  obtain ⟨-, -, -, -, hown, hts, -, -, hK, hJ, -⟩ := id hC
  obtain ⟨cell, q1, q2, q3, q4⟩ : t_OB (X.2.2.1 a) (X.1.1 ci) N (X.1.2 ci) H (g_fv X.2.2.1 σ ci a) := hP.1 a _ hs
  obtain ⟨hS2, hfc, kC, hkC, hkind⟩ := hK.1 ci _ hc
  obtain ⟨cf, kf2, fi, f, hi, hsl⟩ := hS2 kf hk
  refine W.getf hx hb hown (hts _ hlink) hi (u_facts hfc hkC (u_lays hts hin hk) hi).1 q1 (by rw [q3]; exact fun q => by cases q) (v := g_tv X.2.2.1 v) ?_ rfl rfl hd (h l p e s m args below meth c H locs lsA hC hP hz hS hl)
  rw [hsl, q4 kf hk, hv]
theorem g_getI {a index ci kf N : Nat} (hf : g_FL Y.2.2.2.1 index ci kf N) (hi : g_fI ci kf = true) (hs : X.2.2.2.1 (k + kc) a = some (2, ci, N)) (hd : decode Y.1 pc = .ok (.getfield index, 3)) (h : g_V X Y d mc ms Q k kc ks (pc + 3) ls (.int (σ.1 a kf) :: st) σ) : g_V X Y d mc ms Q k kc ks pc ls (.ref a :: st) σ :=
  g_get hf hs hd (v := .int (σ.1 a kf)) (by rw [g_fv, if_pos hi]; rfl) h
theorem g_getR {a index ci kf N r : Nat} (hf : g_FL Y.2.2.2.1 index ci kf N) (hi : g_fI ci kf = false) (hs : X.2.2.2.1 (k + kc) a = some (2, ci, N)) (hr : σ.2 a kf = some r) (hd : decode Y.1 pc = .ok (.getfield index, 3)) (h : g_V X Y d mc ms Q k kc ks (pc + 3) ls (.ref r :: st) σ) : g_V X Y d mc ms Q k kc ks pc ls (.ref a :: st) σ :=
  g_get hf hs hd (v := .ref r) (by rw [g_fv, if_neg (by rw [hi]; decide), hr]; rfl) h
theorem g_putI {a index ci kf N : Nat} {x : Int32} (hf : g_FL Y.2.2.2.1 index ci kf N) (hw : g_FW ci kf) (hi : g_fI ci kf = true) (hn : narrow (g_ty ci kf) (.int x) = .int x) (hfit : fits (g_ty ci kf) (.int x) = true) (hs : X.2.2.2.1 (k + kc) a = some (2, ci, N)) (hd : decode Y.1 pc = .ok (.putfield index, 3)) (h : g_V X Y d mc ms Q k kc ks (pc + 3) ls st (g_set σ.1 a kf x, σ.2)) : g_V X Y d mc ms Q k kc ks pc ls (.int x :: .ref a :: st) σ := by
  intro l p e s m args below meth c H locs lsA hC hP hz hS hl
  have hx := hC.1
  have hb := hC.2.1
  obtain ⟨C, T, hc, hin, hk, hlink, hty, hnm⟩ := hf
  obtain ⟨-, -, -, -, hown, hts, -, -, hK, hJ, -⟩ := id hC
  have hap := va_apart (own := Y.2.2.2.1) hts hin (g_ty ci) hty hnm hK hc
  obtain ⟨cell, q1, q2, q3, q4⟩ : t_OB (X.2.2.1 a) (X.1.1 ci) N (X.1.2 ci) H (g_fv X.2.2.1 σ ci a) := hP.1 a _ hs
  obtain ⟨hS2, hfc, kC, hkC, hkind⟩ := hK.1 ci _ hc
  obtain ⟨cf, kf2, fi, f, hi2, hsl⟩ := hS2 kf hk
  have hlay := hts _ (hin _ (u_in_lay hk))
  unfold u_lay at hlay
  rw [if_neg (by rw [hw C T N hc]; decide)] at hlay
  have hst := (u_facts hfc hkC (u_lays hts hin hk) hi2).1
  have h6 := u_store hfc hkC hkind hlay hi2 (hty kf hk) hn hfit
  refine W.putK hx hb (f := f) ⟨hown, hts _ hlink, ⟨_, _, _, hi2⟩, hst⟩ (by rw [q2]; exact h6) q1 q3 (by rw [hsl]; exact k2_hasslot (q4 kf hk)) rfl rfl hd fun H1 e1 e2 e3 => ?_
  rw [hsl] at e1 ⊢
  refine h l p e s m args below meth c H1 _ lsA hC (g_P_put hJ hP e2 hs e3 (fun j hj => ⟨?_, rfl⟩) ?_) (e2.trans hz) (hS.put e2 e3 (hJ.2 _ a _ hs)) hl
  · funext b
    simp [g_set, hj]
  · refine t_OB.to (V := updV (g_fv X.2.2.1 σ ci a) kf (.int x)) ⟨_, e1, q2, q3, t_set q4 hap hk _⟩ (fun j _ => ?_)
    simp only [updV, g_fv, g_set, true_and]
    by_cases e : j = kf
    · subst e
      simp [hi]
    · simp [e]
theorem g_putR {a index ci kf N r : Nat} (hf : g_FL Y.2.2.2.1 index ci kf N) (hw : g_FW ci kf) (hi : g_fI ci kf = false) (hn : narrow (g_ty ci kf) (.ref (X.2.2.1 r)) = .ref (X.2.2.1 r)) (hfit : fits (g_ty ci kf) (.ref (X.2.2.1 r)) = true) (hs : X.2.2.2.1 (k + kc) a = some (2, ci, N)) (hd : decode Y.1 pc = .ok (.putfield index, 3)) (h : g_V X Y d mc ms Q k kc ks (pc + 3) ls st (σ.1, g_sef σ.2 a kf (some r))) : g_V X Y d mc ms Q k kc ks pc ls (.ref r :: .ref a :: st) σ := by
  intro l p e s m args below meth c H locs lsA hC hP hz hS hl
  have hx := hC.1
  have hb := hC.2.1
  obtain ⟨C, T, hc, hin, hk, hlink, hty, hnm⟩ := hf
  obtain ⟨-, -, -, -, hown, hts, -, -, hK, hJ, -⟩ := id hC
  have hap := va_apart (own := Y.2.2.2.1) hts hin (g_ty ci) hty hnm hK hc
  obtain ⟨cell, q1, q2, q3, q4⟩ : t_OB (X.2.2.1 a) (X.1.1 ci) N (X.1.2 ci) H (g_fv X.2.2.1 σ ci a) := hP.1 a _ hs
  obtain ⟨hS2, hfc, kC, hkC, hkind⟩ := hK.1 ci _ hc
  obtain ⟨cf, kf2, fi, f, hi2, hsl⟩ := hS2 kf hk
  have hlay := hts _ (hin _ (u_in_lay hk))
  unfold u_lay at hlay
  rw [if_neg (by rw [hw C T N hc]; decide)] at hlay
  have hst := (u_facts hfc hkC (u_lays hts hin hk) hi2).1
  have h6 := u_store hfc hkC hkind hlay hi2 (hty kf hk) hn hfit
  refine W.putK hx hb (f := f) ⟨hown, hts _ hlink, ⟨_, _, _, hi2⟩, hst⟩ (by rw [q2]; exact h6) q1 q3 (by rw [hsl]; exact k2_hasslot (q4 kf hk)) rfl rfl hd fun H1 e1 e2 e3 => ?_
  rw [hsl] at e1 ⊢
  refine h l p e s m args below meth c H1 _ lsA hC (g_P_put hJ hP e2 hs e3 (fun j hj => ⟨rfl, ?_⟩) ?_) (e2.trans hz) (hS.put e2 e3 (hJ.2 _ a _ hs)) hl
  · funext b
    simp [g_sef, hj]
  · refine t_OB.to (V := updV (g_fv X.2.2.1 σ ci a) kf (.ref (X.2.2.1 r))) ⟨_, e1, q2, q3, t_set q4 hap hk _⟩ (fun j _ => ?_)
    simp only [updV, g_fv, g_sef, true_and]
    by_cases e : j = kf
    · subst e
      simp [hi, va_rf]
    · simp [e]
theorem g_iret {v : Int32} (hk : kc = mc) (hs : ks ≤ ms) (hr : Y.2.2.1 = some .int) (hd : decode Y.1 pc = .ok (.ireturn, 1)) (hq : Q (some (.int v)) σ) : g_V X Y d mc ms Q k kc ks pc ls [.int v] σ := by
  intro l p e s m args below meth c H locs lsA hC hP hz hS hl
  have hx := hC.1
  have hb := hC.2.1
  subst hk
  refine W.widen (Nat.le_refl _) hs ?_
  exact W.iret (v := v) hx hb (hC.2.2.1.trans hr) (fun t ht hW => ⟨⟨some (.int v), σ, rfl, hq, by rw [ht]; exact hP⟩, by rw [ht]; exact hz, fun q h1 h2 => by rw [ht]; exact hS.2.1 q h1 h2⟩) hS.2.2 hd hC.2.2.2.2.2.2.1
theorem g_zret {v : Int32} (hk : kc = mc) (hs : ks ≤ ms) (hr : Y.2.2.1 = some .boolean) (hn : narrow .boolean (.int v) = .int v) (hd : decode Y.1 pc = .ok (.ireturn, 1)) (hq : Q (some (.int v)) σ) : g_V X Y d mc ms Q k kc ks pc ls [.int v] σ := by
  intro l p e s m args below meth c H locs lsA hC hP hz hS hl
  have hx := hC.1
  have hb := hC.2.1
  subst hk
  refine W.widen (Nat.le_refl _) hs ?_
  exact W.zret (v := v) (ty := .boolean) hx hb (hC.2.2.1.trans hr) hn (fun t ht hW => ⟨⟨some (.int v), σ, rfl, hq, by rw [ht]; exact hP⟩, by rw [ht]; exact hz, fun q h1 h2 => by rw [ht]; exact hS.2.1 q h1 h2⟩) hS.2.2 hd hC.2.2.2.2.2.2.1
theorem g_vret (hk : kc = mc) (hs : ks ≤ ms) (hr : Y.2.2.1 = none) (hd : decode Y.1 pc = .ok (.return_, 1)) (hq : Q none σ) : g_V X Y d mc ms Q k kc ks pc ls [] σ := by
  intro l p e s m args below meth c H locs lsA hC hP hz hS hl
  have hx := hC.1
  have hb := hC.2.1
  subst hk
  refine W.widen (Nat.le_refl _) hs ?_
  exact W.vret hx hb (hC.2.2.1.trans hr) (fun t ht hW => ⟨⟨none, σ, rfl, hq, by rw [ht]; exact hP⟩, by rw [ht]; exact hz, fun q h1 h2 => by rw [ht]; exact hS.2.1 q h1 h2⟩) hS.2.2 hd hC.2.2.2.2.2.2.1
theorem g_aret {v : Value} {cn : String} (hk : kc = mc) (hs : ks ≤ ms) (hr : Y.2.2.1 = some (.object cn)) (hv : v = .null ∨ ∃ a, v = .ref a) (hd : decode Y.1 pc = .ok (.areturn, 1)) (hq : Q (some v) σ) : g_V X Y d mc ms Q k kc ks pc ls [v] σ := by
  intro l p e s m args below meth c H locs lsA hC hP hz hS hl
  have hx := hC.1
  have hb := hC.2.1
  subst hk
  refine W.widen (Nat.le_refl _) hs ?_
  exact W.aret (v := g_tv X.2.2.1 v) hx hb (hC.2.2.1.trans hr) (Or.inl ⟨cn, rfl⟩) (hv.elim (fun q => Or.inl (by rw [q]; rfl)) (fun ⟨a, q⟩ => Or.inr ⟨_, by rw [q]; rfl⟩)) (fun t ht hW => ⟨⟨some v, σ, rfl, hq, by rw [ht]; exact hP⟩, by rw [ht]; exact hz, fun q h1 h2 => by rw [ht]; exact hS.2.1 q h1 h2⟩) hS.2.2 hd hC.2.2.2.2.2.2.1
/-- the locals at a method's entry -/
def g_en : List Value → List (Option Value)
  | [] => []
  | .long x :: t => some (.long x) :: none :: g_en t
  | .double x :: t => some (.double x) :: none :: g_en t
  | v :: t => some v :: g_en t
theorem g_lv_none (ad : Nat → Nat) : ∀ (n i : Nat), g_lv ad i (List.replicate n none) = [] := by
  intro n
  induction n with
  | zero => intro i; rfl
  | succ n ih => intro i; rw [List.replicate_succ, g_lv]; exact ih _
theorem g_en_lv (ad : Nat → Nat) (n : Nat) : ∀ (av : List Value) (i : Nat), g_lv ad i (g_en av ++ List.replicate n none) = lv_args i (av.map (g_tv ad)) := by
  intro av
  induction av with
  | nil => intro i; exact g_lv_none ad n i
  | cons v t ih =>
    intro i
    cases v <;> simp [g_en, g_lv, lv_args, g_tv, Value.category, ih]
theorem g_met {y : MethodName} {av : List Value} (n : Nat) (hy : plainName y.cls = true) (hcls : y.cls = Y.2.2.2.1) (hnm : y.name = Y.2.2.2.2) (hlen : (lg_sl (av.map (g_tv X.2.2.1))).length ≤ Y.2.1) (h : g_V X Y d mc ms Q k 0 0 0 (g_en av ++ List.replicate n none) [] σ) : g_K X y Y d mc ms k av σ Q := by
  intro l
  refine Met.ofW (cc := Y.1) (maxL := Y.2.1) (ret := Y.2.2.1) hy rfl ?_
  intro p e s m args below meth c s₁ B hml hv
  obtain ⟨rfl, hK, hP, hJ, hG⟩ := hv
  have hts := atoms_spec (ws := Cond.code y Y.1 Y.2.1 Y.2.2.1 :: g_T) B.pre
  have hown : s.vm.findClass y.cls = some m.cls := findClass_of_methodNamed B.named
  rw [hcls] at hown
  have hin : meth.name = y.name := (name_of_methodNamed B.named B.method).1
  rw [hnm] at hin
  have hl := lv_entry (av.map (g_tv X.2.2.1)) (n := Y.2.1) hlen
  rw [← g_en_lv X.2.2.1 n] at hl
  have hC : g_C X Y p s m (av.map (g_tv X.2.2.1)).toArray meth c := ⟨B.exec, B.bytes, B.returns, hml, hown, fun w hw => hts w (List.mem_cons_of_mem _ hw), B.notSynchronized, hin, hK, hJ, hG⟩
  have h1 := h l p e s m _ below meth c s.heap [] _ hC hP rfl va_S.rf hl
  rw [lg_entry_eq]
  exact h1
/-- behind a call -/
theorem g_back {l : Launch} {p : Program} {e : Env} {s : State} {m : MethodId} {args : Array Value} {below : List Frame} {meth : Method} {c : Code} {H : Heap} {locs : List Loc} {lsA : Array Slot} {mc2 ms2 : Nat} {st0 : List Value} {a : Array Value} {Q2 : Option Value → g_S → Prop}
    (hr : va_Run p l e (g_rm d mc ms) s m args below meth c H locs kc ks mc2 ms2 (F0 m pc lsA st0) (st.map (g_tv X.2.2.1)) (g_Q X (k + kc) mc2 Q2 a) X.2.2.2.2)
    (hC : g_C X Y p s m args meth c) (hz : H.size = s.heap.size + kc) (hS : va_S X.2.2.2.2 s.heap H locs) (hl : lv_has lsA Y.2.1 (g_lv X.2.2.1 0 ls))
    (h : ∀ (r : Option Value) (σ2 : g_S), Q2 r σ2 → g_V X Y d mc ms Q k (kc + mc2) (ks + ms2) (pc + 3) ls (r.toList ++ st) σ2) :
    W p l e (g_rm d mc ms) s m args below meth c H locs kc ks (MQ below (g_Q X k mc Q) args s mc ms X.2.2.2.2) (F0 m pc lsA st0) := by
  intro T hT X9
  obtain ⟨v, st₀, t, T', L, h0, X', hL, e1, e2, ⟨⟨r, σ2, hv, hq, hP2⟩, hz2, hk2⟩, go⟩ := hr T hT X9
  have hv : v = r.map (g_tv X.2.2.1) := by cases hv; rfl
  subst hv
  rw [h0] at hz2 hk2
  rw [← e1] at hP2 hz2 hk2
  have hst : (r.map (g_tv X.2.2.1)).toList ++ st.map (g_tv X.2.2.1) = (r.toList ++ st).map (g_tv X.2.2.1) := by cases r <;> rfl
  rw [Nat.add_assoc] at hP2
  have h1 := h r σ2 hq l p e s m args below meth c T'.heap (locs ++ L) lsA hC hP2 (by rw [hz2, hz, Nat.add_assoc])
    ⟨Nat.le_trans hS.1 (by rw [hz2]; exact Nat.le_add_right _ _), fun q h1 h2 => by
      rw [hk2 q (Nat.lt_of_lt_of_le h1 hS.1) h2]
      exact hS.2.1 q h1 h2, fun q hq => by
      rcases List.mem_append.mp hq with h9 | h9
      · exact hS.2.2 q h9
      · exact hL q h9⟩ hl
  obtain ⟨t2, a1, b1⟩ := h1 T' rfl X'
  rw [← hst] at a1
  exact ⟨t2, go t2 a1, b1⟩
theorem g_good {y : MethodName} {Y2 : g_Y} (hc : Cond.code y Y2.1 Y2.2.1 Y2.2.2.1 ∈ g_T) : GoodIn g_T (Cond.code y Y2.1 Y2.2.1 Y2.2.2.1 :: g_T) := by
  intro w hw
  have hw2 : w ∈ g_T := (List.mem_cons.mp hw).elim (fun q => q ▸ hc) id
  exact ⟨hw2, good_of_word (List.mem_filter.mp hw2).2⟩
/-- what the tables say of a call's target -/
def g_MT (y : MethodName) (Y2 : g_Y) (n : Nat) : Prop := Cond.code y Y2.1 Y2.2.1 Y2.2.2.1 ∈ g_T ∧ Cond.initialized y.cls ∈ g_T ∧ (y.cls ≠ "java/lang/invoke/MethodHandle" ∧ y.cls ≠ "java/lang/invoke/VarHandle" ∧ (parseMethodDescriptor y.desc).map (fun d => d.parameters.length) = some n) ∧ Y2.2.1 ≤ 21
theorem g_room {d2 mc2 ms2 maxL : Nat} (hd : d2 < d) (hm : maxL ≤ 21) : (g_rm d2 mc2 ms2).frames + 1 ≤ (g_rm d mc ms).frames ∧ 8 + (maxL + 11) + (g_rm d2 mc2 ms2).locals ≤ (g_rm d mc ms).locals := by
  constructor
  · exact hd
  · show 8 + (maxL + 11) + 40 * d2 ≤ 40 * d
    omega
theorem g_restw {ad : Nat → Nat} {m : MethodId} {pc : Nat} {ls : Array Slot} {rest st : List Value} (h : (st.map fun v => v.category).sum ≤ 8) : 2 * (F0 m pc ls rest).monitorRoom + ((st.map (g_tv ad)).map fun v => v.category).sum ≤ 8 := by
  have e : ((st.map (g_tv ad)).map fun v => v.category) = st.map fun v => v.category := by
    rw [List.map_map]
    exact List.map_congr_left (fun v _ => g_tvc ad v)
  rw [e]
  show 2 * 0 + _ ≤ 8
  omega
theorem g_pre {l : Launch} {p : Program} {s : State} {m : MethodId} {args : Array Value} {meth : Method} {c : Code} {H : Heap} {locs : List Loc} {av : List Value} (hC : g_C X Y p s m args meth c) (hP : g_P X (k + kc) σ H) (hS : va_S X.2.2.2.2 s.heap H locs) : ∀ U : State, U.heap = H → s.WarmedH U.vm → g_Pc X (k + kc) av σ (av.map (g_tv X.2.2.1)).toArray U := by
  intro U hU hW
  obtain ⟨-, -, -, -, -, -, -, -, hK, hJ, hG⟩ := hC
  exact ⟨rfl, va_K.moved hW.alike hK, by rw [hU]; exact hP, hJ, g_G_moved hG hS hU hW⟩
theorem g_callS {d2 mc2 ms2 index n : Nat} {y : MethodName} {Y2 : g_Y} {av S : List Value} {Q2 : Option Value → g_S → Prop} (hT : g_MT y Y2 n) (hl1 : Cond.methodLink Y.2.2.2.1 index y ∈ g_T) (hst : Cond.static y ∈ g_T) (hd : decode Y.1 pc = .ok (.invokestatic index, 3)) (hK : g_K X y Y2 d2 mc2 ms2 (k + kc) av σ Q2) (hS1 : S = av.reverse ++ st) (hn : av.length = n) (hd2 : d2 < d) (hc : kc + mc2 ≤ mc ∧ ks + ms2 ≤ ms) (hw : (st.map fun v => v.category).sum ≤ 8)
    (h : ∀ (r : Option Value) (σ2 : g_S), Q2 r σ2 → g_V X Y d mc ms Q k (kc + mc2) (ks + ms2) (pc + 3) ls (r.toList ++ st) σ2) : g_V X Y d mc ms Q k kc ks pc ls S σ := by
  intro l p e s m args below meth c H locs lsA hC hP hz hS hl
  have hx := hC.1
  have hb := hC.2.1
  obtain ⟨hT1, hT2, hT3, hT4⟩ := hT
  have hts := hC.2.2.2.2.2.1
  subst hS1
  refine g_back (va_runS (As := av.map (g_tv X.2.2.1)) ⟨hx, hb, hC.2.2.2.1, hC.2.2.2.2.1, hts⟩ (hK l) ⟨callB_of n hts (g_good hT1) rfl rfl rfl (hts _ hT2) (hts _ hl1) hT3 (g_room hd2 hT4), hts _ hst⟩ ⟨g_blind X _ _ _, g_pre (l := l) hC hP hS⟩ rfl (by rw [List.length_map]; exact hn) hl.1 (by rw [List.map_append, List.map_reverse]) (g_restw hw) hd hc) hC hz hS hl h
theorem g_callSN {d2 mc2 ms2 index n : Nat} {y : MethodName} {Y2 : g_Y} {host : String} {av S : List Value} {Q2 : Option Value → g_S → Prop} (hT : g_MT y Y2 n) (hl1 : Cond.methodLinkNest Y.2.2.2.1 index y host ∈ g_NW) (hst : Cond.static y ∈ g_T) (hd : decode Y.1 pc = .ok (.invokestatic index, 3)) (hK : g_K X y Y2 d2 mc2 ms2 (k + kc) av σ Q2) (hS1 : S = av.reverse ++ st) (hn : av.length = n) (hd2 : d2 < d) (hc : kc + mc2 ≤ mc ∧ ks + ms2 ≤ ms) (hw : (st.map fun v => v.category).sum ≤ 8)
    (h : ∀ (r : Option Value) (σ2 : g_S), Q2 r σ2 → g_V X Y d mc ms Q k (kc + mc2) (ks + ms2) (pc + 3) ls (r.toList ++ st) σ2) : g_V X Y d mc ms Q k kc ks pc ls S σ := by
  intro l p e s m args below meth c H locs lsA hC hP hz hS hl
  have hx := hC.1
  have hb := hC.2.1
  obtain ⟨hT1, hT2, hT3, hT4⟩ := hT
  have hts := hC.2.2.2.2.2.1
  have hnw := hC.2.2.2.2.2.2.2.2.2.2.2.2.2.1
  subst hS1
  refine g_back (va_runSN (As := av.map (g_tv X.2.2.1)) ⟨hx, hb, hC.2.2.2.1, hC.2.2.2.2.1, hts⟩ (hK l) ⟨va_cnB n hts (g_good hT1) rfl rfl rfl (hnw _ hl1) (hts _ hT2) hT3 (g_room hd2 hT4), hts _ hst, trivial⟩ ⟨g_blind X _ _ _, g_pre (l := l) hC hP hS⟩ rfl (by rw [List.length_map]; exact hn) hl.1 (by rw [List.map_append, List.map_reverse]) (g_restw hw) hd hc) hC hz hS hl h
theorem g_recv {a ci N : Nat} {C : String} {T : u_T} {p : Program} {s : State} {m : MethodId} {args : Array Value} {meth : Method} {c : Code} {H : Heap} (hC : g_C X Y p s m args meth c) (hP : g_P X (k + kc) σ H) (hs : X.2.2.2.1 (k + kc) a = some (2, ci, N)) (hc : g_cl[ci]? = some (C, T, N)) : ∃ cell : Cell, H[X.2.2.1 a]? = some cell ∧ cell.vm.isStatics = false ∧ s.vm.findClass C = some cell.cls := by
  obtain ⟨cell, q1, q2, q3, q4⟩ : t_OB (X.2.2.1 a) (X.1.1 ci) N (X.1.2 ci) H (g_fv X.2.2.1 σ ci a) := hP.1 a _ hs
  exact ⟨cell, q1, by rw [q3]; rfl, by rw [q2]; exact (hC.2.2.2.2.2.2.2.2.1.1 ci _ hc).2.1⟩
theorem g_callV {d2 mc2 ms2 index n a ci N : Nat} {C : String} {T : u_T} {y : MethodName} {Y2 : g_Y} {av S : List Value} {Q2 : Option Value → g_S → Prop} (hT : g_MT y Y2 n) (hl1 : Cond.methodLink Y.2.2.2.1 index y ∈ g_T) (hst : Cond.instanceMethod y ∈ g_T ∧ Cond.selects C y y ∈ g_T) (hcl : g_cl[ci]? = some (C, T, N)) (hs : X.2.2.2.1 (k + kc) a = some (2, ci, N)) (hd : decode Y.1 pc = .ok (.invokevirtual index, 3)) (hK : g_K X y Y2 d2 mc2 ms2 (k + kc) (.ref a :: av) σ Q2) (hS1 : S = av.reverse ++ .ref a :: st) (hn : av.length = n) (hd2 : d2 < d) (hc : kc + mc2 ≤ mc ∧ ks + ms2 ≤ ms) (hw : (st.map fun v => v.category).sum ≤ 8)
    (h : ∀ (r : Option Value) (σ2 : g_S), Q2 r σ2 → g_V X Y d mc ms Q k (kc + mc2) (ks + ms2) (pc + 3) ls (r.toList ++ st) σ2) : g_V X Y d mc ms Q k kc ks pc ls S σ := by
  intro l p e s m args below meth c H locs lsA hC hP hz hS hl
  have hx := hC.1
  have hb := hC.2.1
  obtain ⟨hT1, hT2, hT3, hT4⟩ := hT
  have hts := hC.2.2.2.2.2.1
  subst hS1
  refine g_back (va_runV (C := C) (b := X.2.2.1 a) (As := av.map (g_tv X.2.2.1)) ⟨hx, hb, hC.2.2.2.1, hC.2.2.2.2.1, hts⟩ (hK l) ⟨callB_of n hts (g_good hT1) rfl rfl rfl (hts _ hT2) (hts _ hl1) hT3 (g_room hd2 hT4), hts _ hst.1, hts _ hst.2⟩ ⟨g_blind X _ _ _, g_recv hC hP hs hcl, g_pre (l := l) (av := .ref a :: av) hC hP hS⟩ rfl (by rw [List.length_map]; exact hn) hl.1 (by rw [List.map_append, List.map_reverse]; rfl) (g_restw hw) hd hc) hC hz hS hl h
theorem g_callSU {d2 mc2 ms2 index n a ci N : Nat} {C : String} {T : u_T} {y : MethodName} {Y2 : g_Y} {av S : List Value} {Q2 : Option Value → g_S → Prop} (hT : g_MT y Y2 n) (hl1 : Cond.methodLink Y.2.2.2.1 index y ∈ g_T) (hst : Cond.instanceMethod y ∈ g_T ∧ Cond.sameMethod y.cls y.cls y.name y.desc ∈ g_T ∧ Cond.superclass Y.2.2.2.1 y.cls ∈ g_T ∧ y.name ≠ "<init>") (hcl : g_cl[ci]? = some (C, T, N)) (hs : X.2.2.2.1 (k + kc) a = some (2, ci, N)) (hd : decode Y.1 pc = .ok (.invokespecial index, 3)) (hK : g_K X y Y2 d2 mc2 ms2 (k + kc) (.ref a :: av) σ Q2) (hS1 : S = av.reverse ++ .ref a :: st) (hn : av.length = n) (hd2 : d2 < d) (hc : kc + mc2 ≤ mc ∧ ks + ms2 ≤ ms) (hw : (st.map fun v => v.category).sum ≤ 8)
    (h : ∀ (r : Option Value) (σ2 : g_S), Q2 r σ2 → g_V X Y d mc ms Q k (kc + mc2) (ks + ms2) (pc + 3) ls (r.toList ++ st) σ2) : g_V X Y d mc ms Q k kc ks pc ls S σ := by
  intro l p e s m args below meth c H locs lsA hC hP hz hS hl
  have hx := hC.1
  have hb := hC.2.1
  obtain ⟨hT1, hT2, hT3, hT4⟩ := hT
  have hts := hC.2.2.2.2.2.1
  have hG : GoodIn g_T (va_wsSU Y.2.2.2.1 index y (Cond.code y Y2.1 Y2.2.1 Y2.2.2.1 :: g_T)) := by
    intro w hw
    have hw2 : w ∈ g_T := by
      unfold va_wsSU at hw
      rcases List.mem_append.mp hw with h9 | h9
      · simp only [List.mem_cons, List.not_mem_nil, or_false] at h9
        rcases h9 with rfl | rfl | rfl | rfl | rfl
        · exact hl1
        · exact hst.2.1
        · exact hst.2.2.1
        · exact hst.1
        · exact hT2
      · exact (g_good hT1 w h9).1
    exact ⟨hw2, good_of_word (List.mem_filter.mp hw2).2⟩
  subst hS1
  refine g_back (va_runSU (C := C) (b := X.2.2.1 a) (As := av.map (g_tv X.2.2.1)) (hC.2.2.2.2.2.2.2.2.1.1 ci _ hcl).2 ⟨hx, hb, hC.2.2.2.1, hC.2.2.2.2.1, hts⟩ (hK l) (va_cwSU n hts hG rfl rfl rfl ⟨hst.2.2.2, hT3.2.2⟩ (g_room hd2 hT4)) ⟨g_blind X _ _ _, g_recv hC hP hs hcl, g_pre (l := l) (av := .ref a :: av) hC hP hS⟩ rfl (by rw [List.length_map]; exact hn) hl.1 (by rw [List.map_append, List.map_reverse]; rfl) (g_restw hw) hd hc) hC hz hS hl h
theorem g_ldcw {v : Int32} {index : Nat} (hc : Cond.constant Y.2.2.2.1 index v ∈ g_T) (hd : decode Y.1 pc = .ok (.ldc_w index, 3)) (h : g_V X Y d mc ms Q k kc ks (pc + 3) ls (.int v :: st) σ) : g_V X Y d mc ms Q k kc ks pc ls st σ := by
  intro l p e s m args below meth c H locs lsA hC hP hz hS hl
  have hx := hC.1
  have hb := hC.2.1
  exact lv_ldcw hx hb hC.2.2.2.2.1 (hC.2.2.2.2.2.1 _ hc) hd (h l p e s m args below meth c H locs lsA hC hP hz hS hl)
/-! ===== the same, with names for what a mirror binds ===== -/
def g_rd (μ : g_M) (a n : Nat) (i : Int32) : Option Int32 := if i < 0 ∨ n ≤ i.toNatClampNeg then none else some (μ a i.toNatClampNeg)
def g_wr (μ : g_M) (a n : Nat) (i x : Int32) : Option g_M := if i < 0 ∨ n ≤ i.toNatClampNeg then none else some (g_set μ a i.toNatClampNeg x)
def g_dv (x y : Int32) : Option Int32 := if y = 0 then none else some (x / y)
def g_rmo (x y : Int32) : Option Int32 := if y = 0 then none else some (g_rem x y)
/-- a boolean that is one -/
def g_zc (x : Int32) : Option Int32 := if x &&& 1 = x then some x else none
theorem g_zc_n {x v : Int32} (h : g_zc x = some v) : x = v ∧ narrow .boolean (.int x) = .int x := by
  unfold g_zc at h
  split at h
  · rename_i c
    cases h
    exact ⟨rfl, congrArg Value.int c⟩
  · cases h
theorem g_rd_some {μ : g_M} {a n : Nat} {i v : Int32} (h : g_rd μ a n i = some v) : vp_in i n ∧ v = μ a i.toNatClampNeg := by
  unfold g_rd at h
  split at h
  · cases h
  · rename_i c
    exact ⟨c, (Option.some.inj h).symm⟩
theorem g_wr_some {μ μ1 : g_M} {a n : Nat} {i x : Int32} (h : g_wr μ a n i x = some μ1) : vp_in i n ∧ μ1 = g_set μ a i.toNatClampNeg x := by
  unfold g_wr at h
  split at h
  · cases h
  · rename_i c
    exact ⟨c, (Option.some.inj h).symm⟩
theorem g_bind {α β : Type} {o : Option α} {f : α → Option β} {z : β} (h : o.bind f = some z) : ∃ a, o = some a ∧ f a = some z := by
  cases o with
  | none => cases h
  | some a => exact ⟨a, rfl, h⟩
theorem g_let {α β : Type} {e : α} {f : α → Option β} {z : β} (h : (some e).bind f = some z) : ∃ a, a = e ∧ f a = some z := ⟨e, rfl, h⟩
theorem g_ifp {α : Type} {c : Prop} [Decidable c] {A B z : α} (hc : c) (h : (if c then A else B) = z) : A = z := by rwa [if_pos hc] at h
theorem g_ifn {α : Type} {c : Prop} [Decidable c] {A B z : α} (hc : ¬ c) (h : (if c then A else B) = z) : B = z := by rwa [if_neg hc] at h
theorem g_inj2 {α0 α1 : Type} {a0 b0 : α0} {a1 b1 : α1} (h : some (a0, a1) = some (b0, b1)) : a0 = b0 ∧ a1 = b1 := by
  have h := Option.some.inj h
  simp only [Prod.mk.injEq] at h
  exact h
theorem g_inj3 {α0 α1 α2 : Type} {a0 b0 : α0} {a1 b1 : α1} {a2 b2 : α2} (h : some (a0, a1, a2) = some (b0, b1, b2)) : a0 = b0 ∧ a1 = b1 ∧ a2 = b2 := by
  have h := Option.some.inj h
  simp only [Prod.mk.injEq] at h
  exact h
theorem g_inj4 {α0 α1 α2 α3 : Type} {a0 b0 : α0} {a1 b1 : α1} {a2 b2 : α2} {a3 b3 : α3} (h : some (a0, a1, a2, a3) = some (b0, b1, b2, b3)) : a0 = b0 ∧ a1 = b1 ∧ a2 = b2 ∧ a3 = b3 := by
  have h := Option.some.inj h
  simp only [Prod.mk.injEq] at h
  exact h
theorem g_inj5 {α0 α1 α2 α3 α4 : Type} {a0 b0 : α0} {a1 b1 : α1} {a2 b2 : α2} {a3 b3 : α3} {a4 b4 : α4} (h : some (a0, a1, a2, a3, a4) = some (b0, b1, b2, b3, b4)) : a0 = b0 ∧ a1 = b1 ∧ a2 = b2 ∧ a3 = b3 ∧ a4 = b4 := by
  have h := Option.some.inj h
  simp only [Prod.mk.injEq] at h
  exact h
theorem g_inj6 {α0 α1 α2 α3 α4 α5 : Type} {a0 b0 : α0} {a1 b1 : α1} {a2 b2 : α2} {a3 b3 : α3} {a4 b4 : α4} {a5 b5 : α5} (h : some (a0, a1, a2, a3, a4, a5) = some (b0, b1, b2, b3, b4, b5)) : a0 = b0 ∧ a1 = b1 ∧ a2 = b2 ∧ a3 = b3 ∧ a4 = b4 ∧ a5 = b5 := by
  have h := Option.some.inj h
  simp only [Prod.mk.injEq] at h
  exact h
theorem g_inj7 {α0 α1 α2 α3 α4 α5 α6 : Type} {a0 b0 : α0} {a1 b1 : α1} {a2 b2 : α2} {a3 b3 : α3} {a4 b4 : α4} {a5 b5 : α5} {a6 b6 : α6} (h : some (a0, a1, a2, a3, a4, a5, a6) = some (b0, b1, b2, b3, b4, b5, b6)) : a0 = b0 ∧ a1 = b1 ∧ a2 = b2 ∧ a3 = b3 ∧ a4 = b4 ∧ a5 = b5 ∧ a6 = b6 := by
  have h := Option.some.inj h
  simp only [Prod.mk.injEq] at h
  exact h
theorem g_sub0 : g_sub [] [] := True.intro
theorem g_subS {v : Value} {a b : List (Option Value)} (h : g_sub a b) : g_sub (some v :: a) (some v :: b) := ⟨rfl, h⟩
theorem g_subN {v : Option Value} {a b : List (Option Value)} (h : g_sub a b) : g_sub (none :: a) (v :: b) := h
theorem g_top {x e : Int32} (he : x = e) (h : g_V X Y d mc ms Q k kc ks pc ls (.int x :: st) σ) : g_V X Y d mc ms Q k kc ks pc ls (.int e :: st) σ := he ▸ h
theorem g_topl {x e : Int64} (he : x = e) (h : g_V X Y d mc ms Q k kc ks pc ls (.long x :: st) σ) : g_V X Y d mc ms Q k kc ks pc ls (.long e :: st) σ := he ▸ h
theorem m_getI {μ : g_M} {ρ : g_R} {a index ci kf N : Nat} (hf : g_FL Y.2.2.2.1 index ci kf N) (hi : g_fI ci kf = true) (hs : X.2.2.2.1 (k + kc) a = some (2, ci, N)) (hd : decode Y.1 pc = .ok (.getfield index, 3)) (h : g_V X Y d mc ms Q k kc ks (pc + 3) ls (.int (μ a kf) :: st) (μ, ρ)) : g_V X Y d mc ms Q k kc ks pc ls (.ref a :: st) (μ, ρ) := g_getI hf hi hs hd h
theorem m_getR {μ : g_M} {ρ : g_R} {a index ci kf N r : Nat} (hf : g_FL Y.2.2.2.1 index ci kf N) (hi : g_fI ci kf = false) (hs : X.2.2.2.1 (k + kc) a = some (2, ci, N)) (hr : ρ a kf = some r) (hd : decode Y.1 pc = .ok (.getfield index, 3)) (h : g_V X Y d mc ms Q k kc ks (pc + 3) ls (.ref r :: st) (μ, ρ)) : g_V X Y d mc ms Q k kc ks pc ls (.ref a :: st) (μ, ρ) := g_getR hf hi hs hr hd h
theorem m_putI {μ μ1 : g_M} {ρ : g_R} {a index ci kf N : Nat} {x : Int32} (hf : g_FL Y.2.2.2.1 index ci kf N) (hw : g_FW ci kf) (hi : g_fI ci kf = true) (hn : narrow (g_ty ci kf) (.int x) = .int x) (hfit : fits (g_ty ci kf) (.int x) = true) (hs : X.2.2.2.1 (k + kc) a = some (2, ci, N)) (hd : decode Y.1 pc = .ok (.putfield index, 3)) (e : μ1 = g_set μ a kf x) (h : g_V X Y d mc ms Q k kc ks (pc + 3) ls st (μ1, ρ)) : g_V X Y d mc ms Q k kc ks pc ls (.int x :: .ref a :: st) (μ, ρ) := by
  subst e
  exact g_putI hf hw hi hn hfit hs hd h
theorem m_iald {μ : g_M} {ρ : g_R} {a n : Nat} {i v : Int32} (hs : X.2.2.2.1 (k + kc) a = some (0, 0, n)) (hv : g_rd μ a n i = some v) (hd : decode Y.1 pc = .ok (.iaload, 1)) (h : g_V X Y d mc ms Q k kc ks (pc + 1) ls (.int v :: st) (μ, ρ)) : g_V X Y d mc ms Q k kc ks pc ls (.int i :: .ref a :: st) (μ, ρ) := by
  obtain ⟨hin, rfl⟩ := g_rd_some hv
  exact g_iald hs hin hd h
theorem m_ialdc {μ : g_M} {ρ : g_R} {a n : Nat} {i : Int32} (j : Nat) (hs : X.2.2.2.1 (k + kc) a = some (0, 0, n)) (hj : i.toNatClampNeg = j) (h0 : ¬ i < 0) (hn : j < n) (hd : decode Y.1 pc = .ok (.iaload, 1)) (h : g_V X Y d mc ms Q k kc ks (pc + 1) ls (.int (μ a j) :: st) (μ, ρ)) : g_V X Y d mc ms Q k kc ks pc ls (.int i :: .ref a :: st) (μ, ρ) := by
  subst hj
  exact g_iald hs (fun q => q.elim h0 (fun q => absurd hn (Nat.not_lt.mpr q))) hd h
theorem m_iast {μ μ1 : g_M} {ρ : g_R} {a n : Nat} {i x : Int32} (hs : X.2.2.2.1 (k + kc) a = some (0, 0, n)) (hv : g_wr μ a n i x = some μ1) (hd : decode Y.1 pc = .ok (.iastore, 1)) (h : g_V X Y d mc ms Q k kc ks (pc + 1) ls st (μ1, ρ)) : g_V X Y d mc ms Q k kc ks pc ls (.int x :: .int i :: .ref a :: st) (μ, ρ) := by
  obtain ⟨hin, rfl⟩ := g_wr_some hv
  exact g_iast hs hin hd h
theorem m_iastc {μ μ1 : g_M} {ρ : g_R} {a n : Nat} {i x : Int32} (j : Nat) (hs : X.2.2.2.1 (k + kc) a = some (0, 0, n)) (hj : i.toNatClampNeg = j) (h0 : ¬ i < 0) (hn : j < n) (hd : decode Y.1 pc = .ok (.iastore, 1)) (e : μ1 = g_set μ a j x) (h : g_V X Y d mc ms Q k kc ks (pc + 1) ls st (μ1, ρ)) : g_V X Y d mc ms Q k kc ks pc ls (.int x :: .int i :: .ref a :: st) (μ, ρ) := by
  subst e
  subst hj
  exact g_iast hs (fun q => q.elim h0 (fun q => absurd hn (Nat.not_lt.mpr q))) hd h
theorem m_idiv {x y v : Int32} (hd : decode Y.1 pc = .ok (.idiv, 1)) (hv : g_dv x y = some v) (h : g_V X Y d mc ms Q k kc ks (pc + 1) ls (.int v :: st) σ) : g_V X Y d mc ms Q k kc ks pc ls (.int y :: .int x :: st) σ := by
  unfold g_dv at hv
  split at hv
  · cases hv
  · rename_i c
    cases hv
    exact g_idiv hd c h
theorem m_irem {x y v : Int32} (hd : decode Y.1 pc = .ok (.irem, 1)) (hv : g_rmo x y = some v) (h : g_V X Y d mc ms Q k kc ks (pc + 1) ls (.int v :: st) σ) : g_V X Y d mc ms Q k kc ks pc ls (.int y :: .int x :: st) σ := by
  unfold g_rmo at hv
  split at hv
  · cases hv
  · rename_i c
    cases hv
    exact g_irem hd c h
theorem m_tab {dflt lo hi : Int} {offs : Array Int} {len : Nat} {x : Int32} {off : Int} (v : Int32) (tgt : Nat) (e : x = v) (hd : decode Y.1 pc = .ok (.tableswitch dflt lo hi offs, len)) (h1 : ¬ v.toInt < lo) (h2 : ¬ hi < v.toInt) (ho : offs[(v.toInt - lo).toNat]? = some off) (ht : (pc : Int) + off = (tgt : Int)) (h : g_V X Y d mc ms Q k kc ks tgt ls st σ) : g_V X Y d mc ms Q k kc ks pc ls (.int x :: st) σ := by
  subst e
  exact g_tabIn tgt hd h1 h2 ho ht h
theorem m_ne {x : Int32} (v : Int32) (n : Int) (h : ¬ x = v) (e : v.toInt = n) : x.toInt ≠ n := fun q => h (Int32.toInt_inj.mp (q.trans e.symm))
theorem m_look {dflt : Int} {ps : Array (Int × Int)} {len : Nat} {x : Int32} {off : Int} (v : Int32) (tgt : Nat) (e : x = v) (hd : decode Y.1 pc = .ok (.lookupswitch dflt ps, len)) (hp : (ps.toList.zip (ps.toList.drop 1)).all (fun (a, next) => a.1 < next.1) = true) (ho : Op.lookupswitch.offset ps.toList dflt v.toInt = off) (ht : (pc : Int) + off = (tgt : Int)) (h : g_V X Y d mc ms Q k kc ks tgt ls st σ) : g_V X Y d mc ms Q k kc ks pc ls (.int x :: st) σ := by
  subst e
  exact g_lookup tgt hd hp ho ht h
theorem m_cS {d2 index n : Nat} {y : MethodName} {Y2 : g_Y} {av S : List Value} {v : Int32} {σ2 : g_S} (hT : g_MT y Y2 n) (hl1 : Cond.methodLink Y.2.2.2.1 index y ∈ g_T) (hst : Cond.static y ∈ g_T) (hd : decode Y.1 pc = .ok (.invokestatic index, 3)) (hK : g_K X y Y2 d2 0 0 (k + kc) av σ (fun r1 σ1 => r1 = some (.int v) ∧ σ1 = σ2)) (hS1 : S = av.reverse ++ st) (hn : av.length = n) (hd2 : d2 < d) (hc : kc ≤ mc ∧ ks ≤ ms) (hw : (st.map fun v => v.category).sum ≤ 8)
    (h : g_V X Y d mc ms Q k kc ks (pc + 3) ls (.int v :: st) σ2) : g_V X Y d mc ms Q k kc ks pc ls S σ :=
  g_callS hT hl1 hst hd hK hS1 hn hd2 hc hw (fun r σ2 hq => by obtain ⟨rfl, rfl⟩ := hq; exact h)
theorem m_cSv {d2 index n : Nat} {y : MethodName} {Y2 : g_Y} {av S : List Value} {σ2 : g_S} (hT : g_MT y Y2 n) (hl1 : Cond.methodLink Y.2.2.2.1 index y ∈ g_T) (hst : Cond.static y ∈ g_T) (hd : decode Y.1 pc = .ok (.invokestatic index, 3)) (hK : g_K X y Y2 d2 0 0 (k + kc) av σ (fun r1 σ1 => r1 = none ∧ σ1 = σ2)) (hS1 : S = av.reverse ++ st) (hn : av.length = n) (hd2 : d2 < d) (hc : kc ≤ mc ∧ ks ≤ ms) (hw : (st.map fun v => v.category).sum ≤ 8)
    (h : g_V X Y d mc ms Q k kc ks (pc + 3) ls st σ2) : g_V X Y d mc ms Q k kc ks pc ls S σ :=
  g_callS hT hl1 hst hd hK hS1 hn hd2 hc hw (fun r σ2 hq => by obtain ⟨rfl, rfl⟩ := hq; exact h)
theorem m_cSN {d2 index n : Nat} {host : String} {y : MethodName} {Y2 : g_Y} {av S : List Value} {v : Int32} {σ2 : g_S} (hT : g_MT y Y2 n) (hl1 : Cond.methodLinkNest Y.2.2.2.1 index y host ∈ g_NW) (hst : Cond.static y ∈ g_T) (hd : decode Y.1 pc = .ok (.invokestatic index, 3)) (hK : g_K X y Y2 d2 0 0 (k + kc) av σ (fun r1 σ1 => r1 = some (.int v) ∧ σ1 = σ2)) (hS1 : S = av.reverse ++ st) (hn : av.length = n) (hd2 : d2 < d) (hc : kc ≤ mc ∧ ks ≤ ms) (hw : (st.map fun v => v.category).sum ≤ 8)
    (h : g_V X Y d mc ms Q k kc ks (pc + 3) ls (.int v :: st) σ2) : g_V X Y d mc ms Q k kc ks pc ls S σ :=
  g_callSN hT hl1 hst hd hK hS1 hn hd2 hc hw (fun r σ2 hq => by obtain ⟨rfl, rfl⟩ := hq; exact h)
theorem m_cV {d2 index n a ci N : Nat} {C : String} {T : u_T} {y : MethodName} {Y2 : g_Y} {av S : List Value} {v : Int32} {σ2 : g_S} (hT : g_MT y Y2 n) (hl1 : Cond.methodLink Y.2.2.2.1 index y ∈ g_T) (hst : Cond.instanceMethod y ∈ g_T ∧ Cond.selects C y y ∈ g_T) (hd : decode Y.1 pc = .ok (.invokevirtual index, 3)) (hK : g_K X y Y2 d2 0 0 (k + kc) (.ref a :: av) σ (fun r1 σ1 => r1 = some (.int v) ∧ σ1 = σ2)) (hS1 : S = av.reverse ++ .ref a :: st) (hs : X.2.2.2.1 (k + kc) a = some (2, ci, N)) (hcl : g_cl[ci]? = some (C, T, N)) (hn : av.length = n) (hd2 : d2 < d) (hc : kc ≤ mc ∧ ks ≤ ms) (hw : (st.map fun v => v.category).sum ≤ 8)
    (h : g_V X Y d mc ms Q k kc ks (pc + 3) ls (.int v :: st) σ2) : g_V X Y d mc ms Q k kc ks pc ls S σ :=
  g_callV hT hl1 hst hcl hs hd hK hS1 hn hd2 hc hw (fun r σ2 hq => by obtain ⟨rfl, rfl⟩ := hq; exact h)
theorem m_cVv {d2 index n a ci N : Nat} {C : String} {T : u_T} {y : MethodName} {Y2 : g_Y} {av S : List Value} {σ2 : g_S} (hT : g_MT y Y2 n) (hl1 : Cond.methodLink Y.2.2.2.1 index y ∈ g_T) (hst : Cond.instanceMethod y ∈ g_T ∧ Cond.selects C y y ∈ g_T) (hd : decode Y.1 pc = .ok (.invokevirtual index, 3)) (hK : g_K X y Y2 d2 0 0 (k + kc) (.ref a :: av) σ (fun r1 σ1 => r1 = none ∧ σ1 = σ2)) (hS1 : S = av.reverse ++ .ref a :: st) (hs : X.2.2.2.1 (k + kc) a = some (2, ci, N)) (hcl : g_cl[ci]? = some (C, T, N)) (hn : av.length = n) (hd2 : d2 < d) (hc : kc ≤ mc ∧ ks ≤ ms) (hw : (st.map fun v => v.category).sum ≤ 8)
    (h : g_V X Y d mc ms Q k kc ks (pc + 3) ls st σ2) : g_V X Y d mc ms Q k kc ks pc ls S σ :=
  g_callV hT hl1 hst hcl hs hd hK hS1 hn hd2 hc hw (fun r σ2 hq => by obtain ⟨rfl, rfl⟩ := hq; exact h)
theorem m_cSU {d2 index n a ci N : Nat} {C : String} {T : u_T} {y : MethodName} {Y2 : g_Y} {av S : List Value} {v : Int32} {σ2 : g_S} (hT : g_MT y Y2 n) (hl1 : Cond.methodLink Y.2.2.2.1 index y ∈ g_T) (hst : Cond.instanceMethod y ∈ g_T ∧ Cond.sameMethod y.cls y.cls y.name y.desc ∈ g_T ∧ Cond.superclass Y.2.2.2.1 y.cls ∈ g_T ∧ y.name ≠ "<init>") (hd : decode Y.1 pc = .ok (.invokespecial index, 3)) (hK : g_K X y Y2 d2 0 0 (k + kc) (.ref a :: av) σ (fun r1 σ1 => r1 = some (.int v) ∧ σ1 = σ2)) (hS1 : S = av.reverse ++ .ref a :: st) (hs : X.2.2.2.1 (k + kc) a = some (2, ci, N)) (hcl : g_cl[ci]? = some (C, T, N)) (hn : av.length = n) (hd2 : d2 < d) (hc : kc ≤ mc ∧ ks ≤ ms) (hw : (st.map fun v => v.category).sum ≤ 8)
    (h : g_V X Y d mc ms Q k kc ks (pc + 3) ls (.int v :: st) σ2) : g_V X Y d mc ms Q k kc ks pc ls S σ :=
  g_callSU hT hl1 hst hcl hs hd hK hS1 hn hd2 hc hw (fun r σ2 hq => by obtain ⟨rfl, rfl⟩ := hq; exact h)
/-! ===== rows for the class alone ===== -/
def g_ln (i : Int32) : Option Int32 := if i < 0 ∨ 6 ≤ i.toNatClampNeg then none else some (g_LN i.toNatClampNeg)
/-- LINES[x] -/
theorem m_lines {index : Nat} {i : Fin 4} {x v : Int32} (hf : Cond.fieldLink Y.2.2.2.1 index "OvenPairs" "LINES" "[I" ∈ g_T) (hd1 : decode Y.1 pc = .ok (.getstatic index, 3)) (hd2 : decode Y.1 (pc + 3) = .ok (.iload_n i, 1)) (hv : ls[(i : Nat)]? = some (some (.int x))) (hd3 : decode Y.1 (pc + 3 + 1) = .ok (.iaload, 1)) (hr : g_ln x = some v) (h : g_V X Y d mc ms Q k kc ks (pc + 3 + 1 + 1) ls (.int v :: st) σ) : g_V X Y d mc ms Q k kc ks pc ls st σ := by
  intro l p e s m args below meth c H locs lsA hC hP hz hS hl
  have hx := hC.1
  have hb := hC.2.1
  obtain ⟨-, -, -, -, hown, hts, -, -, hK, hJ, ⟨t, hZ, hT⟩, -⟩ := id hC
  unfold g_ln at hr
  split at hr
  · cases hr
  · rename_i c9
    have hr := Option.some.inj hr
    refine va_gets hx hb hZ hS hown (hts _ hf) (fun _ h9 => h9) hd1 ?_
    refine lv_iload_n hx hb hd2 rfl (g_loc hl hv) ?_
    exact va_ti hx hb hT hS c9 (congrArg Value.int hr) hd3 (h l p e s m args below meth c H locs lsA hC hP hz hS hl)
/-- a place of an array of references, by a number that is there -/
def g_ix (n : Nat) (i : Int32) : Option Nat := if i < 0 ∨ n ≤ i.toNatClampNeg then none else some i.toNatClampNeg
theorem g_ix_some {n j : Nat} {i : Int32} (h : g_ix n i = some j) : vp_in i n ∧ j = i.toNatClampNeg ∧ j < n := by
  unfold g_ix at h
  split at h
  · cases h
  · rename_i c
    have h := Option.some.inj h
    exact ⟨c, h.symm, by rw [← h]; exact Nat.not_le.mp (fun q => c (Or.inr q))⟩
theorem m_aald2 {μ : g_M} {ρ : g_R} {a n r j : Nat} {i : Int32} (hs : X.2.2.2.1 (k + kc) a = some (1, 2, n)) (hj : g_ix n i = some j) (hr : j < n → ρ a j = some r) (hd : decode Y.1 pc = .ok (.aaload, 1)) (h : g_V X Y d mc ms Q k kc ks (pc + 1) ls (.ref r :: st) (μ, ρ)) : g_V X Y d mc ms Q k kc ks pc ls (.int i :: .ref a :: st) (μ, ρ) := by
  obtain ⟨h1, h2, h3⟩ := g_ix_some hj
  exact g_aald2 hs h1 (by rw [← h2]; exact hr h3) hd h
theorem m_aald1 {μ : g_M} {ρ : g_R} {a n r : Nat} {i : Int32} (v : Int32) (e : i = v) (hs : X.2.2.2.1 (k + kc) a = some (1, 1, n)) (hin : ¬ (v < 0 ∨ n ≤ v.toNatClampNeg)) (hr : ρ a v.toNatClampNeg = some r) (hd : decode Y.1 pc = .ok (.aaload, 1)) (h : g_V X Y d mc ms Q k kc ks (pc + 1) ls (.ref r :: st) (μ, ρ)) : g_V X Y d mc ms Q k kc ks pc ls (.int i :: .ref a :: st) (μ, ρ) := by
  subst e
  exact g_aald1 hs hin hr hd h
/-- words of a call of a method that may be another's: the link names x, owner has it, y is run -/
def g_MO (own : String) (index : Nat) (C owner : String) (x y : MethodName) (n : Nat) : Prop := Cond.methodLink own index x ∈ g_T ∧ Cond.sameMethod x.cls owner x.name x.desc ∈ g_T ∧ Cond.instanceMethod ⟨owner, x.name, x.desc⟩ ∈ g_T ∧ Cond.selects C x y ∈ g_T ∧ Cond.instanceMethod y ∈ g_T ∧ (∃ b0 m0 r0, Cond.code ⟨owner, x.name, x.desc⟩ b0 m0 r0 ∈ g_T) ∧ owner ≠ "java/lang/invoke/MethodHandle" ∧ owner ≠ "java/lang/invoke/VarHandle" ∧ (parseMethodDescriptor x.desc).map (fun d => d.parameters.length) = some n
theorem m_cO {d2 index n a ci N : Nat} {C owner : String} {T : u_T} {x y : MethodName} {Y2 : g_Y} {av S : List Value} {v : Int32} {σ2 : g_S} (hT : g_MT y Y2 n) (hO : g_MO Y.2.2.2.1 index C owner x y n) (hd : decode Y.1 pc = .ok (.invokevirtual index, 3)) (hK : g_K X y Y2 d2 0 0 (k + kc) (.ref a :: av) σ (fun r1 σ1 => r1 = some (.int v) ∧ σ1 = σ2)) (hS1 : S = av.reverse ++ .ref a :: st) (hs : X.2.2.2.1 (k + kc) a = some (2, ci, N)) (hcl : g_cl[ci]? = some (C, T, N)) (hn : av.length = n) (hd2 : d2 < d) (hc : kc ≤ mc ∧ ks ≤ ms) (hw : (st.map fun v => v.category).sum ≤ 8)
    (h : g_V X Y d mc ms Q k kc ks (pc + 3) ls (.int v :: st) σ2) : g_V X Y d mc ms Q k kc ks pc ls S σ := by
  intro l p e s m args below meth c H locs lsA hC hP hz hS hl
  have hx := hC.1
  have hb := hC.2.1
  obtain ⟨hT1, hT2, hT3, hT4⟩ := hT
  obtain ⟨o1, o2, o3, o4, o5, ⟨b0, m0, r0, o6⟩, o7⟩ := hO
  have hts := hC.2.2.2.2.2.1
  have hG : GoodIn g_T (va_wsO Y.2.2.2.1 index C owner x y (Cond.code y Y2.1 Y2.2.1 Y2.2.2.1 :: g_T)) := by
    intro w hw
    have hw2 : w ∈ g_T := by
      unfold va_wsO at hw
      rcases List.mem_append.mp hw with h9 | h9
      · simp only [List.mem_cons, List.not_mem_nil, or_false] at h9
        rcases h9 with rfl | rfl | rfl | rfl | rfl | rfl
        · exact o1
        · exact o2
        · exact o3
        · exact o4
        · exact o5
        · exact hT2
      · exact (g_good hT1 w h9).1
    exact ⟨hw2, good_of_word (List.mem_filter.mp hw2).2⟩
  subst hS1
  refine g_back (va_runU (C := C) (owner := owner) (x := x) (b := X.2.2.1 a) (As := av.map (g_tv X.2.2.1)) ⟨hx, hb, hC.2.2.2.1, hC.2.2.2.2.1, hts⟩ (hK l) (va_cwO n hts hG rfl rfl rfl o6 o7 (g_room hd2 hT4)) ⟨g_blind X _ _ _, g_recv hC hP hs hcl, g_pre (l := l) (av := .ref a :: av) hC hP hS⟩ rfl (by rw [List.length_map]; exact hn) hl.1 (by rw [List.map_append, List.map_reverse]; rfl) (g_restw hw) hd hc) hC hz hS hl (fun r σ2 hq => by obtain ⟨rfl, rfl⟩ := hq; exact h)
/-- words of super.m(..), m of the superclass or of the one above it -/
def g_MU (own : String) (index : Nat) (x y : MethodName) (n : Nat) : Prop := Cond.methodLink own index x ∈ g_T ∧ Cond.sameMethod x.cls y.cls x.name x.desc ∈ g_T ∧ Cond.superclass own x.cls ∈ g_T ∧ Cond.instanceMethod y ∈ g_T ∧ (x.cls = y.cls ∨ Cond.superclass x.cls y.cls ∈ g_T) ∧ y = ⟨y.cls, x.name, x.desc⟩ ∧ x.name ≠ "<init>"
theorem m_cU {d2 index n a ci N : Nat} {C : String} {T : u_T} {x y : MethodName} {Y2 : g_Y} {av S : List Value} {v : Int32} {σ2 : g_S} (hT : g_MT y Y2 n) (hO : g_MU Y.2.2.2.1 index x y n) (hd : decode Y.1 pc = .ok (.invokespecial index, 3)) (hK : g_K X y Y2 d2 0 0 (k + kc) (.ref a :: av) σ (fun r1 σ1 => r1 = some (.int v) ∧ σ1 = σ2)) (hS1 : S = av.reverse ++ .ref a :: st) (hs : X.2.2.2.1 (k + kc) a = some (2, ci, N)) (hcl : g_cl[ci]? = some (C, T, N)) (hn : av.length = n) (hd2 : d2 < d) (hc : kc ≤ mc ∧ ks ≤ ms) (hw : (st.map fun v => v.category).sum ≤ 8)
    (h : g_V X Y d mc ms Q k kc ks (pc + 3) ls (.int v :: st) σ2) : g_V X Y d mc ms Q k kc ks pc ls S σ := by
  intro l p e s m args below meth c H locs lsA hC hP hz hS hl
  have hx := hC.1
  have hb := hC.2.1
  obtain ⟨hT1, hT2, hT3, hT4⟩ := hT
  obtain ⟨o1, o2, o3, o4, o5, o6, o7⟩ := hO
  have hts := hC.2.2.2.2.2.1
  have hown := hC.2.2.2.2.1
  subst hS1
  have hroom := g_room (mc := mc) (ms := ms) (mc2 := 0) (ms2 := 0) hd2 hT4
  have hBk : Back l (g_rm d mc ms) p e below s args y 3 8 (PreOf (g_rm d mc ms) 0 0 (g_Pc X (k + kc) (.ref a :: av) σ)) (PostOf (g_Q X (k + kc) 0 (fun r1 σ1 => r1 = some (.int v) ∧ σ1 = σ2)) 0 0 X.2.2.2.2) :=
    back_of (bytes := Y2.1) (maxL := Y2.2.1) (ret := Y2.2.2.1) (hK l) (g_blind X _ _ _) rfl rfl hroom.1 hroom.2 (pay_in hts (g_good hT1)) List.mem_cons_self (fun a' U hW => word_at hW (Or.inl (by first | rfl | simp [Cond.onTables, Cond.keeps, Cond.steady])) (hts _ hT2))
  obtain ⟨cellB, hcB, hoB, hclB⟩ := g_recv hC hP hs hcl
  obtain ⟨hfc, kB, hkB, -⟩ := (hC.2.2.2.2.2.2.2.2.1.1 ci _ hcl).2
  have hcc : X.1.1 ci = cellB.cls := Option.some.inj (hfc.symm.trans hclB)
  rw [hcc] at hkB
  have run : va_Run p l e (g_rm d mc ms) s m args below meth c H locs kc ks 0 0 (F0 m pc lsA ((av.reverse ++ .ref a :: st).map (g_tv X.2.2.1))) (st.map (g_tv X.2.2.1)) (g_Q X (k + kc) 0 (fun r1 σ1 => r1 = some (.int v) ∧ σ1 = σ2) ((.ref a :: av).map (g_tv X.2.2.1)).toArray) X.2.2.2.2 := by
    intro T9 hT9 X9
    obtain ⟨mk, methM, hnamed, hmethM, hstM, habM⟩ := Cond.instanceMethod_spec (hts _ o4)
    obtain ⟨methM', cM, hmethM', -, -, -, -, -, -, hsigM⟩ := Cond.code_spec hnamed (hts _ hT1)
    cases hmethM.symm.trans hmethM'
    obtain ⟨ps, dk, kp, hps, hdk, hkp, hsuper, -, -, hnid⟩ := Cond.superclass_spec hown (hts _ o3)
    have hn9 : s.methodNamed? ⟨y.cls, x.name, x.desc⟩ = some mk := by rw [← o6]; exact hnamed
    have hmk : s.vm.findClass y.cls = some mk.cls := findClass_of_methodNamed hnamed
    have hsub : s.vm.isSubclass ps mk.cls = true := by
      rcases o5 with o5 | o5
      · rw [← o5, hps] at hmk
        have hpm : ps = mk.cls := Option.some.inj hmk
        rw [hpm]; simp [Vm.isSubclass, Vm.isSubclassAux]
      · obtain ⟨p2, k2, kp2, g1, g2, g3, g4, -⟩ := Cond.superclass_spec hps (hts _ o5)
        have hpm : p2 = mk.cls := Option.some.inj (g1.symm.trans hmk)
        subst hpm
        have hsz : 0 < s.vm.classes.size := Nat.lt_of_le_of_lt (Nat.zero_le _) (Array.getElem?_eq_some_iff.mp g2).1
        unfold Vm.isSubclass
        rw [Vm.isSubclassAux, g2]
        simp only [g4]
        obtain ⟨q, hq⟩ : ∃ q, s.vm.classes.size = q + 1 := ⟨s.vm.classes.size - 1, by omega⟩
        rw [hq, Vm.isSubclassAux]
        simp
    have hlen : (av.map (g_tv X.2.2.1)).length = methM.sig.parameters.length := by
      have h2 := hT3.2.2
      rw [hsigM] at h2
      rw [List.length_map, hn]
      exact (Option.some.inj h2).symm
    obtain ⟨vm₁, X₁, hstep₁⟩ := X9.invokespecialUp hx hown (hts _ o1) (hts _ o2) hn9 hmethM hstM habM o7 hdk hnid hps hsuper hsub (a := X.2.2.1 a) (cell := cellB) (by rw [hT9]; exact hcB)
      (fun z h => by rw [h] at hoB; cases hoB) hkB (g := F0 m pc lsA ((av.reverse ++ .ref a :: st).map (g_tv X.2.2.1))) rfl (argsL := av.map (g_tv X.2.2.1)) (rest := st.map (g_tv X.2.2.1)) hlen (by show List.map _ _ = _; rw [List.map_append, List.map_reverse]; rfl) (by rw [hb]; exact hd)
    obtain ⟨v9, ⟨U', l2, c2, s2⟩, X', ⟨g', mk', t, L, e1, e2, hq, h1, hL, h2, h3⟩, hsteps⟩ := hBk m meth c ⟨T9.setVm vm₁, locs, kc, ks⟩ (F0 m pc lsA (st.map (g_tv X.2.2.1))) (.invokespecial index) mk (Value.ref (X.2.2.1 a) :: av.map (g_tv X.2.2.1)).toArray X₁ rfl (hl.1.trans hC.2.2.2.1.symm) (by rw [hb]; exact hd) (g_restw hw) (X₁.named hnamed) ⟨hc.1, hc.2, g_pre (l := l) (av := .ref a :: av) hC hP hS _ hT9 X₁.warmed⟩
    dsimp only [Pt.U, Pt.locs, Pt.cells, Pt.slots] at X' e1 e2 h1 h2 h3 hsteps
    subst h1; subst h2; subst h3
    exact ⟨v9, (T9.setVm vm₁).calling g' mk' (Value.ref (X.2.2.1 a) :: av.map (g_tv X.2.2.1)).toArray, t, U', L, hT9, X', hL, e1, e2, hq, fun target h9 => hstep₁ _ (by rw [doInvoke_state]; exact hsteps.trans h9)⟩
  exact g_back run hC hz hS hl (fun r σ2 hq => by obtain ⟨rfl, rfl⟩ := hq; exact h)
def g_max (x y : Int32) : Int32 := if x < y then y else x
def g_min (x y : Int32) : Int32 := if y < x then y else x
def g_abs (x : Int32) : Int32 := if 0 ≤ x then x else 0 - x
theorem g_rest13 {st : List Value} {ad : Nat → Nat} (hw : (st.map fun v => v.category).sum ≤ 8) (hd1 : 0 < d) : ((st.map (g_tv ad)).map fun v => v.category).sum + 13 ≤ (g_rm d mc ms).locals := by
  have e : ((st.map (g_tv ad)).map fun v => v.category) = st.map fun v => v.category := by
    rw [List.map_map]
    exact List.map_congr_left (fun v _ => g_tvc ad v)
  rw [e]
  show _ ≤ 40 * d
  omega
theorem m_max {index : Nat} {x y : Int32} (hl1 : Cond.methodLink Y.2.2.2.1 index yJ9_max_7cf53 ∈ g_T) (hd : decode Y.1 pc = .ok (.invokestatic index, 3)) (hd1 : 0 < d) (hc : kc ≤ mc ∧ ks ≤ ms) (hw : (st.map fun v => v.category).sum ≤ 8) (h : g_V X Y d mc ms Q k kc ks (pc + 3) ls (.int (g_max x y) :: st) σ) : g_V X Y d mc ms Q k kc ks pc ls (.int y :: .int x :: st) σ := by
  intro l p e s m args below meth c H locs lsA hC hP hz hS hl
  have hx := hC.1
  have hb := hC.2.1
  have hts := hC.2.2.2.2.2.1
  exact va_mmax (R := g_rm d mc ms) hx hb (hC.2.2.2.1.trans hl.1.symm) hC.2.2.2.2.1 (hts _ hl1) (hts _ wm_max.1) (hts _ wm_max.2.1) (hts _ wm_max.2.2) hd1 (g_rest13 hw hd1) hc.1 hc.2 hd (h l p e s m args below meth c H locs lsA hC hP hz hS hl)
theorem m_min {index : Nat} {x y : Int32} (hl1 : Cond.methodLink Y.2.2.2.1 index yJ9_min_7cf53 ∈ g_T) (hd : decode Y.1 pc = .ok (.invokestatic index, 3)) (hd1 : 0 < d) (hc : kc ≤ mc ∧ ks ≤ ms) (hw : (st.map fun v => v.category).sum ≤ 8) (h : g_V X Y d mc ms Q k kc ks (pc + 3) ls (.int (g_min x y) :: st) σ) : g_V X Y d mc ms Q k kc ks pc ls (.int y :: .int x :: st) σ := by
  intro l p e s m args below meth c H locs lsA hC hP hz hS hl
  have hx := hC.1
  have hb := hC.2.1
  have hts := hC.2.2.2.2.2.1
  exact va_mmin (R := g_rm d mc ms) hx hb (hC.2.2.2.1.trans hl.1.symm) hC.2.2.2.2.1 (hts _ hl1) (hts _ wm_min.1) (hts _ wm_min.2.1) (hts _ wm_min.2.2) hd1 (g_rest13 hw hd1) hc.1 hc.2 hd (h l p e s m args below meth c H locs lsA hC hP hz hS hl)
theorem m_abs {index : Nat} {x : Int32} (hl1 : Cond.methodLink Y.2.2.2.1 index yJ9_abs_0f7a4 ∈ g_T) (hd : decode Y.1 pc = .ok (.invokestatic index, 3)) (hd1 : 0 < d) (hc : kc ≤ mc ∧ ks ≤ ms) (hw : (st.map fun v => v.category).sum ≤ 8) (h : g_V X Y d mc ms Q k kc ks (pc + 3) ls (.int (g_abs x) :: st) σ) : g_V X Y d mc ms Q k kc ks pc ls (.int x :: st) σ := by
  intro l p e s m args below meth c H locs lsA hC hP hz hS hl
  have hx := hC.1
  have hb := hC.2.1
  have hts := hC.2.2.2.2.2.1
  exact va_mabs (R := g_rm d mc ms) hx hb (hC.2.2.2.1.trans hl.1.symm) hC.2.2.2.2.1 (hts _ hl1) (hts _ wm_abs.1) (hts _ wm_abs.2.1) (hts _ wm_abs.2.2) hd1 (g_rest13 hw hd1) hc.1 hc.2 hd (h l p e s m args below meth c H locs lsA hC hP hz hS hl)

end GV
