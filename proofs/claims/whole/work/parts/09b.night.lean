/-! ===== what a night is, in terms of the reference's row s ===== -/
def pp_n (s : Nat → Int32) : Nat := (s 0).toNatClampNeg
/-- s at another time: night t, who is away w, score sc -/
def pp_put (s : Nat → Int32) (t : Nat) (w : Nat → Nat) (sc : Int32) : Nat → Int32 := fun j =>
  if j = 1 then pp_i t else if j = 3 then sc else if 8 ≤ j ∧ j < 8 + 5 * pp_n s ∧ (j - 8) % 5 = 4 then pp_i (w ((j - 8) / 5)) else s j
theorem pp_put_1 {s : Nat → Int32} {t : Nat} {w : Nat → Nat} {sc : Int32} : pp_put s t w sc 1 = pp_i t := rfl
theorem pp_put_3 {s : Nat → Int32} {t : Nat} {w : Nat → Nat} {sc : Int32} : pp_put s t w sc 3 = sc := rfl
theorem pp_put_0 {s : Nat → Int32} {t : Nat} {w : Nat → Nat} {sc : Int32} : pp_put s t w sc 0 = s 0 := rfl
theorem pp_put_2 {s : Nat → Int32} {t : Nat} {w : Nat → Nat} {sc : Int32} : pp_put s t w sc 2 = s 2 := rfl
theorem pp_put_w {s : Nat → Int32} {t : Nat} {w : Nat → Nat} {sc : Int32} {o : Nat} (h : o < pp_n s) : pp_put s t w sc (8 + 5 * o + 4) = pp_i (w o) := by
  unfold pp_put
  rw [if_neg (by omega), if_neg (by omega), if_pos (by omega)]
  congr 2
  omega
theorem pp_put_x {s : Nat → Int32} {t : Nat} {w : Nat → Nat} {sc : Int32} {o i : Nat} (h : i < 4) : pp_put s t w sc (8 + 5 * o + i) = s (8 + 5 * o + i) := by
  unfold pp_put
  rw [if_neg (by omega), if_neg (by omega), if_neg (by omega)]
theorem pp_put_n {s : Nat → Int32} {t : Nat} {w : Nat → Nat} {sc : Int32} {j : Nat} (h : ¬ j = 1) (h2 : ¬ j = 3) (h3 : ¬ (8 ≤ j ∧ j < 8 + 5 * pp_n s ∧ (j - 8) % 5 = 4)) : pp_put s t w sc j = s j := by
  unfold pp_put
  rw [if_neg h, if_neg h2, if_neg h3]
theorem pp_put_hi {s : Nat → Int32} {t : Nat} {w : Nat → Nat} {sc : Int32} {j : Nat} (hn : pp_n s ≤ 6) (h : 38 ≤ j) : pp_put s t w sc j = s j := pp_put_n (by omega) (by omega) (by omega)
theorem pp_put_set {s : Nat → Int32} {t : Nat} {w : Nat → Nat} {sc : Int32} {o v : Nat} (h : o < pp_n s) : pp_up (pp_put s t w sc) (8 + 5 * o + 4) (pp_i v) = pp_put s t (pp_up w o v) sc := by
  funext j
  unfold pp_up pp_put
  by_cases e : j = 8 + 5 * o + 4
  · subst e
    rw [if_pos rfl, if_neg (by omega), if_neg (by omega), if_pos (by omega)]
    dsimp only
    rw [if_pos (by omega)]
  · rw [if_neg e]
    by_cases e1 : j = 1
    · rw [if_pos e1, if_pos e1]
    rw [if_neg e1, if_neg e1]
    by_cases e3 : j = 3
    · rw [if_pos e3, if_pos e3]
    rw [if_neg e3, if_neg e3]
    by_cases e4 : 8 ≤ j ∧ j < 8 + 5 * pp_n s ∧ (j - 8) % 5 = 4
    · rw [if_pos e4, if_pos e4]
      dsimp only
      rw [if_neg (by omega)]
    · rw [if_neg e4, if_neg e4]
theorem pp_put_t {s : Nat → Int32} {t t2 : Nat} {w : Nat → Nat} {sc : Int32} : pp_up (pp_put s t w sc) 1 (pp_i t2) = pp_put s t2 w sc := by
  funext j
  unfold pp_up pp_put
  by_cases e : j = 1
  · rw [if_pos e, if_pos e]
  · rw [if_neg e, if_neg e, if_neg e]
theorem pp_put_c {s : Nat → Int32} {t : Nat} {w : Nat → Nat} {sc sc2 : Int32} : pp_up (pp_put s t w sc) 3 sc2 = pp_put s t w sc2 := by
  funext j
  unfold pp_up pp_put
  by_cases e : j = 1
  · rw [if_pos e, if_pos e, if_neg (by omega)]
  · rw [if_neg e, if_neg e]
    by_cases e3 : j = 3
    · rw [if_pos e3, if_pos e3]
    · rw [if_neg e3, if_neg e3, if_neg e3]
theorem pp_put_congr {s : Nat → Int32} {t : Nat} {w w2 : Nat → Nat} {sc : Int32} (h : ∀ o, o < pp_n s → w o = w2 o) : pp_put s t w sc = pp_put s t w2 sc := by
  funext j
  unfold pp_put
  by_cases e4 : 8 ≤ j ∧ j < 8 + 5 * pp_n s ∧ (j - 8) % 5 = 4
  · rw [if_pos e4, if_pos e4, h _ (by omega)]
  · rw [if_neg e4, if_neg e4]
/-- LONGING of o for k -/
def pp_ws (s : Nat → Int32) (o k : Nat) : Int32 := f_X12_longsBy (s (8 + 5 * o + 0)) (s (8 + 5 * o + 1)) (s (8 + 5 * o + 2)) (s (8 + 5 * k + 1)) (s (8 + 5 * k + 2)) (if o < k then 1 else 0)
/-- a fact or a number -/
def pp_vl (s : Nat → Int32) (t o : Nat) (v : Int32) : Int32 := if v - 10000 = 0 then pp_i t else if v - 10000 = 1 then s (8 + 5 * o + 1) else if v - 10000 = 2 then s (8 + 5 * o + 2) else if v - 10000 = 3 then s (8 + 5 * o + 3) else if v - 10000 = 4 then pp_i o else v
def pp_cmp (q a b : Int32) : Bool := if q = 0 then decide (a < b) else if q = 1 then decide (a = b) else decide (b < a)
/-- one step of a condition -/
def pp_st1 (q : Int32) (is : Bool) (x : Int64) : Int64 :=
  if q < 3 then 2 * x + (if is = true then 1 else 0) else if q = 3 then x ^^^ 1 else if q = 4 then (if lg_cmp (x &&& 1) 1 = 0 then x / 2 else x / 2 &&& (-2)) else x / 2 ||| (x &&& 1)
def pp_run (s : Nat → Int32) (t o : Nat) : Nat → Nat → Int64 → Int64
  | 0, _, x => x
  | m + 1, k, x => pp_run s t o m (k + 1) (pp_st1 (s (94 + 3 * k)) (pp_cmp (s (94 + 3 * k)) (pp_vl s t o (s (94 + 3 * k + 1))) (pp_vl s t o (s (94 + 3 * k + 2)))) x)
def pp_hd (s : Nat → Int32) (t o r : Nat) : Bool := decide (lg_cmp (g_lrm (pp_run s t o ((s (38 + 4 * r + 3)).toNatClampNeg - (s (38 + 4 * r + 2)).toNatClampNeg) (s (38 + 4 * r + 2)).toNatClampNeg 1) 2) 1 = 0)
def pp_wlL (s : Nat → Int32) (t o : Nat) : Nat → Nat → Int32
  | 0, _ => 0
  | m + 1, r => if f_X12_isUnder (s (8 + 5 * o + 0)) (s (38 + 4 * r)) ≠ 0 ∧ pp_hd s t o r = true then s (38 + 4 * r + 1) else pp_wlL s t o m (r + 1)
/-- WILL of o at night t -/
def pp_wl (s : Nat → Int32) (t o : Nat) : Int32 := pp_wlL s t o (s 5).toNatClampNeg 0
/-- what o BAKES at night t -/
def pp_bk (s : Nat → Int32) (t o : Nat) : Int32 :=
  if s (8 + 5 * o + 0) = 1 then s (8 + 5 * o + 3) / 2 else if s (8 + 5 * o + 0) = 2 then 2 * s (8 + 5 * o + 3) else if s (8 + 5 * o + 0) = 3 then 2 * s (8 + 5 * o + 3) + 1
  else if s (8 + 5 * o + 0) = 5 then (if t % 2 = 1 then 0 else s (8 + 5 * o + 3)) else s (8 + 5 * o + 3)
/-- who is FREE, w being behind (1), c being CHAINED -/
def pp_fr (s : Nat → Int32) (t : Nat) (w : Nat → Nat) (c : Nat) (o : Nat) : Bool := decide (w o = 0 ∧ c / 2 ^ o % 2 = 0 ∧ ¬ pp_wl s t o = 1)
def pp_cl (s : Nat → Int32) (fr : Nat → Bool) (o : Nat) : Nat → Nat → Nat → Int32 → Nat
  | 0, _, b, _ => b
  | m + 1, k, b, x => if ¬ k = o ∧ fr k = true ∧ x < pp_ws s o k then pp_cl s fr o m (k + 1) k (pp_ws s o k) else pp_cl s fr o m (k + 1) b x
/-- CHOICE -/
def pp_co (s : Nat → Int32) (t : Nat) (fr : Nat → Bool) (o : Nat) : Nat := if fr o = true then pp_cl s fr o (pp_n s) 0 6 (if pp_wl s t o = 2 then 3 else 0) else 6
def pp_gn (n : Nat) (co : Nat → Nat) (o : Nat) : Bool := decide (o < n ∧ co o < n ∧ co (co o) = o)
def pp_pl (s : Nat → Int32) (o : Nat) : Nat := (s (8 + 5 * o + 2)).toNatClampNeg
def pp_ap (a b : Nat) : Nat := if a < b then b - a else a - b
def pp_nw (s : Nat → Int32) (t : Nat) (w : Nat → Nat) (c : Nat) (o : Nat) : Nat :=
  if pp_gn (pp_n s) (pp_co s t (pp_fr s t (fun k => w k - 1) c)) o = true then 2 + pp_ap (pp_pl s o) (pp_pl s (pp_co s t (pp_fr s t (fun k => w k - 1) c) o)) / 4 else w o - 1
def pp_sum (f : Nat → Int32) (p : Nat → Bool) : Nat → Nat → Int32 → Int32
  | 0, _, x => x
  | m + 1, k, x => pp_sum f p m (k + 1) (if p k = true then x + f k else x)
/-- what night t is WORTH, w being behind it -/
def pp_wo (s : Nat → Int32) (t : Nat) (w : Nat → Nat) : Int32 := pp_sum (pp_bk s t) (fun o => decide (w o = 0)) (pp_n s) 0 0
def pp_hm (n : Nat) (w : Nat → Nat) : Nat := pp_mk (fun o => decide (w o = 0)) n
theorem pp_cl_le {s : Nat → Int32} {fr : Nat → Bool} {o : Nat} : ∀ {m k b : Nat} {x : Int32}, pp_cl s fr o m k b x = b ∨ (k ≤ pp_cl s fr o m k b x ∧ pp_cl s fr o m k b x < k + m ∧ ¬ pp_cl s fr o m k b x = o ∧ fr (pp_cl s fr o m k b x) = true)
  | 0, _, _, _ => Or.inl rfl
  | m + 1, k, b, x => by
    rw [pp_cl]
    split
    · rename_i h
      rcases @pp_cl_le s fr o m (k + 1) k (pp_ws s o k) with h1 | ⟨h1, h2, h3, h4⟩
      · rw [h1]
        exact Or.inr ⟨Nat.le_refl _, by omega, h.1, h.2.1⟩
      · exact Or.inr ⟨by omega, by omega, h3, h4⟩
    · rcases @pp_cl_le s fr o m (k + 1) b x with h1 | ⟨h1, h2, h3, h4⟩
      · exact Or.inl h1
      · exact Or.inr ⟨by omega, by omega, h3, h4⟩
theorem pp_co_le {s : Nat → Int32} {t o : Nat} {fr : Nat → Bool} : pp_co s t fr o = 6 ∨ (pp_co s t fr o < pp_n s ∧ ¬ pp_co s t fr o = o ∧ fr (pp_co s t fr o) = true ∧ fr o = true) := by
  unfold pp_co
  split
  · rename_i h
    rcases @pp_cl_le s fr o (pp_n s) 0 6 (if pp_wl s t o = 2 then 3 else 0) with h1 | ⟨h1, h2, h3, h4⟩
    · exact Or.inl h1
    · exact Or.inr ⟨by omega, h3, h4, h⟩
  · exact Or.inl rfl
