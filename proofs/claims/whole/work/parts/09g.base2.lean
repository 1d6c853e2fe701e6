/-! ===== s at another time is still the same town ===== -/
theorem pp_ws_put {s : Nat → Int32} {t : Nat} {w : Nat → Nat} {sc : Int32} {o k : Nat} : pp_ws (pp_put s t w sc) o k = pp_ws s o k := by
  unfold pp_ws
  rw [pp_put_x (by omega), pp_put_x (by omega), pp_put_x (by omega), pp_put_x (by omega), pp_put_x (by omega)]
theorem pp_vl_put {s : Nat → Int32} {t t2 : Nat} {w : Nat → Nat} {sc : Int32} {o : Nat} {v : Int32} : pp_vl (pp_put s t w sc) t2 o v = pp_vl s t2 o v := by
  unfold pp_vl
  rw [pp_put_x (by omega), pp_put_x (by omega), pp_put_x (by omega)]
theorem pp_run_put {s : Nat → Int32} {t t2 : Nat} {w : Nat → Nat} {sc : Int32} {o : Nat} (hn : pp_n s ≤ 6) : ∀ (m k : Nat) (x : Int64), pp_run (pp_put s t w sc) t2 o m k x = pp_run s t2 o m k x
  | 0, _, _ => rfl
  | m + 1, k, x => by rw [pp_run, pp_run, pp_run_put hn m, pp_put_hi hn (by omega), pp_put_hi hn (by omega), pp_put_hi hn (by omega), pp_vl_put, pp_vl_put]
theorem pp_hd_put {s : Nat → Int32} {t t2 : Nat} {w : Nat → Nat} {sc : Int32} {o r : Nat} (hn : pp_n s ≤ 6) : pp_hd (pp_put s t w sc) t2 o r = pp_hd s t2 o r := by
  unfold pp_hd
  rw [pp_put_hi hn (by omega), pp_put_hi hn (by omega), pp_run_put hn]
theorem pp_wlL_put {s : Nat → Int32} {t t2 : Nat} {w : Nat → Nat} {sc : Int32} {o : Nat} (hn : pp_n s ≤ 6) : ∀ (m r : Nat), pp_wlL (pp_put s t w sc) t2 o m r = pp_wlL s t2 o m r
  | 0, _ => rfl
  | m + 1, r => by rw [pp_wlL, pp_wlL, pp_put_x (by omega), pp_put_hi hn (by omega), pp_put_hi hn (by omega), pp_hd_put hn, pp_wlL_put hn m]
theorem pp_wl_put {s : Nat → Int32} {t t2 : Nat} {w : Nat → Nat} {sc : Int32} {o : Nat} (hn : pp_n s ≤ 6) : pp_wl (pp_put s t w sc) t2 o = pp_wl s t2 o := by
  unfold pp_wl
  rw [pp_put_n (by omega) (by omega) (by omega), pp_wlL_put hn]
theorem pp_B_put {s : Nat → Int32} {t : Nat} {w : Nat → Nat} {sc : Int32} (h : pp_B s) : pp_B (pp_put s t w sc) := h
theorem pp_O_put {s : Nat → Int32} {t : Nat} {w : Nat → Nat} {sc : Int32} (h : pp_O s) : pp_O (pp_put s t w sc) := by
  intro o ho
  obtain ⟨k, a, p, f, h1, h2, h3, h4, h5, h6, e1, e2, e3, e4⟩ := h o ho
  exact ⟨k, a, p, f, h1, h2, h3, h4, h5, h6, by rw [pp_put_x (by omega), e1], by rw [pp_put_x (by omega), e2], by rw [pp_put_x (by omega), e3], by rw [pp_put_x (by omega), e4]⟩
theorem pp_R_put {s : Nat → Int32} {t : Nat} {w : Nat → Nat} {sc : Int32} (hn : pp_n s ≤ 6) (h : pp_R s) : pp_R (pp_put s t w sc) := by
  obtain ⟨R, S, hR8, hS, h5, h7, hr⟩ := h
  refine ⟨R, S, hR8, hS, by rw [pp_put_n (by omega) (by omega) (by omega), h5], by rw [pp_put_n (by omega) (by omega) (by omega), h7], fun r hr2 => ?_⟩
  obtain ⟨b, e, k, d, g1, g2, g3, g4, e1, e2, e3, e4⟩ := hr r hr2
  exact ⟨b, e, k, d, g1, g2, g3, g4, by rw [pp_put_hi hn (by omega), e1], by rw [pp_put_hi hn (by omega), e2], by rw [pp_put_hi hn (by omega), e3], by rw [pp_put_hi hn (by omega), e4]⟩
theorem pp_C_put {s : Nat → Int32} {t : Nat} {w : Nat → Nat} {sc : Int32} {μ : g_M} (hn : pp_n s ≤ 6) (h : pp_C s μ) : pp_C (pp_put s t w sc) μ := by
  obtain ⟨h1, h2, h3, h4⟩ := h
  refine ⟨h1, fun o ho => ?_, fun o k ho hk q => by rw [pp_ws_put]; exact h3 o k ho hk q, fun t2 o ht ho => by rw [pp_wl_put hn]; exact h4 t2 o ht ho⟩
  obtain ⟨a1, a2, a3, a4⟩ := h2 o ho
  exact ⟨by rw [pp_put_x (by omega), a1], by rw [pp_put_x (by omega), a2], by rw [pp_put_x (by omega), a3], by rw [pp_put_x (by omega), a4]⟩
theorem pp_put_put {s : Nat → Int32} {t t2 : Nat} {w w2 : Nat → Nat} {sc sc2 : Int32} : pp_put (pp_put s t w sc) t2 w2 sc2 = pp_put s t2 w2 sc2 := by
  funext j
  by_cases e : j = 1
  · subst e; rfl
  by_cases e3 : j = 3
  · subst e3; rfl
  by_cases e4 : 8 ≤ j ∧ j < 8 + 5 * pp_n s ∧ (j - 8) % 5 = 4
  · obtain ⟨o, ho, rfl⟩ : ∃ o, o < pp_n s ∧ j = 8 + 5 * o + 4 := ⟨(j - 8) / 5, by omega, by omega⟩
    rw [pp_put_w (s := pp_put s t w sc) ho, pp_put_w ho]
  · rw [pp_put_n (s := pp_put s t w sc) e e3 e4, pp_put_n e e3 e4, pp_put_n e e3 e4]
/-- who is away, by s -/
def pp_w (s : Nat → Int32) (o : Nat) : Nat := if o < pp_n s then (s (8 + 5 * o + 4)).toNatClampNeg else 0
def pp_t (s : Nat → Int32) : Nat := (s 1).toNatClampNeg
def pp_e (s : Nat → Int32) : Nat := (s 2).toNatClampNeg
/-- a town's time that can be read -/
def pp_T (s : Nat → Int32) : Prop := s 1 = pp_i (pp_t s) ∧ s 2 = pp_i (pp_e s) ∧ 1 ≤ pp_e s ∧ pp_e s ≤ 16 ∧ pp_t s ≤ pp_e s ∧ ∀ o, o < pp_n s → s (8 + 5 * o + 4) = pp_i (pp_w s o) ∧ pp_w s o < 16
theorem pp_self {s : Nat → Int32} (h : pp_T s) : s = pp_put s (pp_t s) (pp_w s) (s 3) := by
  obtain ⟨h1, h2, h3, h4, h5, h6⟩ := h
  funext j
  unfold pp_put
  by_cases e : j = 1
  · rw [if_pos e, e, h1]
  rw [if_neg e]
  by_cases e3 : j = 3
  · rw [if_pos e3, e3]
  rw [if_neg e3]
  by_cases e4 : 8 ≤ j ∧ j < 8 + 5 * pp_n s ∧ (j - 8) % 5 = 4
  · rw [if_pos e4]
    have := (h6 ((j - 8) / 5) (by omega)).1
    rw [show 8 + 5 * ((j - 8) / 5) + 4 = j by omega] at this
    exact this
  · rw [if_neg e4]
theorem pp_w_hi {s : Nat → Int32} {o : Nat} (h : ¬ o < pp_n s) : pp_w s o = 0 := if_neg h
theorem pp_w_put {s : Nat → Int32} {t : Nat} {w : Nat → Nat} {sc : Int32} {o : Nat} (ho : o < pp_n s) (hw : w o < 16) : pp_w (pp_put s t w sc) o = w o := by
  unfold pp_w
  rw [if_pos (show o < pp_n (pp_put s t w sc) from ho), pp_put_w ho, pp_nat (by omega)]
theorem pp_T_put {s : Nat → Int32} {t : Nat} {w : Nat → Nat} {sc : Int32} (h : pp_T s) (ht : t ≤ pp_e s) (hw : ∀ o, o < pp_n s → w o < 16) : pp_T (pp_put s t w sc) := by
  obtain ⟨h1, h2, h3, h4, h5, h6⟩ := h
  have e1 : pp_t (pp_put s t w sc) = t := by
    unfold pp_t
    rw [pp_put_1, pp_nat (by omega)]
  refine ⟨by rw [e1, pp_put_1], h2, h3, h4, by rw [e1]; exact ht, fun o ho => ?_⟩
  have ho' : o < pp_n s := ho
  rw [pp_put_w ho', pp_w_put ho' (hw o ho')]
  exact ⟨rfl, hw o ho'⟩
/-- a town's row that is right -/
def pp_I (s : Nat → Int32) : Prop := pp_B s ∧ pp_O s ∧ pp_R s ∧ pp_T s
theorem pp_I_put {s : Nat → Int32} {t : Nat} {w : Nat → Nat} {sc : Int32} (h : pp_I s) (ht : t ≤ pp_e s) (hw : ∀ o, o < pp_n s → w o < 16) : pp_I (pp_put s t w sc) := ⟨pp_B_put h.1, pp_O_put h.2.1, pp_R_put h.1.2 h.2.2.1, pp_T_put h.2.2.2 ht hw⟩
