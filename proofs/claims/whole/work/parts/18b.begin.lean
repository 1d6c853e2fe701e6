/-! ===== the two objects at their beginning ===== -/
def pp_nil : g_M := fun _ _ => 0
theorem pp_start : pp_Rel 18 0 40 0 (g_m_X11 pp_nil) (g_m_X12 pp_nil) := by
  have hn : pp_n (g_m_X12 pp_nil 1) = 0 := rfl
  refine ⟨Or.inl rfl, Or.inr (Or.inl rfl), ⟨⟨⟨rfl, by rw [hn]; decide⟩, fun o ho => absurd (hn ▸ ho) (Nat.not_lt_zero o), ?_, ?_⟩, ⟨⟨rfl, fun o ho => absurd (hn ▸ ho) (Nat.not_lt_zero o), fun o k ho => absurd (hn ▸ ho) (Nat.not_lt_zero o), fun t o _ ho => absurd (hn ▸ ho) (Nat.not_lt_zero o)⟩, ?_, rfl, rfl, rfl, rfl⟩, ⟨0, 0, by decide, by decide, rfl, rfl, by decide, by decide, rfl, fun i hi => absurd hi (Nat.not_lt_zero i), fun i hi => absurd hi (Nat.not_lt_zero i)⟩, 0, by decide, rfl, rfl, fun i hi => absurd hi (Nat.not_lt_zero i)⟩, Or.inl ⟨rfl, rfl⟩, ⟨0, fun _ => 0, ⟨by decide, fun k hk => absurd hk (Nat.not_lt_zero k)⟩, ⟨by decide, fun k hk => absurd hk (Nat.not_lt_zero k)⟩, ⟨fun _ => (by decide : (0 : Nat) < 256), fun _ _ => rfl⟩, rfl, rfl⟩, ⟨0, by decide, rfl, rfl, fun j hj => absurd hj (Nat.not_lt_zero j)⟩, fun i hi => ?_, fun h hh => ?_, ⟨0, by decide, rfl, rfl, fun j hj => absurd hj (Nat.not_lt_zero j)⟩⟩
  · exact ⟨0, 0, by decide, by decide, rfl, rfl, fun r hr => absurd hr (Nat.not_lt_zero r)⟩
  · exact ⟨rfl, rfl, by decide, by decide, by decide, fun o ho => absurd (hn ▸ ho) (Nat.not_lt_zero o)⟩
  · rw [hn]
    rfl
  · match i, hi with
    | 0, _ => exact ⟨-1, 0, by decide, Or.inl rfl, rfl, rfl, rfl, rfl, fun j hj => absurd hj (Nat.not_lt_zero j)⟩
    | 1, _ => exact ⟨-1, 0, by decide, Or.inl rfl, rfl, rfl, rfl, rfl, fun j hj => absurd hj (Nat.not_lt_zero j)⟩
    | 2, _ => exact ⟨-1, 0, by decide, Or.inl rfl, rfl, rfl, rfl, rfl, fun j hj => absurd hj (Nat.not_lt_zero j)⟩
    | 3, _ => exact ⟨-1, 0, by decide, Or.inl rfl, rfl, rfl, rfl, rfl, fun j hj => absurd hj (Nat.not_lt_zero j)⟩
  · match h, hh with
    | 0, _ => exact Or.inl ⟨rfl, rfl⟩
    | 1, _ => exact Or.inl ⟨rfl, rfl⟩
    | 2, _ => exact Or.inl ⟨rfl, rfl⟩
    | 3, _ => exact Or.inl ⟨rfl, rfl⟩
