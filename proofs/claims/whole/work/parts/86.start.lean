/-! PURE: the start -/
theorem p_start : ∃ r1 r2 : Nat → Nat → Int32, d_M_firstDraft ui_M = some r1 ∧ d_M_keepDraft r1 = some r2 ∧ Rel ui_F r2 := by
  obtain ⟨r1, f1, f2, f3, f4, f5, f6, f7, f8⟩ := M_fd ui_M
  obtain ⟨r2, b1, b2, b3, b4, b5, b6, b7, b8⟩ := M_kd r1
  have e9 : r2 9 = ui_M 9 := by rw [b8 9 (by omega) (by omega) (by omega), f8 9 (by omega) (by omega)]
  have e0 : ∀ j, j ≠ 3 → j ≠ 5 → j ≠ 6 → j ≠ 7 → j ≠ 9 → r2 0 j = ui_M 0 j := fun j h1 h2 h3 h4 h5 => by rw [b5 j h1, f7 j h2 h3 h4 h5]
  refine ⟨r1, r2, f1, b1, 0, dg, by rw [b4, f3]; rfl, ⟨⟨rfl, rfl, rfl, rfl, rfl, rfl, rfl, rfl, Nat.zero_le _, Nat.zero_le _, fun j hj => by omega⟩, fun i hi => by rw [b2 i (by omega)]; exact f2 i (by omega), ⟨by omega, fun _ => rfl, fun z => by omega, by decide, by decide, by decide, fun h hh => ?_, fun h hh => ?_⟩, by decide, by decide⟩, ⟨0, fun _ => 0, fun _ => 0, fun _ => 0, by omega, rfl, by rw [b2 22 (by omega), f2 22 (by omega)]; rfl, fun i hi => by omega⟩, Or.inl ⟨rfl, b6⟩, Or.inl ⟨rfl, b7⟩, ⟨0, fun _ => 0, by omega, rfl, by rw [e0 11 (by omega) (by omega) (by omega) (by omega) (by omega)]; rfl, fun i hi => by omega⟩, by rw [e0 16 (by omega) (by omega) (by omega) (by omega) (by omega)]; rfl, by rw [e0 26 (by omega) (by omega) (by omega) (by omega) (by omega)]; rfl, Or.inl ⟨rfl, by rw [e9]; rfl⟩, Or.inl ⟨rfl, by rw [e9]; rfl⟩, Or.inl ⟨rfl, by rw [e9]; rfl⟩, Or.inl ⟨rfl, by rw [e9]; rfl⟩⟩
  · unfold dg; rw [if_neg (by omega)]; omega
  · unfold dg; rw [if_neg (by omega)]; omega
