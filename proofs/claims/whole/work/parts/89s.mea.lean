/-! item -/
theorem J_tap_i {A B : sm_M} (hJ : J_tap A B) {t i : Nat} (ht : t < 6) (hi : i < 60) (v : Int32) : J_tap (sm_u A 49 t i v) (sm_u (sm_u B 98 0 (60 * t + i) v) 99 0 (60 * t + i) 0) := by
  intro u hu
  obtain ⟨g0, g1, g2, g3, g4⟩ := hJ u hu
  refine ⟨g0, g1, g2, g3, fun j hj => ?_⟩
  by_cases hut : u = t ∧ j = i
  · obtain ⟨rfl, rfl⟩ := hut
    exact .inl ⟨by simp [sm_u], by simp [sm_u]⟩
  · have ea : sm_u A 49 t i v 49 u j = A 49 u j := mm_un hut
    have eb : sm_u (sm_u B 98 0 (60 * t + i) v) 99 0 (60 * t + i) 0 99 0 (60 * u + j) = B 99 0 (60 * u + j) := mm_un (by omega)
    have ec : sm_u (sm_u B 98 0 (60 * t + i) v) 99 0 (60 * t + i) 0 98 0 (60 * u + j) = B 98 0 (60 * u + j) := (mm_un (A := B) (f := 98) (by omega) : sm_u B 98 0 (60 * t + i) v 98 0 (60 * u + j) = _)
    rw [ea, eb, ec]
    exact g4 j hj
