/-! shift, the call -/
def shB (B : sm_M) (p r c : Nat) : sm_M := s2 (s1 B p c) r r c
theorem J_tap_s {A B : sm_M} (hJ : J_tap A B) {t t2 a b c : Nat} (ht : t < 6) (ht2 : t2 < 6) (ha : a + c ≤ 60) (hb : b + c ≤ 60) : J_tap (sm_cp A 49 t a 49 t2 b c) (shB B (60 * t + a) (60 * t2 + b) c) := by
  intro u hu
  obtain ⟨g0, g1, g2, g3, g4⟩ := hJ u hu
  refine ⟨g0, g1, g2, g3, fun j hj => ?_⟩
  by_cases h : u = t2 ∧ b ≤ j ∧ j < b + c
  · obtain ⟨rfl, h1, h2⟩ := h
    have ea : sm_cp A 49 t a 49 u b c 49 u j = A 49 t (a + (j - b)) := if_pos ⟨rfl, rfl, h1, h2⟩
    have e8 : shB B (60 * t + a) (60 * u + b) c 98 0 (60 * u + j) = B 98 0 (60 * t + (a + (j - b))) := by
      have hx : shB B (60 * t + a) (60 * u + b) c 98 0 (60 * u + j) = s1 B (60 * t + a) c 100 0 (60 * u + j - (60 * u + b)) := if_pos ⟨rfl, rfl, by omega, by omega⟩
      rw [hx]
      exact (if_pos ⟨rfl, rfl, by omega⟩ : s1 B (60 * t + a) c 100 0 (60 * u + j - (60 * u + b)) = B 98 0 (60 * t + a + (60 * u + j - (60 * u + b)))).trans (by rw [show 60 * t + a + (60 * u + j - (60 * u + b)) = 60 * t + (a + (j - b)) from by omega])
    have e9 : shB B (60 * t + a) (60 * u + b) c 99 0 (60 * u + j) = B 99 0 (60 * t + (a + (j - b))) := by
      have hx : shB B (60 * t + a) (60 * u + b) c 99 0 (60 * u + j) = s1 B (60 * t + a) c 101 0 (60 * u + j - (60 * u + b)) := if_pos ⟨rfl, rfl, by omega, by omega⟩
      rw [hx]
      exact ((if_neg (fun h => absurd h.1 (by decide))).trans (if_pos ⟨rfl, rfl, by omega⟩) : s1 B (60 * t + a) c 101 0 (60 * u + j - (60 * u + b)) = B 99 0 (60 * t + a + (60 * u + j - (60 * u + b)))).trans (by rw [show 60 * t + a + (60 * u + j - (60 * u + b)) = 60 * t + (a + (j - b)) from by omega])
    rw [ea, e8, e9]
    exact (hJ t ht).2.2.2.2 (a + (j - b)) (by omega)
  · have ea : sm_cp A 49 t a 49 t2 b c 49 u j = A 49 u j := if_neg (fun hh => h hh.2)
    have e8 : shB B (60 * t + a) (60 * t2 + b) c 98 0 (60 * u + j) = B 98 0 (60 * u + j) := (if_neg (fun hh => by omega)).trans (if_neg (fun h => absurd h.1 (by decide)))
    have e9 : shB B (60 * t + a) (60 * t2 + b) c 99 0 (60 * u + j) = B 99 0 (60 * u + j) := if_neg (fun hh => by omega)
    rw [ea, e8, e9]; exact g4 j hj
