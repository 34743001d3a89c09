/-! tape -/
def tA (A : sm_M) (t : Nat) (k m : Int32) : sm_M := zA (sm_u (sm_u A 26 t 0 k) 26 t 1 m) t 60
def tB (B : sm_M) (t : Nat) (k m : Int32) : sm_M := zB (sm_u (sm_u B 96 0 t k) 97 0 t m) t 60
theorem zA_0 (A : sm_M) (t : Nat) : zA A t 0 = A := by funext f i k; simp [zA]
theorem zB_0 (B : sm_M) (t : Nat) : zB B t 0 = B := by
  funext f i k
  exact if_neg (fun h => by omega)
theorem J_tap_t {A B : sm_M} (hJ : J_tap A B) {t : Nat} (ht : t < 6) {k m : Int32} (hk : k = -1 ∨ ∃ j, j ≤ 3 ∧ k = nI j) (hm : ∃ n, n ≤ 60 ∧ m = nI n) : J_tap (tA A t k m) (tB B t k m) := by
  intro u hu
  obtain ⟨g0, g1, g2, g3, g4⟩ := hJ u hu
  by_cases h : u = t
  · subst h
    have e0 : tB B u k m 96 0 u = k := by simp [tB, zB, sm_u]
    have e1 : tB B u k m 97 0 u = m := by simp [tB, zB, sm_u]
    refine ⟨by rw [e0]; simp [tA, zA, sm_u], by rw [e1]; simp [tA, zA, sm_u], by rw [e0]; exact hk, by rw [e1]; exact hm, fun i hi => .inl ⟨?_, ?_⟩⟩
    · exact if_pos ⟨.inr rfl, rfl, by omega, by omega⟩
    · exact (if_pos ⟨rfl, rfl, hi⟩ : tA A u k m 49 u i = 0).trans (if_pos ⟨.inl rfl, rfl, by omega, by omega⟩ : tB B u k m 98 0 (60 * u + i) = 0).symm
  · have e0 : tB B t k m 96 0 u = B 96 0 u := by simp [tB, zB, sm_u, h]
    have e1 : tB B t k m 97 0 u = B 97 0 u := by simp [tB, zB, sm_u, h]
    have a0 : tA A t k m 26 u 0 = A 26 u 0 := by simp [tA, zA, sm_u, h]
    have a1 : tA A t k m 26 u 1 = A 26 u 1 := by simp [tA, zA, sm_u, h]
    refine ⟨by rw [e0, a0]; exact g0, by rw [e1, a1]; exact g1, by rw [e0]; exact g2, by rw [e1]; exact g3, fun i hi => ?_⟩
    have a2 : tA A t k m 49 u i = A 49 u i := by simp [tA, zA, sm_u, h]
    have b2 : tB B t k m 98 0 (60 * u + i) = B 98 0 (60 * u + i) := (if_neg (fun hh => by omega) : _).trans (by simp [sm_u])
    have b3 : tB B t k m 99 0 (60 * u + i) = B 99 0 (60 * u + i) := (if_neg (fun hh => by omega) : _).trans (by simp [sm_u])
    rw [a2, b2, b3]; exact g4 i hi
