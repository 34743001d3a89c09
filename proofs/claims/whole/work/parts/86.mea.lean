/-! things: a row of the class's book (42) and of the reference (59 .. 64) -/
def K_thg (A B : sm_M) (s i : Nat) : Prop := A 42 i 1 = B 59 0 i ∧ A 42 i 2 = B 60 0 i ∧ A 42 i 3 = B 61 0 i ∧ A 42 i 4 = B 62 0 i ∧ A 42 i 5 = B 63 0 i ∧ A 42 i 6 = B 64 0 i ∧ (∃ k, 1 ≤ k ∧ k ≤ 6 ∧ B 59 0 i = nI k) ∧ (∃ c, c < 48 ∧ B 60 0 i = nI c) ∧ (∃ v, v < s ∧ B 61 0 i = nI v) ∧ (¬ B 62 0 i < -99 ∧ ¬ 999 < B 62 0 i) ∧ (∃ y, y ≤ 9999 ∧ B 63 0 i = nI y) ∧ (B 64 0 i = -1 ∨ ∃ y, y ≤ 9999 ∧ B 64 0 i = nI y)
def J_thg (A B : sm_M) : Prop := ∃ t s, t ≤ 90 ∧ s ≤ 12 ∧ A 14 0 3 = nI t ∧ B 11 0 13 = nI t ∧ B 11 0 3 = nI s ∧ (∀ i, i < 90 → A 42 i 0 = nI i) ∧ (∀ i, i < t → K_thg A B s i) ∧ (∀ i, t ≤ i → i < 90 → A 42 i 6 = -1 ∧ A 42 i 9 = -1 ∧ A 42 i 10 = -1)
def aA (A : sm_M) (t : Nat) (kd sv ce ft : Int32) : sm_M := sm_u (sm_u (sm_u (sm_u (sm_u (sm_u (sm_u A 42 t 1 kd) 42 t 3 sv) 42 t 2 ce) 42 t 4 ft) 42 t 5 (A 10 0 0)) 42 t 7 (A 14 0 5)) 14 0 3 (nI (t + 1))
def aB0 (B : sm_M) (t : Nat) (kd sv ce ft : Int32) : sm_M := sm_u (sm_u (sm_u (sm_u (sm_u (sm_u (sm_u (sm_u (sm_u (sm_u B 59 0 t kd) 60 0 t ce) 61 0 t sv) 62 0 t ft) 63 0 t (B 11 0 1)) 64 0 t (-1)) 65 0 t (B 11 0 2)) 67 0 t (-1)) 68 0 t (-1)) 11 0 13 (nI (t + 1))
def aB (B : sm_M) (t : Nat) (kd sv ce ft : Int32) : sm_M := aB0 (sm_u B 11 0 2 (B 11 0 2 + 1)) t kd sv ce ft
theorem aA_ne {A : sm_M} {t i k : Nat} {kd sv ce ft : Int32} (h : i ≠ t) : aA A t kd sv ce ft 42 i k = A 42 i k := by simp [aA, sm_u, h]
theorem aB0_ne {B : sm_M} {t i f : Nat} {kd sv ce ft : Int32} (h : i ≠ t) (hf : f ≠ 11) : aB0 B t kd sv ce ft f 0 i = B f 0 i := by simp [aB0, sm_u, h, hf]
theorem J_thg_add0 {A B : sm_M} {t s : Nat} (hJ : J_thg A B) (hD : J_day A B) (et : B 11 0 13 = nI t) (es : B 11 0 3 = nI s) (ht : t < 90) (hs : s ≤ 12) {k v c : Nat} {ft : Int32} (hk1 : 1 ≤ k) (hk : k ≤ 6) (hv : v < s) (hc : c < 48) (hf : ¬ ft < -99 ∧ ¬ 999 < ft) : J_thg (aA A t (nI k) (nI v) (nI c) ft) (aB0 B t (nI k) (nI v) (nI c) ft) := by
  obtain ⟨t', s', h1, h2, h3, h4, h5, h6, h7, h8⟩ := hJ
  have e1 : t' = t := (nI_eq (by omega) (by omega)).mp (h4.symm.trans et)
  have e2 : s' = s := (nI_eq (by omega) (by omega)).mp (h5.symm.trans es)
  subst e1 e2
  obtain ⟨hd, n, hn, en⟩ := hD
  refine ⟨t' + 1, s', by omega, hs, rfl, rfl, h5, fun i hi => ?_, fun i hi => ?_, fun i hi hi2 => ?_⟩
  · by_cases hit : i = t'
    · subst hit; rw [← h6 i hi]; simp [aA, sm_u]
    · rw [aA_ne hit]; exact h6 i hi
  · by_cases hit : i = t'
    · subst hit
      have h86 := h8 i (Nat.le_refl _) ht
      refine ⟨by simp [aA, aB0, sm_u], by simp [aA, aB0, sm_u], by simp [aA, aB0, sm_u], by simp [aA, aB0, sm_u], by simp [aA, aB0, sm_u, hd], by simp [aA, aB0, sm_u, h86.1], ⟨k, hk1, hk, by simp [aB0, sm_u]⟩, ⟨c, hc, by simp [aB0, sm_u]⟩, ⟨v, hv, by simp [aB0, sm_u]⟩, by simpa [aB0, sm_u] using hf, ⟨n, hn, by simp [aB0, sm_u, en]⟩, .inl (by simp [aB0, sm_u])⟩
    · have := h7 i (by omega)
      unfold K_thg at this ⊢
      rw [aA_ne hit, aA_ne hit, aA_ne hit, aA_ne hit, aA_ne hit, aA_ne hit, aB0_ne hit (by decide), aB0_ne hit (by decide), aB0_ne hit (by decide), aB0_ne hit (by decide), aB0_ne hit (by decide), aB0_ne hit (by decide)]
      exact this
  · have hit : i ≠ t' := by omega
    rw [aA_ne hit, aA_ne hit, aA_ne hit]
    exact h8 i (by omega) hi2
theorem J_thg_add {A B : sm_M} {t s : Nat} (hJ : J_thg A B) (hD : J_day A B) (et : B 11 0 13 = nI t) (es : B 11 0 3 = nI s) (ht : t < 90) (hs : s ≤ 12) {k v c : Nat} {ft : Int32} (hk1 : 1 ≤ k) (hk : k ≤ 6) (hv : v < s) (hc : c < 48) (hf : ¬ ft < -99 ∧ ¬ 999 < ft) : J_thg (aA A t (nI k) (nI v) (nI c) ft) (aB B t (nI k) (nI v) (nI c) ft) :=
  J_thg_add0 (B := sm_u B 11 0 2 (B 11 0 2 + 1)) hJ hD et es ht hs hk1 hk hv hc hf
