/-! move -/
theorem aEA {A : sm_M} {t i : Nat} {kd sv ce ft : Int32} (h : i ≠ t) : aE (aA A t kd sv ce ft) i = aA (aE A i) t kd sv ce ft := by
  funext f j k
  by_cases hf : f = 42
  · subst hf
    by_cases hj : j = i
    · subst hj; simp [aE, aA, sm_u, h]
    · simp [aE, aA, sm_u, hj]
  · simp [aE, aA, sm_u, hf]
def Move (A B A' B' : sm_M) : Prop := ∃ t s i v c, A' = aA (aE A i) t (nI 5) (B 61 0 i) (nI c) (B 62 0 i) ∧ B' = aB0 (bE B i) t (nI 5) (B 61 0 i) (nI c) (B 62 0 i) ∧ B 11 0 13 = nI t ∧ t < 90 ∧ i < t ∧ B 64 0 i < 0 ∧ B 11 0 3 = nI s ∧ s ≤ 12 ∧ B 61 0 i = nI v ∧ v < s ∧ c < 48 ∧ (¬ B 62 0 i < -99 ∧ ¬ 999 < B 62 0 i)
theorem Move_thg {A B A' B' : sm_M} (h : Move A B A' B') (hT : J_thg A B) (hD : J_day A B) : J_thg A' B' := by
  obtain ⟨t, s, i, v, c, rfl, rfl, tb, ht, hi, he, es, hs, ev, hv, hc, hf⟩ := h
  rw [ev]
  exact J_thg_add0 (J_thg_end hT hD tb (by omega) hi) hD tb es ht hs (by decide) (by decide) hv hc hf
theorem Move_tel {A B A' B' : sm_M} {m : Nat} (h : Move A B A' B') (hT : J_tel 0 m A B) (hD : J_day A B) (hm : m < 2 ^ 30) : J_tel 1 (m + 1) A' B' := by
  obtain ⟨t, s, i, v, c, rfl, rfl, tb, ht, hi, he, es, hs, ev, hv, hc, hf⟩ := h
  exact J_tel_add0 (J_tel_end hT hD tb (by omega) hi he) tb ht (J_tel_c hT hm) _ _ _ _
theorem p41 {A B : sm_M} (hT : J_thg A B) (x0 x1 : Int32) (nL : Nat) : ∃ r A' B', (∀ d Q, sm_W (d + 1) 41 0 [vo 10, vi x0, vi x1, none, none] [] (sm_G0 nL) A Q = Q (vi r) (sm_G0 nL) A') ∧ (∀ d Q, sm_W (d + 2) 183 0 [vo 11, vi x0, vi x1] [] (sm_G0 nL) B Q = Q (vi r) (sm_G0 nL) B') ∧ ((A' = A ∧ B' = B) ∨ Move A B A' B') := by
  obtain ⟨t, s, ht, hs, ta, tb, es, tn, hK, -⟩ := hT
  rcases mm_sv x0 t (by omega) with h | ⟨h0, h1, h2⟩ | ⟨i, hi, rfl, v0, v1, v2⟩
  · exact ⟨-1, A, B, fun d Q => by rw [T41, m42n ta (.inl h), sm_push_s, T41_8a], fun d Q => by rw [T183, mm_bt h, mm_ck mm_zb0], .inl ⟨rfl, rfl⟩⟩
  · exact ⟨-1, A, B, fun d Q => by rw [T41, m42n ta (.inr ⟨h0, h1⟩), sm_push_s, T41_8a], fun d Q => by rw [T183, mm_bf h0, tb, mm_bt h2, mm_ck mm_zb0], .inl ⟨rfl, rfl⟩⟩
  obtain ⟨k1, k2, k3, k4, k5, k6, -, -, ⟨v, hv, ev⟩, hf, -, -⟩ := hK i hi
  have ei : sm_in (nI i) 90 = true := mm_in (by omega) (by decide)
  have ec : (nI i).toNatClampNeg = i := nI_clamp (by omega)
  rcases mm_rg x1 47 (by decide) with h | ⟨h0, h1, h2⟩ | ⟨c, hc, rfl, c0, c1, c2, c3, c4⟩
  · exact ⟨-1, A, B, fun d Q => by rw [T41, m42s ta ht hi, sm_push_s, T41_8, mm_bt h], fun d Q => by rw [T183, mm_bf v0, tb, mm_bf v2, mm_ck mm_zb1, mm_bt h, mm_ck mm_zb0], .inl ⟨rfl, rfl⟩⟩
  · have h1' : (47 : Int32) < x1 := h1
    have h2' : ¬ x1 < (48 : Int32) := h2
    exact ⟨-1, A, B, fun d Q => by rw [T41, m42s ta ht hi, sm_push_s, T41_8, mm_bf h0, mm_bf h2'], fun d Q => by rw [T183, mm_bf v0, tb, mm_bf v2, mm_ck mm_zb1, mm_bf h0, mm_bt h1', mm_ck mm_zb0], .inl ⟨rfl, rfl⟩⟩
  have c1' : ¬ (47 : Int32) < nI c := c1
  have c2' : nI c < (48 : Int32) := c2
  rcases Decidable.em (¬ B 59 0 i = 5) with e5 | e5
  · exact ⟨-2, A, B, fun d Q => by rw [T41, m42s ta ht hi, sm_push_s, T41_8, mm_bf c0, mm_bt c2', k1, mm_bf e5], fun d Q => by rw [T183, mm_bf v0, tb, mm_bf v2, mm_ck mm_zb1, mm_bf c0, mm_bf c1', mm_ck mm_zb1, mm_ck ei, ec, mm_bf e5], .inl ⟨rfl, rfl⟩⟩
  replace e5 : B 59 0 i = 5 := Decidable.not_not.mp e5
  by_cases ece : B 60 0 i = nI c
  · exact ⟨-2, A, B, fun d Q => by rw [T41, m42s ta ht hi, sm_push_s, T41_8, mm_bf c0, mm_bt c2', k1, mm_bt e5, k2, mm_bt ece], fun d Q => by rw [T183, mm_bf v0, tb, mm_bf v2, mm_ck mm_zb1, mm_bf c0, mm_bf c1', mm_ck mm_zb1, mm_ck ei, ec, mm_bt e5, mm_ck ei, mm_bt ece], .inl ⟨rfl, rfl⟩⟩
  rcases Decidable.em (¬ B 64 0 i < 0) with he | he
  · exact ⟨-3, A, B, fun d Q => by rw [T41, m42s ta ht hi, sm_push_s, T41_8, mm_bf c0, mm_bt c2', k1, mm_bt e5, k2, mm_bf ece, k6, mm_bf he], fun d Q => by rw [T183, mm_bf v0, tb, mm_bf v2, mm_ck mm_zb1, mm_bf c0, mm_bf c1', mm_ck mm_zb1, mm_ck ei, ec, mm_bt e5, mm_ck ei, mm_bf ece, mm_ck ei, mm_bf he], .inl ⟨rfl, rfl⟩⟩
  replace he : B 64 0 i < 0 := Decidable.not_not.mp he
  by_cases hfu : t = 90
  · subst hfu
    exact ⟨-4, A, B, fun d Q => by rw [T41, m42s ta ht hi, sm_push_s, T41_8, mm_bf c0, mm_bt c2', k1, mm_bt e5, k2, mm_bf ece, k6, mm_bt he, ta, mm_bf (by decide), mm_bt (by decide)], fun d Q => by rw [T183, mm_bf v0, tb, mm_bf v2, mm_ck mm_zb1, mm_bf c0, mm_bf c1', mm_ck mm_zb1, mm_ck ei, ec, mm_bt e5, mm_ck ei, mm_bf ece, mm_ck ei, mm_bt he, mm_bt (by decide)], .inl ⟨rfl, rfl⟩⟩
  have n1 : nI t < (90 : Int32) := nI_lt (show t < 90 by omega) (by decide)
  have n2 : ¬ nI t = (90 : Int32) := fun h => hfu ((nI_eq (by omega) (by decide)).mp (show nI t = nI 90 from h))
  have ti : sm_in (nI t) 90 = true := mm_in (by omega) (by decide)
  have tc : (nI t).toNatClampNeg = t := nI_clamp (by omega)
  refine ⟨nI t, aA (aE A i) t (nI 5) (B 61 0 i) (nI c) (B 62 0 i), aB0 (bE B i) t (nI 5) (B 61 0 i) (nI c) (B 62 0 i), fun d Q => ?_, fun d Q => ?_, .inr ⟨t, s, i, v, c, rfl, rfl, tb, by omega, hi, he, es, hs, ev, hv, by omega, hf⟩⟩
  · rw [T41, m42s ta ht hi, sm_push_s, T41_8, mm_bf c0, mm_bt c2', k1, mm_bt e5, k2, mm_bf ece, k6, mm_bt he, ta, mm_bt n1, mm_ck ti, tc, nI_1, k3, k4]
    have hr : sm_u (sm_u (sm_u (sm_u (sm_u (sm_u A 42 t 1 5) 42 t 3 (B 61 0 i)) 42 t 2 (nI c)) 42 t 4 (B 62 0 i)) 42 t 5 (A 10 0 0)) 42 t 7 (A 14 0 5) 42 t 0 = nI t := by
      rw [← tn t (by omega)]; simp [sm_u]
    rw [hr, mm_bf (nI_pos (by omega)), ← aEA (by omega)]; rfl
  · have hU : sm_u (sm_u (sm_u B 11 0 2 (B 11 0 2 + 1)) 64 0 i (sm_u B 11 0 2 (B 11 0 2 + 1) 11 0 1)) 66 0 i (sm_u B 11 0 2 (B 11 0 2 + 1) 11 0 2) 11 0 13 = nI t := tb
    rw [T183, mm_bf v0, tb, mm_bf v2, mm_ck mm_zb1, mm_bf c0, mm_bf c1', mm_ck mm_zb1, mm_ck ei, ec, mm_bt e5, mm_ck ei, mm_bf ece, mm_ck ei, mm_bt he, mm_bf n2, hU]
    simp only [mm_ck ei, mm_ck ti, tc, nI_1]
    rfl
