/-! tapes: blank -/
theorem p162 {A B : sm_M} (hJ : J_tap A B) (x0 x1 : Int32) (nL : Nat) : ∃ r A' B', (∀ d Q, sm_W (d + 1) 162 0 [vo 10, vi x0, vi x1, none] [] (sm_G0 nL) A Q = Q (vi r) (sm_G0 nL) A') ∧ (∀ d Q, sm_W (d + 2) 274 0 [vo 11, vi x0, vi x1] [] (sm_G0 nL) B Q = Q (vi r) (sm_G0 nL) B') ∧ ((A' = A ∧ B' = B) ∨ ∃ t i, A' = sm_u A 49 t i 999999999 ∧ B' = sm_u B 99 0 (60 * t + i) 1 ∧ J_tap A' B') := by
  rcases mm_rg x0 5 (by decide) with h | ⟨h0, h1, h2⟩ | ⟨t, ht, rfl, t0, t1, t2, tc, ti⟩
  · exact ⟨-1, A, B, fun d Q => by rw [T162, mm_bt h], fun d Q => by rw [T274, mm_bt h, mm_ck mm_zb0], .inl ⟨rfl, rfl⟩⟩
  · have h1' : (5 : Int32) < x0 := h1
    have h2' : ¬ x0 < (6 : Int32) := h2
    exact ⟨-1, A, B, fun d Q => by rw [T162, mm_bf h0, mm_bf h2'], fun d Q => by rw [T274, mm_bf h0, mm_bt h1', mm_ck mm_zb0], .inl ⟨rfl, rfl⟩⟩
  have t1' : ¬ (5 : Int32) < nI t := t1
  have t2' : nI t < (6 : Int32) := t2
  have ti' : sm_in (nI t) 6 = true := ti
  obtain ⟨k0, k1, k2, ⟨n, hn, en⟩, hv⟩ := hJ t (by omega)
  rcases k2 with e | ⟨k, hk, e⟩
  · exact ⟨-11, A, B, fun d Q => by rw [T162, mm_bf t0, mm_bt t2', mm_ck ti', tc, k0, e, mm_bt (by decide)], fun d Q => by rw [T274, mm_bf t0, mm_bf t1', mm_ck mm_zb1, mm_ck ti', tc, e, mm_bt (by decide)], .inl ⟨rfl, rfl⟩⟩
  have e1 : ¬ nI k = (-1 : Int32) := fun h => nI_pos (show k < 2 ^ 31 by omega) (by rw [h]; decide)
  have e2 : ¬ nI k < 0 := nI_pos (by omega)
  by_cases e3 : nI k = (3 : Int32)
  · rcases mm_sv x1 n (by omega) with h | ⟨h0, h1, h2⟩ | ⟨i, hi, rfl, v0, v1, v2⟩
    · exact ⟨-13, A, B, fun d Q => by rw [T162, mm_bf t0, mm_bt t2', mm_ck ti', tc, k0, e, mm_bf e1, mm_bt e3, mm_bt h], fun d Q => by rw [T274, mm_bf t0, mm_bf t1', mm_ck mm_zb1, mm_ck ti', tc, e, mm_bf e2, mm_ck ti', mm_bt e3, mm_ck ti', mm_bt h], .inl ⟨rfl, rfl⟩⟩
    · exact ⟨-13, A, B, fun d Q => by rw [T162, mm_bf t0, mm_bt t2', mm_ck ti', tc, k0, e, mm_bf e1, mm_bt e3, mm_bf h0, k1, en, mm_bf h1], fun d Q => by rw [T274, mm_bf t0, mm_bf t1', mm_ck mm_zb1, mm_ck ti', tc, e, mm_bf e2, mm_ck ti', mm_bt e3, mm_ck ti', mm_bf h0, en, mm_bt h2], .inl ⟨rfl, rfl⟩⟩
    have i60 : nI i < (60 : Int32) := nI_lt (show i < 60 by omega) (by decide)
    have ii : sm_in (nI i) 60 = true := mm_in (by omega) (by decide)
    have ic : (nI i).toNatClampNeg = i := nI_clamp (by omega)
    have q : (60 : Int32) * nI t + nI i = nI (60 * t + i) := by show nI 60 * nI t + nI i = _; rw [pk_mul, nI_add]
    have qi : sm_in (nI (60 * t + i)) 360 = true := mm_in (by omega) (by decide)
    have qc : (nI (60 * t + i)).toNatClampNeg = 60 * t + i := nI_clamp (by omega)
    refine ⟨1, _, _, fun d Q => by rw [T162, mm_bf t0, mm_bt t2', mm_ck ti', tc, k0, e, mm_bf e1, mm_bt e3, mm_bf v0, k1, en, mm_bt v1, mm_bt i60, mm_ck ii, ic], fun d Q => by rw [T274, mm_bf t0, mm_bf t1', mm_ck mm_zb1, mm_ck ti', tc, e, mm_bf e2, mm_ck ti', mm_bt e3, mm_ck ti', mm_bf v0, en, mm_bf v2, q, mm_ck qi, qc]; rfl, .inr ⟨t, i, rfl, rfl, fun u hu => ?_⟩⟩
    obtain ⟨g0, g1, g2, g3, g4⟩ := hJ u hu
    refine ⟨g0, g1, g2, g3, fun j hj => ?_⟩
    by_cases hut : u = t ∧ j = i
    · obtain ⟨rfl, rfl⟩ := hut
      exact .inr ⟨by simp [sm_u], by simp [sm_u]⟩
    · have ea : sm_u A 49 t i 999999999 49 u j = A 49 u j := mm_un hut
      have eb : sm_u B 99 0 (60 * t + i) 1 99 0 (60 * u + j) = B 99 0 (60 * u + j) := mm_un (by omega)
      rw [ea, eb]
      exact g4 j hj
  · exact ⟨-12, A, B, fun d Q => by rw [T162, mm_bf t0, mm_bt t2', mm_ck ti', tc, k0, e, mm_bf e1, mm_bf e3], fun d Q => by rw [T274, mm_bf t0, mm_bf t1', mm_ck mm_zb1, mm_ck ti', tc, e, mm_bf e2, mm_ck ti', mm_bf e3], .inl ⟨rfl, rfl⟩⟩
