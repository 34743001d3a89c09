/-! ranges by literals -/
theorem mm_r5 (x : Int32) : x < 0 ∨ (¬ x < 0 ∧ (5 : Int32) < x ∧ ¬ x < (6 : Int32)) ∨ ∃ j : Nat, j ≤ 5 ∧ x = nI j ∧ ¬ nI j < 0 ∧ ¬ (5 : Int32) < nI j ∧ nI j < (6 : Int32) ∧ (nI j).toNatClampNeg = j ∧ sm_in (nI j) 6 = true := mm_rg x 5 (by decide)
theorem mm_r47 (x : Int32) : x < 0 ∨ (¬ x < 0 ∧ (47 : Int32) < x ∧ ¬ x < (48 : Int32)) ∨ ∃ j : Nat, j ≤ 47 ∧ x = nI j ∧ ¬ nI j < 0 ∧ ¬ (47 : Int32) < nI j ∧ nI j < (48 : Int32) ∧ (nI j).toNatClampNeg = j ∧ sm_in (nI j) 48 = true := mm_rg x 47 (by decide)
theorem mm_r9999 (x : Int32) : x < 0 ∨ (¬ x < 0 ∧ (9999 : Int32) < x ∧ ¬ x < (10000 : Int32)) ∨ ∃ j : Nat, j ≤ 9999 ∧ x = nI j ∧ ¬ nI j < 0 ∧ ¬ (9999 : Int32) < nI j ∧ nI j < (10000 : Int32) ∧ (nI j).toNatClampNeg = j ∧ sm_in (nI j) 10000 = true := mm_rg x 9999 (by decide)
/-! shift, the call -/
theorem p163 {A B : sm_M} (hJ : J_tap A B) (x0 x1 x2 x3 x4 : Int32) (nL : Nat) : ∃ r A' B', (∀ d Q, sm_W (d + 1) 163 0 [vo 10, vi x0, vi x1, vi x2, vi x3, vi x4, none, none] [] (sm_G0 nL) A Q = Q (vi r) (sm_G0 nL) A') ∧ (∀ d Q, sm_W (d + 2) 275 0 [vo 11, vi x0, vi x1, vi x2, vi x3, vi x4, none] [] (sm_G0 nL) B Q = Q (vi r) (sm_G0 nL) B') ∧ ((A' = A ∧ B' = B) ∨ ∃ t t2 a b c, A' = sm_cp A 49 t a 49 t2 b c ∧ B' = shB B (60 * t + a) (60 * t2 + b) c ∧ t < 6 ∧ t2 < 6 ∧ a + c ≤ 60 ∧ b + c ≤ 60 ∧ B 96 0 t = B 96 0 t2 ∧ J_tap A' B') := by
  rcases mm_r5 x0 with h | ⟨h0, h1, h2⟩ | ⟨t, ht, rfl, t0, t1, t2, tc, ti⟩
  · rcases mm_r5 x2 with g | ⟨g0, g1, g2⟩ | ⟨u, hu, rfl, u0, u1, u2, uc, ui⟩
    · exact ⟨-1, A, B, fun d Q => by simp only [T163, h, g, ↓sm_Br_d, ↓reduceIte, sm_Ck_t, mm_zb0, mm_zb1], fun d Q => by simp only [T275, h, g, ↓sm_Br_d, ↓reduceIte, sm_Ck_t, mm_zb0, mm_zb1], .inl ⟨rfl, rfl⟩⟩
    · exact ⟨-1, A, B, fun d Q => by simp only [T163, h, g0, g1, g2, ↓sm_Br_d, ↓reduceIte, sm_Ck_t, mm_zb0, mm_zb1], fun d Q => by simp only [T275, h, g0, g1, g2, ↓sm_Br_d, ↓reduceIte, sm_Ck_t, mm_zb0, mm_zb1], .inl ⟨rfl, rfl⟩⟩
    · exact ⟨-1, A, B, fun d Q => by simp only [T163, h, u0, u1, u2, ui, ↓sm_Br_d, ↓reduceIte, sm_Ck_t, mm_zb0, mm_zb1], fun d Q => by simp only [T275, h, u0, u1, u2, ui, ↓sm_Br_d, ↓reduceIte, sm_Ck_t, mm_zb0, mm_zb1], .inl ⟨rfl, rfl⟩⟩
  · rcases mm_r5 x2 with g | ⟨g0, g1, g2⟩ | ⟨u, hu, rfl, u0, u1, u2, uc, ui⟩
    · exact ⟨-1, A, B, fun d Q => by simp only [T163, h0, h1, h2, g, ↓sm_Br_d, ↓reduceIte, sm_Ck_t, mm_zb0, mm_zb1], fun d Q => by simp only [T275, h0, h1, h2, g, ↓sm_Br_d, ↓reduceIte, sm_Ck_t, mm_zb0, mm_zb1], .inl ⟨rfl, rfl⟩⟩
    · exact ⟨-1, A, B, fun d Q => by simp only [T163, h0, h1, h2, g0, g1, g2, ↓sm_Br_d, ↓reduceIte, sm_Ck_t, mm_zb0, mm_zb1], fun d Q => by simp only [T275, h0, h1, h2, g0, g1, g2, ↓sm_Br_d, ↓reduceIte, sm_Ck_t, mm_zb0, mm_zb1], .inl ⟨rfl, rfl⟩⟩
    · exact ⟨-1, A, B, fun d Q => by simp only [T163, h0, h1, h2, u0, u1, u2, ui, ↓sm_Br_d, ↓reduceIte, sm_Ck_t, mm_zb0, mm_zb1], fun d Q => by simp only [T275, h0, h1, h2, u0, u1, u2, ui, ↓sm_Br_d, ↓reduceIte, sm_Ck_t, mm_zb0, mm_zb1], .inl ⟨rfl, rfl⟩⟩
  rcases mm_r5 x2 with g | ⟨g0, g1, g2⟩ | ⟨u, hu, rfl, u0, u1, u2, uc, ui⟩
  · exact ⟨-1, A, B, fun d Q => by simp only [T163, t0, t1, t2, ti, g, ↓sm_Br_d, ↓reduceIte, sm_Ck_t, mm_zb0, mm_zb1], fun d Q => by simp only [T275, t0, t1, t2, ti, g, ↓sm_Br_d, ↓reduceIte, sm_Ck_t, mm_zb0, mm_zb1], .inl ⟨rfl, rfl⟩⟩
  · exact ⟨-1, A, B, fun d Q => by simp only [T163, t0, t1, t2, ti, g0, g1, g2, ↓sm_Br_d, ↓reduceIte, sm_Ck_t, mm_zb0, mm_zb1], fun d Q => by simp only [T275, t0, t1, t2, ti, g0, g1, g2, ↓sm_Br_d, ↓reduceIte, sm_Ck_t, mm_zb0, mm_zb1], .inl ⟨rfl, rfl⟩⟩
  obtain ⟨k0, k1, k2, ⟨n, hn, en⟩, hv⟩ := hJ t (by omega)
  obtain ⟨l0, l1, l2, ⟨m, hm, em⟩, hw⟩ := hJ u (by omega)
  have m1 : ((-1 : Int32) < 0) := by decide
  rcases k2 with e | ⟨k, hk, e⟩
  · exact ⟨-11, A, B, fun d Q => by simp only [T163, t0, t1, t2, ti, tc, u0, u1, u2, ui, uc, k0, e, m1, ↓sm_Br_d, ↓reduceIte, sm_Ck_t, mm_zb0, mm_zb1], fun d Q => by simp only [T275, t0, t1, t2, ti, tc, u0, u1, u2, ui, uc, k0, e, m1, ↓sm_Br_d, ↓reduceIte, sm_Ck_t, mm_zb0, mm_zb1], .inl ⟨rfl, rfl⟩⟩
  have e1 : ¬ nI k = (-1 : Int32) := fun h => nI_pos (show k < 2 ^ 31 by omega) (by rw [h]; decide)
  have e2 : ¬ nI k < 0 := nI_pos (by omega)
  rcases l2 with f | ⟨l, hl, f⟩
  · exact ⟨-11, A, B, fun d Q => by simp only [T163, t0, t1, t2, ti, tc, u0, u1, u2, ui, uc, k0, e, e1, e2, l0, f, m1, ↓sm_Br_d, ↓reduceIte, sm_Ck_t, mm_zb0, mm_zb1], fun d Q => by simp only [T275, t0, t1, t2, ti, tc, u0, u1, u2, ui, uc, k0, e, e1, e2, l0, f, m1, ↓sm_Br_d, ↓reduceIte, sm_Ck_t, mm_zb0, mm_zb1], .inl ⟨rfl, rfl⟩⟩
  have f1 : ¬ nI l = (-1 : Int32) := fun h => nI_pos (show l < 2 ^ 31 by omega) (by rw [h]; decide)
  have f2 : ¬ nI l < 0 := nI_pos (by omega)
  by_cases hkl : nI k = nI l
  rotate_left
  · exact ⟨-12, A, B, fun d Q => by simp only [T163, t0, t1, t2, ti, tc, u0, u1, u2, ui, uc, k0, e, e1, e2, l0, f, f1, f2, hkl, ↓sm_Br_d, ↓reduceIte, sm_Ck_t, mm_zb0, mm_zb1], fun d Q => by simp only [T275, t0, t1, t2, ti, tc, u0, u1, u2, ui, uc, k0, e, e1, e2, l0, f, f1, f2, hkl, ↓sm_Br_d, ↓reduceIte, sm_Ck_t, mm_zb0, mm_zb1], .inl ⟨rfl, rfl⟩⟩
  have hs : B 96 0 t = B 96 0 u := by rw [e, f, hkl]
  rw [← hkl] at f
  by_cases c0 : x4 < 0
  · exact ⟨-13, A, B, fun d Q => by simp only [T163, t0, t1, t2, ti, tc, u0, u1, u2, ui, uc, k0, e, e1, e2, l0, f, c0, ↓sm_Br_d, ↓reduceIte, sm_Ck_t, mm_zb0, mm_zb1], fun d Q => by simp only [T275, t0, t1, t2, ti, tc, u0, u1, u2, ui, uc, k0, e, e1, e2, l0, f, c0, ↓sm_Br_d, ↓reduceIte, sm_Ck_t, mm_zb0, mm_zb1], .inl ⟨rfl, rfl⟩⟩
  by_cases a0 : x1 < 0
  · exact ⟨-13, A, B, fun d Q => by simp only [T163, t0, t1, t2, ti, tc, u0, u1, u2, ui, uc, k0, e, e1, e2, l0, f, c0, a0, ↓sm_Br_d, ↓reduceIte, sm_Ck_t, mm_zb0, mm_zb1], fun d Q => by simp only [T275, t0, t1, t2, ti, tc, u0, u1, u2, ui, uc, k0, e, e1, e2, l0, f, c0, a0, ↓sm_Br_d, ↓reduceIte, sm_Ck_t, mm_zb0, mm_zb1], .inl ⟨rfl, rfl⟩⟩
  by_cases b0 : x3 < 0
  · exact ⟨-13, A, B, fun d Q => by simp only [T163, t0, t1, t2, ti, tc, u0, u1, u2, ui, uc, k0, e, e1, e2, l0, f, c0, a0, b0, ↓sm_Br_d, ↓reduceIte, sm_Ck_t, mm_zb0, mm_zb1], fun d Q => by simp only [T275, t0, t1, t2, ti, tc, u0, u1, u2, ui, uc, k0, e, e1, e2, l0, f, c0, a0, b0, ↓sm_Br_d, ↓reduceIte, sm_Ck_t, mm_zb0, mm_zb1], .inl ⟨rfl, rfl⟩⟩
  by_cases a1 : nI n - x4 < x1
  · exact ⟨-13, A, B, fun d Q => by simp only [T163, t0, t1, t2, ti, tc, u0, u1, u2, ui, uc, k0, e, e1, e2, l0, f, c0, a0, b0, k1, en, a1, ↓sm_Br_d, ↓reduceIte, sm_Ck_t, mm_zb0, mm_zb1], fun d Q => by simp only [T275, t0, t1, t2, ti, tc, u0, u1, u2, ui, uc, k0, e, e1, e2, l0, f, c0, a0, b0, k1, en, a1, ↓sm_Br_d, ↓reduceIte, sm_Ck_t, mm_zb0, mm_zb1], .inl ⟨rfl, rfl⟩⟩
  by_cases b1 : nI m - x4 < x3
  · exact ⟨-13, A, B, fun d Q => by simp only [T163, t0, t1, t2, ti, tc, u0, u1, u2, ui, uc, k0, e, e1, e2, l0, f, c0, a0, b0, k1, en, a1, l1, em, b1, ↓sm_Br_d, ↓reduceIte, sm_Ck_t, mm_zb0, mm_zb1], fun d Q => by simp only [T275, t0, t1, t2, ti, tc, u0, u1, u2, ui, uc, k0, e, e1, e2, l0, f, c0, a0, b0, k1, en, a1, l1, em, b1, ↓sm_Br_d, ↓reduceIte, sm_Ck_t, mm_zb0, mm_zb1], .inl ⟨rfl, rfl⟩⟩
  obtain ⟨c, hc, rfl⟩ := nI_of c0
  obtain ⟨a, ha, rfl⟩ := nI_of a0
  obtain ⟨b, hb, rfl⟩ := nI_of b0
  have hac := mm_fit hn hc ha a1
  have hbc := mm_fit hm hc hb b1
  have q1 : Nat.ble (a + c) 60 = true := Nat.ble_eq_true_of_le (show a + c ≤ 60 by omega)
  have q2 : Nat.ble (b + c) 60 = true := Nat.ble_eq_true_of_le (show b + c ≤ 60 by omega)
  refine ⟨nI c, sm_cp A 49 t a 49 u b c, shB B (60 * t + a) (60 * u + b) c, fun d Q => ?_, fun d Q => ?_, .inr ⟨t, u, a, b, c, rfl, rfl, by omega, by omega, by omega, by omega, hs, J_tap_s hJ (by omega) (by omega) (by omega) (by omega)⟩⟩
  · simp only [T163, t0, t1, t2, ti, u0, u1, u2, ui, tc, uc, k0, l0, k1, l1, en, em, e, f, e1, c0, a0, b0, a1, b1, nI_clamp hc, nI_clamp ha, nI_clamp hb, q1, q2, decide_false, Bool.not_false, Bool.and_self, sm_Ck_t, ↓sm_Br_d, ↓reduceIte]
  · simp only [T275, t0, t1, t2, ti, u0, u1, u2, ui, tc, uc, en, em, e, f, e2, c0, a0, b0, a1, b1, ↓sm_Br_d, ↓reduceIte, sm_Ck_t, mm_zb0, mm_zb1]
    have hB : ∀ k, k < c → B 99 0 (60 * t + a + k) = 0 ∨ B 99 0 (60 * t + a + k) = 1 := fun k hk => by
      have := hv (a + k) (by omega)
      rw [← Nat.add_assoc] at this
      rcases this with ⟨h, -⟩ | ⟨h, -⟩
      · exact .inl h
      · exact .inr h
    have h1 := r275a d nL u b B (show t < 6 by omega) hn hac hB Q c 0 (by omega)
    rw [s1_0] at h1
    refine h1.trans ?_
    have hC : ∀ k, k < c → s1 B (60 * t + a) c 101 0 k = 0 ∨ s1 B (60 * t + a) c 101 0 k = 1 := fun k hk => by
      have e : s1 B (60 * t + a) c 101 0 k = B 99 0 (60 * t + a + k) := (if_neg (fun h => absurd h.1 (by decide))).trans (if_pos ⟨rfl, rfl, hk⟩)
      rw [e]; exact hB k hk
    have h2 := r275b d nL (vi (nI t)) (vi (nI a)) (s1 B (60 * t + a) c) (show u < 6 by omega) hm hbc hC Q c 0 (by omega)
    rw [s2_0] at h2
    exact h2
