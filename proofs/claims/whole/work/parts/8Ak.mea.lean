/-! water, the call -/
theorem p78 {A B : sm_M} (hS : J_srv A B) (hG : J_thg A B) (hR : J_rul A B) (x0 x1 x2 : Int32) (nL : Nat) : ∃ r A' B', (∀ d Q, sm_W (d + 5) 78 0 [vo 10, vi x0, vi x1, vi x2] [] (sm_G0 nL) A Q = Q (vi r) (sm_G0 nL) A') ∧ (∀ d Q, sm_W (d + 5) 214 0 [vo 11, vi x0, vi x1, vi x2] [] (sm_G0 nL) B Q = Q (vi r) (sm_G0 nL) B') ∧ Fr scA A A' ∧ Fr scB B B' := by
  obtain ⟨t, s, hV⟩ := VW_of hS hG
  obtain ⟨n, hn, ea, eb, hKr, h0⟩ := hR
  have er : ∀ r : Int32, (∀ d Q, sm_W (d + 5) 78 0 [vo 10, vi x0, vi x1, vi x2] [] (sm_G0 nL) A Q = Q (vi r) (sm_G0 nL) A) → (∀ d Q, sm_W (d + 5) 214 0 [vo 11, vi x0, vi x1, vi x2] [] (sm_G0 nL) B Q = Q (vi r) (sm_G0 nL) B) → ∃ r A' B', (∀ d Q, sm_W (d + 5) 78 0 [vo 10, vi x0, vi x1, vi x2] [] (sm_G0 nL) A Q = Q (vi r) (sm_G0 nL) A') ∧ (∀ d Q, sm_W (d + 5) 214 0 [vo 11, vi x0, vi x1, vi x2] [] (sm_G0 nL) B Q = Q (vi r) (sm_G0 nL) B') ∧ Fr scA A A' ∧ Fr scB B B' := fun r h1 h2 => ⟨r, A, B, h1, h2, Fr_r _ _, Fr_r _ _⟩
  rcases mm_r47 x0 with h | ⟨g0, g1, g2⟩ | ⟨c, hc, rfl, c0, c1, c2, c3, c4⟩
  · exact er (-1000000) (fun d Q => by simp only [T78, h, ↓sm_Br_d, ↓reduceIte, sm_Ck_t, mm_zb0, mm_zb1]) (fun d Q => by simp only [T214, h, ↓sm_Br_d, ↓reduceIte, sm_Ck_t, mm_zb0, mm_zb1])
  · exact er (-1000000) (fun d Q => by simp only [T78, g0, g1, g2, ↓sm_Br_d, ↓reduceIte, sm_Ck_t, mm_zb0, mm_zb1]) (fun d Q => by simp only [T214, g0, g1, g2, ↓sm_Br_d, ↓reduceIte, sm_Ck_t, mm_zb0, mm_zb1])
  by_cases a0 : x1 < 0
  · exact er (-1000000) (fun d Q => by simp only [T78, c0, c1, c2, a0, ↓sm_Br_d, ↓reduceIte, sm_Ck_t, mm_zb0, mm_zb1]) (fun d Q => by simp only [T214, c0, c1, c2, a0, ↓sm_Br_d, ↓reduceIte, sm_Ck_t, mm_zb0, mm_zb1])
  by_cases a1 : 9999 < x1
  · exact er (-1000000) (fun d Q => by simp only [T78, c0, c1, c2, a0, a1, ↓sm_Br_d, ↓reduceIte, sm_Ck_t, mm_zb0, mm_zb1]) (fun d Q => by simp only [T214, c0, c1, c2, a0, a1, ↓sm_Br_d, ↓reduceIte, sm_Ck_t, mm_zb0, mm_zb1])
  by_cases b0 : x2 < 0
  · exact er (-1000000) (fun d Q => by simp only [T78, c0, c1, c2, a0, a1, b0, ↓sm_Br_d, ↓reduceIte, sm_Ck_t, mm_zb0, mm_zb1]) (fun d Q => by simp only [T214, c0, c1, c2, a0, a1, b0, ↓sm_Br_d, ↓reduceIte, sm_Ck_t, mm_zb0, mm_zb1])
  by_cases b1 : 4 < x2
  · exact er (-1000000) (fun d Q => by simp only [T78, c0, c1, c2, a0, a1, b0, b1, ↓sm_Br_d, ↓reduceIte, sm_Ck_t, mm_zb0, mm_zb1]) (fun d Q => by simp only [T214, c0, c1, c2, a0, a1, b0, b1, ↓sm_Br_d, ↓reduceIte, sm_Ck_t, mm_zb0, mm_zb1])
  obtain ⟨f, i, hw, hRO⟩ := RO_of hKr h0 x1
  by_cases b4 : x2 = 4
  · obtain ⟨A2, m1, m2⟩ := m79 nL (nI c) x1 hV hRO
    obtain ⟨B2, r1, r2⟩ := r215 nL (nI c) x1 hV hn eb (Fr_r scB B)
    refine ⟨LW B (wrule B x1 n) (nI c) x1 t s, A2, B2, fun d Q => ?_, fun d Q => ?_, m2, r2⟩
    · simp only [T78, c0, c1, c2, a0, a1, b0, b1, eq_true b4, ↓sm_Br_d, ↓reduceIte, sm_Ck_t, mm_zb0, mm_zb1]
      rw [m48e (d + 4) nL x1 none none hn ea hKr, hw, sm_push_s, T78_45, m1, sm_push_s, T78_48]
    · simp only [T214, c0, c1, c2, a0, a1, b0, b1, eq_true b4, ↓sm_Br_d, ↓reduceIte, sm_Ck_t, mm_zb0, mm_zb1]
      rw [r1, sm_push_s, T214_37]
  · obtain ⟨A2, m1, m2, m3⟩ := m80 nL (nI c) x1 hV hRO
    obtain ⟨B2, r1, r2, r3⟩ := r216 nL (nI c) x1 hV hn eb (Fr_r scB B)
    have kA : ∀ d Q, sm_W (d + 5) 78 0 [vo 10, vi (nI c), vi x1, vi x2] [] (sm_G0 nL) A Q = sm_W (d + 5) 78 66 [vo 10, vi (nI c), vi x1, vi x2] [Sum.inl (mb (WW B (wrule B x1 n) (nI c) x1 t s).isSome)] (sm_G0 nL) A2 Q := fun d Q => by
      simp only [T78, c0, c1, c2, a0, a1, b0, b1, b4, ↓sm_Br_d, ↓reduceIte, sm_Ck_t, mm_zb0, mm_zb1]
      rw [m48e (d + 4) nL x1 none none hn ea hKr, hw, sm_push_s, T78_63, m1 (d + 1), sm_push_s]
    have kB : ∀ d Q, sm_W (d + 5) 214 0 [vo 11, vi (nI c), vi x1, vi x2] [] (sm_G0 nL) B Q = sm_W (d + 5) 214 44 [vo 11, vi (nI c), vi x1, vi x2] [Sum.inl (mb (WW B (wrule B x1 n) (nI c) x1 t s).isSome)] (sm_G0 nL) B2 Q := fun d Q => by
      simp only [T214, c0, c1, c2, a0, a1, b0, b1, b4, ↓sm_Br_d, ↓reduceIte, sm_Ck_t, mm_zb0, mm_zb1]
      rw [r1 (d + 1), sm_push_s]
    cases hW : WW B (wrule B x1 n) (nI c) x1 t s with
    | none =>
      rw [hW] at kA kB
      exact ⟨-1000000, A2, B2, fun d Q => by rw [kA, T78_66, mm_bt (by decide)], fun d Q => by rw [kB, T214_44, mm_bt (by decide)], m2, r2⟩
    | some v =>
      obtain ⟨bt, w, q⟩ := v
      have hp := WW_p hW
      rw [hW] at kA kB m3 r3
      obtain ⟨e7, e8, e9⟩ := m3
      obtain ⟨f5, f6, f7⟩ := r3
      have ht := hV.1
      have mbn : ¬ mb (some (bt, w, q)).isSome = 0 := (by decide : ¬ mb true = 0)
      have hV2 := VW_sc hV m2
      have e62 : B2 62 0 w = B 62 0 w := r2 62 0 w rfl
      have wi : sm_in (nI w) 90 = true := mm_in (by omega) (by decide)
      have wc : (nI w).toNatClampNeg = w := nI_clamp (by omega)
      refine ⟨if x2 = 0 then B 62 0 w else if x2 = 1 then nI w else if x2 = 2 then nI q else nI bt, A2, B2, fun d Q => ?_, fun d Q => ?_, m2, r2⟩
      · rw [kA, T78_66, mm_bf mbn, e7, e8, e9]
        have h0 : sm_W (d + 4) 86 0 [vo 14, vi (nI w), none] [] (sm_G0 nL) A2 (fun r G1 M1 => sm_W (d + 5) 78 114 [vo 10, vi (nI c), vi x1, vi x2] (sm_push r []) G1 M1 Q) = Q (vi (B 62 0 w)) (sm_G0 nL) A2 := by
          rw [m86 (d + 3) nL hV2 hp.2.1, sm_push_s, T78_114]
        rw [h0]; simp only [mm_q Q]
      · rw [kB, T214_44, mm_bf mbn, f5, f6, f7, mm_ck wi, wc, e62]; simp only [mm_q Q]
