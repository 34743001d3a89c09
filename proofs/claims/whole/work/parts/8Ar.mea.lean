/-! shown, judge -/
def J_num (B : sm_M) : Prop := ∃ n, n ≤ 10 ∧ B 11 0 27 = nI n ∧ ∀ k, k < 4 * n → ∃ v, v ≤ 999 ∧ B 71 0 k = nI v
theorem J_num_c {B : sm_M} {n : Nat} (hJ : J_num B) (hn : n ≤ 10) (eb : B 11 0 27 = nI n) (x : Int32) {j : Nat} (hj : j < 4) : ∃ v, v ≤ 999 ∧ wcl B (wrule B x n) j = nI v := by
  obtain ⟨n', hn', eb', h⟩ := hJ
  have e : n' = n := (nI_eq (by omega) (by omega)).mp (eb'.symm.trans eb)
  subst e
  cases hw : wrule B x n' with
  | none =>
    unfold wcl
    by_cases h3 : j % 3 = 0
    · exact ⟨999, Nat.le_refl _, by simp only [h3, ↓reduceIte]; rfl⟩
    · exact ⟨0, by omega, by simp only [h3, ↓reduceIte]; rfl⟩
  | some k =>
    have := wrule_lt hw
    exact h (4 * k + j) (by omega)
theorem K_sht_SA {A B : sm_M} {k : Nat} (h : K_sht A B k) : ∃ c r q z, K_sh0 B k c r q z ∧ SA A k c r q z ∧ SZ c r q z := by
  obtain ⟨a0, a1, a2, a3, c, r, q, z, hK⟩ := h
  exact ⟨c, r, q, z, hK, ⟨a0.trans hK.1, a1.trans hK.2.1, a2.trans hK.2.2.1, a3.trans hK.2.2.2.1⟩, K_sh0_Z hK⟩
theorem p93 {A B : sm_M} (hS : J_srv A B) (hG : J_thg A B) (hR : J_rul A B) (hN : J_num B) (hH : J_sht A B) (x0 x1 : Int32) (nL : Nat) : ∃ r A' B', (∀ d Q, sm_W (d + 6) 93 0 [vo 10, vi x0, vi x1, none] [] (sm_G0 nL) A Q = Q (vi r) (sm_G0 nL) A') ∧ (∀ d Q, sm_W (d + 7) 219 0 [vo 11, vi x0, vi x1] [] (sm_G0 nL) B Q = Q (vi r) (sm_G0 nL) B') ∧ Fr sA2 A A' ∧ Fr sB2 B B' := by
  obtain ⟨t, s, hV⟩ := VW_of hS hG
  obtain ⟨n, hn, ea, eb, hKr, h0⟩ := hR
  obtain ⟨S, hS16, sa, sb, hK⟩ := hH
  have er : ∀ r : Int32, (∀ d Q, sm_W (d + 6) 93 0 [vo 10, vi x0, vi x1, none] [] (sm_G0 nL) A Q = Q (vi r) (sm_G0 nL) A) → (∀ d Q, sm_W (d + 7) 219 0 [vo 11, vi x0, vi x1] [] (sm_G0 nL) B Q = Q (vi r) (sm_G0 nL) B) → ∃ r A' B', (∀ d Q, sm_W (d + 6) 93 0 [vo 10, vi x0, vi x1, none] [] (sm_G0 nL) A Q = Q (vi r) (sm_G0 nL) A') ∧ (∀ d Q, sm_W (d + 7) 219 0 [vo 11, vi x0, vi x1] [] (sm_G0 nL) B Q = Q (vi r) (sm_G0 nL) B') ∧ Fr sA2 A A' ∧ Fr sB2 B B' := fun r h1 h2 => ⟨r, A, B, h1, h2, Fr_r _ _, Fr_r _ _⟩
  rcases mm_sv x0 S (by omega) with h | ⟨g0, g1, g2⟩ | ⟨k, hk, rfl, k0, k1, k2⟩
  · exact er (-5) (fun d Q => by simp only [T93, h, ↓sm_Br_d, ↓reduceIte, sm_Ck_t, mm_zb0, mm_zb1]) (fun d Q => by simp only [T219, h, ↓sm_Br_d, ↓reduceIte, sm_Ck_t, mm_zb0, mm_zb1])
  · exact er (-5) (fun d Q => by simp only [T93, g0, sa, g1, ↓sm_Br_d, ↓reduceIte, sm_Ck_t, mm_zb0, mm_zb1]) (fun d Q => by simp only [T219, g0, sb, g2, ↓sm_Br_d, ↓reduceIte, sm_Ck_t, mm_zb0, mm_zb1])
  have k16 : nI k < (16 : Int32) := nI_lt (show k < 16 by omega) (by decide)
  have ki : sm_in (nI k) 16 = true := mm_in (by omega) (by decide)
  have kc : (nI k).toNatClampNeg = k := nI_clamp (by omega)
  by_cases a0 : x1 < 0
  · exact er (-5) (fun d Q => by simp only [T93, k0, sa, k1, k16, ki, a0, ↓sm_Br_d, ↓reduceIte, sm_Ck_t, mm_zb0, mm_zb1]) (fun d Q => by simp only [T219, k0, sb, k2, a0, ↓sm_Br_d, ↓reduceIte, sm_Ck_t, mm_zb0, mm_zb1])
  by_cases a1 : 9999 < x1
  · exact er (-5) (fun d Q => by simp only [T93, k0, sa, k1, k16, ki, a0, a1, ↓sm_Br_d, ↓reduceIte, sm_Ck_t, mm_zb0, mm_zb1]) (fun d Q => by simp only [T219, k0, sb, k2, a0, a1, ↓sm_Br_d, ↓reduceIte, sm_Ck_t, mm_zb0, mm_zb1])
  obtain ⟨c, r, q, z, hK0, hSA, hZ⟩ := K_sht_SA (hK k hk)
  obtain ⟨f, i, hw, hRO⟩ := RO_of hKr h0 x1
  obtain ⟨nn, hnn, eN⟩ := J_num_c hN hn eb x1 (show 1 < 4 by decide)
  obtain ⟨A2, m1, m2, m3⟩ := m95 nL x1 hV hRO hSA hZ
  obtain ⟨B2, r1, r2, r3⟩ := r221 nL x1 hV hn eb (show k < 16 by omega) hK0 hnn eN (Fr_r sB2 B)
  rw [eN] at m3
  refine ⟨nI (wfw (fun u => LW B (wrule B x1 n) (nI (wce c q u)) x1 t s) c q z (r * q) (nI nn)), A2, B2, fun d Q => ?_, fun d Q => ?_, m2, r2⟩
  rotate_left
  · simp only [T219, k0, sb, k2, a0, a1, ↓sm_Br_d, ↓reduceIte, sm_Ck_t, mm_zb0, mm_zb1]
    rw [r1, sm_push_s, T219_21]
  · simp only [T93, k0, sa, k1, k16, ki, a0, a1, kc, ↓sm_Br_d, ↓reduceIte, sm_Ck_t, mm_zb0, mm_zb1]
    rw [m48e (d + 5) nL x1 none none hn ea hKr, hw, sm_push_s, T93_34, m1, sm_push_n, T93_37, m99 nL (nI nn) (SA_s2 hSA m2) hZ _ m3, sm_push_s, T93_41]
theorem p102 {A B : sm_M} (hD : J_day A B) (hS : J_srv A B) (hG : J_thg A B) (hR : J_rul A B) (hN : J_num B) (hH : J_sht A B) (x0 x1 : Int32) (nL : Nat) : ∃ r A' B', (∀ d Q, sm_W (d + 6) 102 0 [vo 10, vi x0, vi x1, none] [] (sm_G0 nL) A Q = Q (vi r) (sm_G0 nL) A') ∧ (∀ d Q, sm_W (d + 6) 227 0 [vo 11, vi x0, vi x1] [] (sm_G0 nL) B Q = Q (vi r) (sm_G0 nL) B') ∧ Fr sA2 A A' ∧ Fr sB2 B B' := by
  obtain ⟨dA, y, hy, dB⟩ := hD
  obtain ⟨t, s, hV⟩ := VW_of hS hG
  obtain ⟨n, hn, ea, eb, hKr, h0⟩ := hR
  obtain ⟨S, hS16, sa, sb, hK⟩ := hH
  have er : ∀ r : Int32, (∀ d Q, sm_W (d + 6) 102 0 [vo 10, vi x0, vi x1, none] [] (sm_G0 nL) A Q = Q (vi r) (sm_G0 nL) A) → (∀ d Q, sm_W (d + 6) 227 0 [vo 11, vi x0, vi x1] [] (sm_G0 nL) B Q = Q (vi r) (sm_G0 nL) B) → ∃ r A' B', (∀ d Q, sm_W (d + 6) 102 0 [vo 10, vi x0, vi x1, none] [] (sm_G0 nL) A Q = Q (vi r) (sm_G0 nL) A') ∧ (∀ d Q, sm_W (d + 6) 227 0 [vo 11, vi x0, vi x1] [] (sm_G0 nL) B Q = Q (vi r) (sm_G0 nL) B') ∧ Fr sA2 A A' ∧ Fr sB2 B B' := fun r h1 h2 => ⟨r, A, B, h1, h2, Fr_r _ _, Fr_r _ _⟩
  rcases mm_sv x0 S (by omega) with h | ⟨g0, g1, g2⟩ | ⟨k, hk, rfl, k0, k1, k2⟩
  · exact er (-5) (fun d Q => by simp only [T102, h, ↓sm_Br_d, ↓reduceIte, sm_Ck_t, mm_zb0, mm_zb1]) (fun d Q => by simp only [T227, h, ↓sm_Br_d, ↓reduceIte, sm_Ck_t, mm_zb0, mm_zb1])
  · exact er (-5) (fun d Q => by simp only [T102, g0, sa, g1, ↓sm_Br_d, ↓reduceIte, sm_Ck_t, mm_zb0, mm_zb1]) (fun d Q => by simp only [T227, g0, sb, g2, ↓sm_Br_d, ↓reduceIte, sm_Ck_t, mm_zb0, mm_zb1])
  have k16 : nI k < (16 : Int32) := nI_lt (show k < 16 by omega) (by decide)
  have ki : sm_in (nI k) 16 = true := mm_in (by omega) (by decide)
  have kc : (nI k).toNatClampNeg = k := nI_clamp (by omega)
  by_cases a0 : x1 < 0
  · exact er (-5) (fun d Q => by simp only [T102, k0, sa, k1, k16, ki, a0, ↓sm_Br_d, ↓reduceIte, sm_Ck_t, mm_zb0, mm_zb1]) (fun d Q => by simp only [T227, k0, sb, k2, a0, ↓sm_Br_d, ↓reduceIte, sm_Ck_t, mm_zb0, mm_zb1])
  obtain ⟨c, r, q, z, hK0, hSA, hZ⟩ := K_sht_SA (hK k hk)
  obtain ⟨s0, s1, s2, s3⟩ := id hSA
  obtain ⟨b0, b1, b2, b3, -⟩ := id hK0
  obtain ⟨hm, h12, hq1, hq0⟩ := SZ_f hZ
  have hm12 : r * q ≤ 12 := hZ.2.2.2.2.1
  have hb := mm_bit (show r * q < 31 by omega)
  by_cases a1 : x1 < nI (2 ^ (r * q))
  rotate_left
  · exact er (-5) (fun d Q => by simp only [T102, k0, sa, k1, k16, ki, a0, kc, s1, s2, hm, h12, hb, a1, ↓sm_Br_d, ↓reduceIte, sm_Ck_t, mm_zb0, mm_zb1]) (fun d Q => by simp only [T227, k0, sb, k2, ki, kc, a0, b1, b2, hm, hb, a1, ↓sm_Br_d, ↓reduceIte, sm_Ck_t, mm_zb0, mm_zb1])
  obtain ⟨x, hx, rfl⟩ := nI_of a0
  have hp12 : 2 ^ (r * q) ≤ 4096 := Nat.pow_le_pow_right (n := 2) (by decide) hm12
  obtain ⟨f, i, hw, hRO⟩ := RO_of hKr h0 (nI y)
  obtain ⟨nn, hnn, eN⟩ := J_num_c hN hn eb (nI y) (show 1 < 4 by decide)
  obtain ⟨A2, m1, m2, m3⟩ := m95 nL (nI y) hV hRO hSA hZ
  obtain ⟨B2, r1, r2, r3⟩ := r222 nL (nI y) hV hn eb (show k < 16 by omega) hK0 (r * q) 0 B (by omega) (Fr_r _ _) (fun u hu => absurd hu (Nat.not_lt_zero _))
  rw [eN] at m3
  have ewc : wcl B2 (wrule B2 (nI y) n) 1 = nI nn := by
    rw [wrule_s2 r2, ← eN]
    cases wrule B (nI y) n with
    | none => rfl
    | some k' => exact r2 71 0 _ rfl
  obtain ⟨t0, t1, t2, t3⟩ := K_sh0_s2 hK0 r2
  have dB2 : B2 11 0 1 = nI y := (r2 11 0 1 rfl).trans dB
  refine ⟨wfa (wam (fun u => LW B (wrule B (nI y) n) (nI (wce c q u)) (nI y) t s) c q z (r * q) (nI nn) x) (r * q) 0, A2, B2, fun d Q => ?_, fun d Q => ?_, m2, r2⟩
  · simp only [T102, k0, sa, k1, k16, ki, a0, kc, s1, s2, hm, h12, hb, a1, dA, dB, ↓sm_Br_d, ↓reduceIte, sm_Ck_t, mm_zb0, mm_zb1]
    rw [m48e (d + 5) nL (nI y) none none hn ea hKr, hw, sm_push_s, T102_47, m1, sm_push_n, T102_50, T101]
    refine (m101 (B := B) nL (nI nn) (SA_s2 hSA m2) hZ _ m3 (show x < 2 ^ 31 by omega) (d + 3) _ (r * q) 0 none (by omega)).trans ?_
    rw [sm_push_s, T102_55]
  · simp only [T227, k0, sb, k2, ki, kc, a0, b1, b2, hm, hb, a1, dB, ↓sm_Br_d, ↓reduceIte, sm_Ck_t, mm_zb0, mm_zb1]
    rw [T222]
    refine (r1 d _).trans ?_
    rw [sm_push_n, T227_35, dB2]
    refine (r191 (d + 4) nL (nI y) (j := 1) (by decide) none hn ((r2 11 0 27 rfl).trans eb) _).trans ?_
    rw [ewc, sm_push_s, T227_47, T226]
    refine (r226 nL (show k < 16 by omega) t0 t1 t2 t3 hZ (fun u => LW B (wrule B (nI y) n) (nI (wce c q u)) (nI y) t s) (fun u _ => LW_rng hV _ _ _) r3 hnn (show x < 2 ^ 31 by omega) (d + 3) _ (r * q) 0 none none (by omega)).trans ?_
    rw [sm_push_s, T227_50]
