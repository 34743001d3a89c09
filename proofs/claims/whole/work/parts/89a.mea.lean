/-! end and move -/
def aE (A : sm_M) (i : Nat) : sm_M := sm_u (sm_u A 42 i 6 (A 10 0 0)) 42 i 8 (A 14 0 5)
def bE (B : sm_M) (i : Nat) : sm_M := sm_u (sm_u (sm_u B 11 0 2 (B 11 0 2 + 1)) 64 0 i (B 11 0 1)) 66 0 i (B 11 0 2 + 1)
theorem aE_ne {A : sm_M} {t i k : Nat} (h : i ≠ t) : aE A t 42 i k = A 42 i k := by simp [aE, sm_u, h]
theorem bE_ne {B : sm_M} {t i f : Nat} (h : i ≠ t) (hf : f ≠ 11) : bE B t f 0 i = B f 0 i := by simp [bE, sm_u, h, hf]
theorem bE_nf {B : sm_M} {t i f : Nat} (hf : f ≠ 11) (h1 : f ≠ 64) (h2 : f ≠ 66) : bE B t f 0 i = B f 0 i := by simp [bE, sm_u, h1, h2, hf]
theorem aE_nk {A : sm_M} {t i k : Nat} (h1 : k ≠ 6) (h2 : k ≠ 8) : aE A t 42 i k = A 42 i k := by simp [aE, sm_u, h1, h2]
theorem J_thg_end {A B : sm_M} {t i : Nat} (hJ : J_thg A B) (hD : J_day A B) (et : B 11 0 13 = nI t) (ht : t ≤ 90) (hi : i < t) : J_thg (aE A i) (bE B i) := by
  obtain ⟨t', s, h1, h2, h3, h4, h5, h6, h7, h8⟩ := hJ
  have e1 : t' = t := (nI_eq (by omega) (by omega)).mp (h4.symm.trans et)
  subst e1
  obtain ⟨hd, n, hn, en⟩ := hD
  refine ⟨t', s, h1, h2, h3, h4, h5, fun j hj => ?_, fun j hj => ?_, fun j hj hj2 => ?_⟩
  · rw [aE_nk (by decide) (by decide)]; exact h6 j hj
  · have := h7 j hj
    unfold K_thg at this ⊢
    rw [aE_nk (by decide) (by decide), aE_nk (by decide) (by decide), aE_nk (by decide) (by decide), aE_nk (by decide) (by decide), aE_nk (by decide) (by decide), bE_nf (by decide) (by decide) (by decide), bE_nf (by decide) (by decide) (by decide), bE_nf (by decide) (by decide) (by decide), bE_nf (by decide) (by decide) (by decide), bE_nf (by decide) (by decide) (by decide)]
    obtain ⟨k1, k2, k3, k4, k5, k6, k7, k8, k9, k10, k11, k12⟩ := this
    by_cases hji : j = i
    · subst hji
      exact ⟨k1, k2, k3, k4, k5, by simp [aE, bE, sm_u, hd], k7, k8, k9, k10, k11, .inr ⟨n, hn, by simp [bE, sm_u, en]⟩⟩
    · rw [aE_ne hji, bE_ne hji (by decide)]
      exact ⟨k1, k2, k3, k4, k5, k6, k7, k8, k9, k10, k11, k12⟩
  · have hji : j ≠ i := by omega
    rw [aE_ne hji, aE_ne hji, aE_ne hji]
    exact h8 j hj hj2
def bE0 (B : sm_M) (i : Nat) : sm_M := sm_u (sm_u B 64 0 i (B 11 0 1)) 66 0 i (B 11 0 2)
theorem bE0_ne {B : sm_M} {t i f : Nat} (h : i ≠ t) : bE0 B t f 0 i = B f 0 i := by simp [bE0, sm_u, h]
theorem bE0_nf {B : sm_M} {t i f : Nat} (h1 : f ≠ 64) (h2 : f ≠ 66) : bE0 B t f 0 i = B f 0 i := by simp [bE0, sm_u, h1, h2]
theorem J_tel_end0 {A B : sm_M} {t i m : Nat} (hJ : J_tel 1 m A B) (hD : J_day A B) (et : B 11 0 13 = nI t) (ht : t ≤ 90) (hi : i < t) (he : B 64 0 i < 0) : J_tel 1 m (aE A i) (bE0 B i) := by
  obtain ⟨t', q, C, NC, h1, h2, h3, h4, h5, h6, h7, h8, h9, h10, h11, h12⟩ := hJ
  have e1 : t' = t := (nI_eq (by omega) (by omega)).mp (h5.symm.trans et)
  subst e1
  obtain ⟨hd, n, hn, en⟩ := hD
  have hC : 1 ≤ C := by
    obtain ⟨-, -, ⟨u, c, a1, a2, a3, -⟩, -⟩ := h11 i hi
    omega
  refine ⟨t', q, C, NC, h1, h2, h3, h4, h5, h6, h7, h8, h9, h10, fun j hj => ?_, fun j hj hj2 => ?_⟩
  · obtain ⟨f1, f2, f3, f4⟩ := h11 j hj
    unfold K_tel
    rw [aE_nk (by decide) (by decide), aE_nk (by decide) (by decide), aE_nk (by decide) (by decide), bE0_nf (by decide) (by decide), bE0_nf (by decide) (by decide), bE0_nf (by decide) (by decide)]
    by_cases hji : j = i
    · subst hji
      rcases f4 with ⟨g1, g2, g3⟩ | ⟨g1, -⟩
      · have h64 : bE0 B j 64 0 j = nI n := by simp [bE0, sm_u, en]
        refine ⟨f1, f2, f3, .inr ⟨by rw [h64]; exact nI_pos (by omega), q, C, Nat.le_refl _, hC, Nat.le_refl _, by simp [aE, sm_u, h6], by simp [bE0, sm_u, h8], fun k hk => ⟨fun _ => by have := (h9 k hk).2.1; omega, fun _ => hk⟩, .inl g3⟩⟩
      · exact absurd he g1
    · rw [aE_ne hji, bE0_ne hji, bE0_ne hji]
      exact ⟨f1, f2, f3, f4⟩
  · have hji : j ≠ i := by omega
    rw [aE_ne hji, aE_ne hji, aE_ne hji]
    exact h12 j hj hj2
theorem J_tel_end {A B : sm_M} {t i m : Nat} (hJ : J_tel 0 m A B) (hD : J_day A B) (et : B 11 0 13 = nI t) (ht : t ≤ 90) (hi : i < t) (he : B 64 0 i < 0) : J_tel 1 (m + 1) (aE A i) (bE B i) :=
  J_tel_end0 (B := sm_u B 11 0 2 (B 11 0 2 + 1)) (J_tel_inc hJ) hD et ht hi he
theorem m42n {A : sm_M} {t : Nat} (ta : A 14 0 3 = nI t) {x0 : Int32} (h : x0 < 0 ∨ (¬ x0 < 0 ∧ ¬ x0 < nI t)) (d nL : Nat) (Q : sm_Q) : sm_W d 42 0 [vo 14, vi x0] [] (sm_G0 nL) A Q = Q (some (Sum.inr (Sum.inr none))) (sm_G0 nL) A := by
  rcases h with h | ⟨h1, h2⟩
  · rw [T42, mm_bt h]
  · rw [T42, mm_bf h1, ta, mm_bf h2]
theorem m42s {A : sm_M} {t i : Nat} (ta : A 14 0 3 = nI t) (ht : t ≤ 90) (hi : i < t) (d nL : Nat) (Q : sm_Q) : sm_W d 42 0 [vo 14, vi (nI i)] [] (sm_G0 nL) A Q = Q (some (Sum.inr (Sum.inr (some (42, i))))) (sm_G0 nL) A := by
  have h90 : nI i < (90 : Int32) := nI_lt (show i < 90 by omega) (by decide)
  rw [T42, mm_bf (nI_pos (by omega)), ta, mm_bt (nI_lt hi (by omega)), mm_bt h90, mm_ck (mm_in (by omega) (by decide)), nI_clamp (by omega)]
theorem p45 {A B : sm_M} (hT : J_thg A B) (x0 : Int32) (nL : Nat) : ∃ r A' B', (∀ d Q, sm_W (d + 1) 45 0 [vo 10, vi x0, none] [] (sm_G0 nL) A Q = Q (vi r) (sm_G0 nL) A') ∧ (∀ d Q, sm_W (d + 2) 186 0 [vo 11, vi x0] [] (sm_G0 nL) B Q = Q (vi r) (sm_G0 nL) B') ∧ ((A' = A ∧ B' = B) ∨ ∃ t i, A' = aE A i ∧ B' = bE B i ∧ B 11 0 13 = nI t ∧ t ≤ 90 ∧ i < t ∧ B 64 0 i < 0) := by
  obtain ⟨t, s, ht, -, ta, tb, es, tn, hK, -⟩ := hT
  rcases mm_sv x0 t (by omega) with h | ⟨h0, h1, h2⟩ | ⟨i, hi, rfl, v0, v1, v2⟩
  · exact ⟨-1, A, B, fun d Q => by rw [T45, m42n ta (.inl h), sm_push_s, T45_8a], fun d Q => by rw [T186, mm_bt h, mm_ck mm_zb0], .inl ⟨rfl, rfl⟩⟩
  · exact ⟨-1, A, B, fun d Q => by rw [T45, m42n ta (.inr ⟨h0, h1⟩), sm_push_s, T45_8a], fun d Q => by rw [T186, mm_bf h0, tb, mm_bt h2, mm_ck mm_zb0], .inl ⟨rfl, rfl⟩⟩
  obtain ⟨k1, k2, k3, k4, k5, k6, ⟨k, hk1, hk5, ek⟩, -⟩ := hK i hi
  have ei : sm_in (nI i) 90 = true := mm_in (by omega) (by decide)
  have ec : (nI i).toNatClampNeg = i := nI_clamp (by omega)
  have hyes : k = 2 ∨ k = 4 ∨ k = 5 ∨ ((¬ nI k = 2) ∧ (¬ nI k = 4) ∧ (¬ nI k = 5)) := by
    have hk : k = 1 ∨ k = 2 ∨ k = 3 ∨ k = 4 ∨ k = 5 ∨ k = 6 := by omega
    rcases hk with rfl | rfl | rfl | rfl | rfl | rfl
    · exact .inr (.inr (.inr (by decide)))
    · exact .inl rfl
    · exact .inr (.inr (.inr (by decide)))
    · exact .inr (.inl rfl)
    · exact .inr (.inr (.inl rfl))
    · exact .inr (.inr (.inr (by decide)))
  by_cases he : B 64 0 i < 0
  · rcases hyes with rfl | rfl | rfl | ⟨a2, a4, a5⟩
    · exact ⟨1, aE A i, bE B i, fun d Q => by rw [T45, m42s ta ht hi, sm_push_s, T45_8, k1, k6, ek, mm_bt (by decide), mm_bt he]; rfl, fun d Q => by rw [T186, mm_bf v0, tb, mm_bf v2, mm_ck mm_zb1]; simp only [mm_ck ei, ec, ek]; rw [mm_bt (by decide), mm_bt he]; rfl, .inr ⟨t, i, rfl, rfl, tb, ht, hi, he⟩⟩
    · exact ⟨1, aE A i, bE B i, fun d Q => by rw [T45, m42s ta ht hi, sm_push_s, T45_8, k1, k6, ek, mm_bf (by decide), mm_bt (by decide), mm_bt he]; rfl, fun d Q => by rw [T186, mm_bf v0, tb, mm_bf v2, mm_ck mm_zb1]; simp only [mm_ck ei, ec, ek]; rw [mm_bf (by decide), mm_bt (by decide), mm_bt he]; rfl, .inr ⟨t, i, rfl, rfl, tb, ht, hi, he⟩⟩
    · exact ⟨1, aE A i, bE B i, fun d Q => by rw [T45, m42s ta ht hi, sm_push_s, T45_8, k1, k6, ek, mm_bf (by decide), mm_bf (by decide), mm_bt (by decide), mm_bt he]; rfl, fun d Q => by rw [T186, mm_bf v0, tb, mm_bf v2, mm_ck mm_zb1]; simp only [mm_ck ei, ec, ek]; rw [mm_bf (by decide), mm_bf (by decide), mm_bt (by decide), mm_bt he]; rfl, .inr ⟨t, i, rfl, rfl, tb, ht, hi, he⟩⟩
    · exact ⟨-2, A, B, fun d Q => by rw [T45, m42s ta ht hi, sm_push_s, T45_8, k1, k6, ek, mm_bf a2, mm_bf a4, mm_bf a5], fun d Q => by rw [T186, mm_bf v0, tb, mm_bf v2, mm_ck mm_zb1]; simp only [mm_ck ei, ec, ek]; rw [mm_bf a2, mm_bf a4, mm_bf a5], .inl ⟨rfl, rfl⟩⟩
  · rcases hyes with rfl | rfl | rfl | ⟨a2, a4, a5⟩
    · exact ⟨-3, A, B, fun d Q => by rw [T45, m42s ta ht hi, sm_push_s, T45_8, k1, k6, ek, mm_bt (by decide), mm_bf he], fun d Q => by rw [T186, mm_bf v0, tb, mm_bf v2, mm_ck mm_zb1]; simp only [mm_ck ei, ec, ek]; rw [mm_bt (by decide), mm_bf he], .inl ⟨rfl, rfl⟩⟩
    · exact ⟨-3, A, B, fun d Q => by rw [T45, m42s ta ht hi, sm_push_s, T45_8, k1, k6, ek, mm_bf (by decide), mm_bt (by decide), mm_bf he], fun d Q => by rw [T186, mm_bf v0, tb, mm_bf v2, mm_ck mm_zb1]; simp only [mm_ck ei, ec, ek]; rw [mm_bf (by decide), mm_bt (by decide), mm_bf he], .inl ⟨rfl, rfl⟩⟩
    · exact ⟨-3, A, B, fun d Q => by rw [T45, m42s ta ht hi, sm_push_s, T45_8, k1, k6, ek, mm_bf (by decide), mm_bf (by decide), mm_bt (by decide), mm_bf he], fun d Q => by rw [T186, mm_bf v0, tb, mm_bf v2, mm_ck mm_zb1]; simp only [mm_ck ei, ec, ek]; rw [mm_bf (by decide), mm_bf (by decide), mm_bt (by decide), mm_bf he], .inl ⟨rfl, rfl⟩⟩
    · exact ⟨-2, A, B, fun d Q => by rw [T45, m42s ta ht hi, sm_push_s, T45_8, k1, k6, ek, mm_bf a2, mm_bf a4, mm_bf a5], fun d Q => by rw [T186, mm_bf v0, tb, mm_bf v2, mm_ck mm_zb1]; simp only [mm_ck ei, ec, ek]; rw [mm_bf a2, mm_bf a4, mm_bf a5], .inl ⟨rfl, rfl⟩⟩
