/-! line: the call -/
def PB_l2 (f k : Nat) : Bool := PB_ln f k || (Nat.beq f 11 && Nat.beq k 2)
theorem PB_l2_w {B B1 : sm_M} (h : Fr PB_ln B B1) : Fr PB_l2 B B1 := Fr_w h (fun f k hk => by unfold PB_l2 at hk; simp only [Bool.or_eq_false_iff] at hk; exact hk.1)
theorem cel : ∀ q, q < 48 → nI q / 8 = nI (q / 8) ∧ nI q - nI (q / 8) * 8 = nI (q % 8) := by decide +kernel
theorem p32 {A B : sm_M} {m : Nat} (hS : J_srv A B) (hJ : J_sea A B) (hT : J_thg A B) (hTel : J_tel 0 m A B) (hD : J_day A B) (hP : J_tap A B) (hP3 : J_tp3 B) (hm : m < 2 ^ 30) (x0 x1 x2 x3 x4 x5 x6 : Int32) (nL : Nat) : ∃ r A' B', (∀ d Q, sm_W (d + 4) 32 0 [vo 10, vi x0, vi x1, vi x2, vi x3, vi x4, vi x5, vi x6, none, none, none, none] [] (sm_G0 nL) A Q = Q (vi r) (sm_G0 nL) A') ∧ (∀ d Q, sm_W (d + 2) 180 0 [vo 11, vi x0, vi x1, vi x2, vi x3, vi x4, vi x5, vi x6, none, none, none, none, none, none, none, none, none, none] [] (sm_G0 nL) B Q = Q (vi r) (sm_G0 nL) B') ∧ ((A' = A ∧ B' = B) ∨ (J_thg A' B' ∧ J_tel 1 (m + 1) A' B' ∧ J_end A' B' ∧ Fr PA_ln A A' ∧ Fr PB_l2 B B' ∧ B' 11 0 2 = B 11 0 2 + 1)) := by
  obtain ⟨se, s, hs, es, -⟩ := hS
  have sa : A 14 0 1 = nI s := se.trans es
  have x4c : (x4 < 0) ∨ (¬ x4 < 0 ∧ ¬ x4 < 6 ∧ 5 < x4) ∨ ∃ u, u < 6 ∧ x4 = nI u ∧ ¬ nI u < 0 ∧ nI u < 6 ∧ ¬ 5 < nI u := by
    rcases mm_rg x4 5 (by decide) with h | ⟨h0, h1, h2⟩ | ⟨u, hu, rfl, u0, u1, u2, -⟩
    · exact .inl h
    · exact .inr (.inl ⟨h0, h2, h1⟩)
    · exact .inr (.inr ⟨u, by omega, rfl, u0, u2, u1⟩)
  have x1c : (x1 < 0) ∨ (¬ x1 < 0 ∧ ¬ x1 < 48 ∧ 47 < x1) ∨ ∃ u, u < 48 ∧ x1 = nI u ∧ ¬ nI u < 0 ∧ nI u < 48 ∧ ¬ 47 < nI u := by
    rcases mm_rg x1 47 (by decide) with h | ⟨h0, h1, h2⟩ | ⟨u, hu, rfl, u0, u1, u2, -⟩
    · exact .inl h
    · exact .inr (.inl ⟨h0, h2, h1⟩)
    · exact .inr (.inr ⟨u, by omega, rfl, u0, u2, u1⟩)
  rcases x4c with a0 | ⟨a0, a1, a2⟩ | ⟨u, hu, rfl, u0, u6, u5⟩
  · rcases mm_sv x0 s (by omega) with h0 | ⟨h0, h1, h2⟩ | ⟨v, hv, rfl, v0, v1, v2⟩
    · exact ⟨-1, A, B, fun d Q => by simp only [T32, a0, h0, ↓sm_Br_d, ↓reduceIte, sm_Ck_t, mm_zb0, mm_zb1], fun d Q => by simp only [T180, a0, h0, ↓sm_Br_d, ↓reduceIte, sm_Ck_t, mm_zb0, mm_zb1], .inl ⟨rfl, rfl⟩⟩
    · exact ⟨-1, A, B, fun d Q => by simp only [T32, a0, h0, sa, es, h1, h2, ↓sm_Br_d, ↓reduceIte, sm_Ck_t, mm_zb0, mm_zb1], fun d Q => by simp only [T180, a0, h0, sa, es, h1, h2, ↓sm_Br_d, ↓reduceIte, sm_Ck_t, mm_zb0, mm_zb1], .inl ⟨rfl, rfl⟩⟩
    have v3 : nI v < (12 : Int32) := nI_lt (show v < 12 by omega) (by decide)
    have v4 : sm_in (nI v) 12 = true := mm_in (by omega) (by decide)
    rcases x1c with c0 | ⟨c0, c1, c2⟩ | ⟨q, hq, rfl, q0, q1, q2⟩
    · exact ⟨-1, A, B, fun d Q => by simp only [T32, a0, v0, sa, es, v1, v2, v3, v4, c0, ↓sm_Br_d, ↓reduceIte, sm_Ck_t, mm_zb0, mm_zb1], fun d Q => by simp only [T180, a0, v0, sa, es, v1, v2, v3, v4, c0, ↓sm_Br_d, ↓reduceIte, sm_Ck_t, mm_zb0, mm_zb1], .inl ⟨rfl, rfl⟩⟩
    · exact ⟨-1, A, B, fun d Q => by simp only [T32, a0, v0, sa, es, v1, v2, v3, v4, c0, c1, c2, ↓sm_Br_d, ↓reduceIte, sm_Ck_t, mm_zb0, mm_zb1], fun d Q => by simp only [T180, a0, v0, sa, es, v1, v2, v3, v4, c0, c1, c2, ↓sm_Br_d, ↓reduceIte, sm_Ck_t, mm_zb0, mm_zb1], .inl ⟨rfl, rfl⟩⟩
    · exact ⟨-1, A, B, fun d Q => by simp only [T32, a0, v0, sa, es, v1, v2, v3, v4, q0, q1, q2, ↓sm_Br_d, ↓reduceIte, sm_Ck_t, mm_zb0, mm_zb1], fun d Q => by simp only [T180, a0, v0, sa, es, v1, v2, v3, v4, q0, q1, q2, ↓sm_Br_d, ↓reduceIte, sm_Ck_t, mm_zb0, mm_zb1], .inl ⟨rfl, rfl⟩⟩
  · rcases mm_sv x0 s (by omega) with h0 | ⟨h0, h1, h2⟩ | ⟨v, hv, rfl, v0, v1, v2⟩
    · exact ⟨-1, A, B, fun d Q => by simp only [T32, a0, a1, a2, h0, ↓sm_Br_d, ↓reduceIte, sm_Ck_t, mm_zb0, mm_zb1], fun d Q => by simp only [T180, a0, a1, a2, h0, ↓sm_Br_d, ↓reduceIte, sm_Ck_t, mm_zb0, mm_zb1], .inl ⟨rfl, rfl⟩⟩
    · exact ⟨-1, A, B, fun d Q => by simp only [T32, a0, a1, a2, h0, sa, es, h1, h2, ↓sm_Br_d, ↓reduceIte, sm_Ck_t, mm_zb0, mm_zb1], fun d Q => by simp only [T180, a0, a1, a2, h0, sa, es, h1, h2, ↓sm_Br_d, ↓reduceIte, sm_Ck_t, mm_zb0, mm_zb1], .inl ⟨rfl, rfl⟩⟩
    have v3 : nI v < (12 : Int32) := nI_lt (show v < 12 by omega) (by decide)
    have v4 : sm_in (nI v) 12 = true := mm_in (by omega) (by decide)
    rcases x1c with c0 | ⟨c0, c1, c2⟩ | ⟨q, hq, rfl, q0, q1, q2⟩
    · exact ⟨-1, A, B, fun d Q => by simp only [T32, a0, a1, a2, v0, sa, es, v1, v2, v3, v4, c0, ↓sm_Br_d, ↓reduceIte, sm_Ck_t, mm_zb0, mm_zb1], fun d Q => by simp only [T180, a0, a1, a2, v0, sa, es, v1, v2, v3, v4, c0, ↓sm_Br_d, ↓reduceIte, sm_Ck_t, mm_zb0, mm_zb1], .inl ⟨rfl, rfl⟩⟩
    · exact ⟨-1, A, B, fun d Q => by simp only [T32, a0, a1, a2, v0, sa, es, v1, v2, v3, v4, c0, c1, c2, ↓sm_Br_d, ↓reduceIte, sm_Ck_t, mm_zb0, mm_zb1], fun d Q => by simp only [T180, a0, a1, a2, v0, sa, es, v1, v2, v3, v4, c0, c1, c2, ↓sm_Br_d, ↓reduceIte, sm_Ck_t, mm_zb0, mm_zb1], .inl ⟨rfl, rfl⟩⟩
    · exact ⟨-1, A, B, fun d Q => by simp only [T32, a0, a1, a2, v0, sa, es, v1, v2, v3, v4, q0, q1, q2, ↓sm_Br_d, ↓reduceIte, sm_Ck_t, mm_zb0, mm_zb1], fun d Q => by simp only [T180, a0, a1, a2, v0, sa, es, v1, v2, v3, v4, q0, q1, q2, ↓sm_Br_d, ↓reduceIte, sm_Ck_t, mm_zb0, mm_zb1], .inl ⟨rfl, rfl⟩⟩
  have ui : sm_in (nI u) 6 = true := mm_in hu (by decide)
  have uc : (nI u).toNatClampNeg = u := nI_clamp (by omega)
  rcases mm_sv x0 s (by omega) with h0 | ⟨h0, h1, h2⟩ | ⟨v, hv, rfl, v0, v1, v2⟩
  · exact ⟨-1, A, B, fun d Q => by simp only [T32, u0, u6, u5, ui, h0, ↓sm_Br_d, ↓reduceIte, sm_Ck_t, mm_zb0, mm_zb1], fun d Q => by simp only [T180, u0, u6, u5, ui, h0, ↓sm_Br_d, ↓reduceIte, sm_Ck_t, mm_zb0, mm_zb1], .inl ⟨rfl, rfl⟩⟩
  · exact ⟨-1, A, B, fun d Q => by simp only [T32, u0, u6, u5, ui, h0, sa, es, h1, h2, ↓sm_Br_d, ↓reduceIte, sm_Ck_t, mm_zb0, mm_zb1], fun d Q => by simp only [T180, u0, u6, u5, ui, h0, sa, es, h1, h2, ↓sm_Br_d, ↓reduceIte, sm_Ck_t, mm_zb0, mm_zb1], .inl ⟨rfl, rfl⟩⟩
  have v3 : nI v < (12 : Int32) := nI_lt (show v < 12 by omega) (by decide)
  have v4 : sm_in (nI v) 12 = true := mm_in (by omega) (by decide)
  rcases x1c with c0 | ⟨c0, c1, c2⟩ | ⟨q, hq, rfl, q0, q1, q2⟩
  · exact ⟨-1, A, B, fun d Q => by simp only [T32, u0, u6, u5, ui, v0, sa, es, v1, v2, v3, v4, c0, ↓sm_Br_d, ↓reduceIte, sm_Ck_t, mm_zb0, mm_zb1], fun d Q => by simp only [T180, u0, u6, u5, ui, v0, sa, es, v1, v2, v3, v4, c0, ↓sm_Br_d, ↓reduceIte, sm_Ck_t, mm_zb0, mm_zb1], .inl ⟨rfl, rfl⟩⟩
  · exact ⟨-1, A, B, fun d Q => by simp only [T32, u0, u6, u5, ui, v0, sa, es, v1, v2, v3, v4, c0, c1, c2, ↓sm_Br_d, ↓reduceIte, sm_Ck_t, mm_zb0, mm_zb1], fun d Q => by simp only [T180, u0, u6, u5, ui, v0, sa, es, v1, v2, v3, v4, c0, c1, c2, ↓sm_Br_d, ↓reduceIte, sm_Ck_t, mm_zb0, mm_zb1], .inl ⟨rfl, rfl⟩⟩
  rcases mm_rg x2 3 (by decide) with h0 | ⟨h0, h1, -⟩ | ⟨dir, hd, rfl, d0, d1, -⟩
  · exact ⟨-2, A, B, fun d Q => by simp only [T32, u0, u6, u5, ui, v0, sa, es, v1, v2, v3, v4, q0, q1, q2, h0, ↓sm_Br_d, ↓reduceIte, sm_Ck_t, mm_zb0, mm_zb1], fun d Q => by simp only [T180, u0, u6, u5, ui, v0, sa, es, v1, v2, v3, v4, q0, q1, q2, h0, ↓sm_Br_d, ↓reduceIte, sm_Ck_t, mm_zb0, mm_zb1], .inl ⟨rfl, rfl⟩⟩
  · have h1' : (3 : Int32) < x2 := h1
    exact ⟨-2, A, B, fun d Q => by simp only [T32, u0, u6, u5, ui, v0, sa, es, v1, v2, v3, v4, q0, q1, q2, h0, h1', ↓sm_Br_d, ↓reduceIte, sm_Ck_t, mm_zb0, mm_zb1], fun d Q => by simp only [T180, u0, u6, u5, ui, v0, sa, es, v1, v2, v3, v4, q0, q1, q2, h0, h1', ↓sm_Br_d, ↓reduceIte, sm_Ck_t, mm_zb0, mm_zb1], .inl ⟨rfl, rfl⟩⟩
  have d1' : ¬ (3 : Int32) < nI dir := d1
  rcases mm_rg x3 99999 (by decide) with h0 | ⟨h0, h1, -⟩ | ⟨h, hh, rfl, e0, e1, -⟩
  · exact ⟨-2, A, B, fun d Q => by simp only [T32, u0, u6, u5, ui, v0, sa, es, v1, v2, v3, v4, q0, q1, q2, d0, d1', h0, ↓sm_Br_d, ↓reduceIte, sm_Ck_t, mm_zb0, mm_zb1], fun d Q => by simp only [T180, u0, u6, u5, ui, v0, sa, es, v1, v2, v3, v4, q0, q1, q2, d0, d1', h0, ↓sm_Br_d, ↓reduceIte, sm_Ck_t, mm_zb0, mm_zb1], .inl ⟨rfl, rfl⟩⟩
  · have h1' : (99999 : Int32) < x3 := h1
    exact ⟨-2, A, B, fun d Q => by simp only [T32, u0, u6, u5, ui, v0, sa, es, v1, v2, v3, v4, q0, q1, q2, d0, d1', h0, h1', ↓sm_Br_d, ↓reduceIte, sm_Ck_t, mm_zb0, mm_zb1], fun d Q => by simp only [T180, u0, u6, u5, ui, v0, sa, es, v1, v2, v3, v4, q0, q1, q2, d0, d1', h0, h1', ↓sm_Br_d, ↓reduceIte, sm_Ck_t, mm_zb0, mm_zb1], .inl ⟨rfl, rfl⟩⟩
  have e1' : ¬ (99999 : Int32) < nI h := e1
  by_cases n0 : x6 < 1
  · exact ⟨-2, A, B, fun d Q => by simp only [T32, u0, u6, u5, ui, v0, sa, es, v1, v2, v3, v4, q0, q1, q2, d0, d1', e0, e1', n0, ↓sm_Br_d, ↓reduceIte, sm_Ck_t, mm_zb0, mm_zb1], fun d Q => by simp only [T180, u0, u6, u5, ui, v0, sa, es, v1, v2, v3, v4, q0, q1, q2, d0, d1', e0, e1', n0, ↓sm_Br_d, ↓reduceIte, sm_Ck_t, mm_zb0, mm_zb1], .inl ⟨rfl, rfl⟩⟩
  rcases mm_rg x6 48 (by decide) with h0 | ⟨h0, h1, -⟩ | ⟨n, hn, rfl, -, n1, -⟩
  · exact absurd (Int32.lt_trans h0 (by decide)) n0
  · have h1' : (48 : Int32) < x6 := h1
    exact ⟨-2, A, B, fun d Q => by simp only [T32, u0, u6, u5, ui, v0, sa, es, v1, v2, v3, v4, q0, q1, q2, d0, d1', e0, e1', n0, h1', ↓sm_Br_d, ↓reduceIte, sm_Ck_t, mm_zb0, mm_zb1], fun d Q => by simp only [T180, u0, u6, u5, ui, v0, sa, es, v1, v2, v3, v4, q0, q1, q2, d0, d1', e0, e1', n0, h1', ↓sm_Br_d, ↓reduceIte, sm_Ck_t, mm_zb0, mm_zb1], .inl ⟨rfl, rfl⟩⟩
  have n1' : ¬ (48 : Int32) < nI n := n1
  obtain ⟨k0, -, k2, -⟩ := hP u hu
  have hsort : (B 96 0 u = -1 ∨ B 96 0 u = 3) ∨ ∃ k, k < 3 ∧ B 96 0 u = nI k := by
    rcases k2 with e | ⟨k, hk, e⟩
    · exact .inl (.inl e)
    · by_cases h3 : k = 3
      · subst h3; exact .inl (.inr e)
      · exact .inr ⟨k, by omega, e⟩
  rcases hsort with ek | ⟨k, hk, e⟩
  rotate_left
  · have z1 : ¬ nI k = (-1 : Int32) := (by decide : ∀ k, k < 3 → ¬ nI k = (-1 : Int32)) k hk
    have z2 : ¬ nI k < 0 := (by decide : ∀ k, k < 3 → ¬ nI k < 0) k hk
    have z3 : ¬ nI k = 3 := (by decide : ∀ k, k < 3 → ¬ nI k = 3) k hk
    exact ⟨-12, A, B, fun d Q => by simp only [T32, u0, u6, u5, ui, v0, sa, es, v1, v2, v3, v4, q0, q1, q2, d0, d1', e0, e1', n0, n1', uc, k0, e, z1, z2, z3, ↓sm_Br_d, ↓reduceIte, sm_Ck_t, mm_zb0, mm_zb1], fun d Q => by simp only [T180, u0, u6, u5, ui, v0, sa, es, v1, v2, v3, v4, q0, q1, q2, d0, d1', e0, e1', n0, n1', uc, k0, e, z1, z2, z3, ↓sm_Br_d, ↓reduceIte, sm_Ck_t, mm_zb0, mm_zb1], .inl ⟨rfl, rfl⟩⟩
  obtain ⟨g1, g2⟩ := cel q hq
  have hA : ∀ d Q, sm_W (d + 4) 32 0 [vo 10, vi (nI v), vi (nI q), vi (nI dir), vi (nI h), vi (nI u), vi x5, vi (nI n), none, none, none, none] [] (sm_G0 nL) A Q = sm_W (d + 4) 32 107 [vo 10, vi (nI v), vi (nI q), vi (nI dir), vi (nI h), vi (nI u), vi x5, vi (nI n), v26 u, vi (A 14 0 3), vi (nI q), vi 0] [] (sm_G0 nL) (sm_u A 10 0 14 0) Q := fun d Q => by
    rcases ek with ek | ek
    · have z1 : (-1 : Int32) = -1 := rfl
      simp only [T32, u0, u6, u5, ui, v0, sa, es, v1, v2, v3, v4, q0, q1, q2, d0, d1', e0, e1', n0, n1', uc, k0, ek, ↓sm_Br_d, ↓reduceIte, sm_Ck_t, mm_zb0, mm_zb1]
    · have z1 : ¬ (3 : Int32) = -1 := by decide
      simp only [T32, u0, u6, u5, ui, v0, sa, es, v1, v2, v3, v4, q0, q1, q2, d0, d1', e0, e1', n0, n1', uc, k0, ek, z1, ↓sm_Br_d, ↓reduceIte, sm_Ck_t, mm_zb0, mm_zb1]
  have hB : ∀ d Q, sm_W (d + 2) 180 0 [vo 11, vi (nI v), vi (nI q), vi (nI dir), vi (nI h), vi (nI u), vi x5, vi (nI n), none, none, none, none, none, none, none, none, none, none] [] (sm_G0 nL) B Q = sm_W (d + 2) 180 115 [vo 11, vi (nI v), vi (nI q), vi (nI dir), vi (nI h), vi (nI u), vi x5, vi (nI n), vi 0, vi (nI (q / 8)), vi (nI (q % 8)), vi 0, none, none, none, none, none, none] [] (sm_G0 nL) (sm_u (sm_u B 11 0 2 (B 11 0 2 + 1)) 11 0 24 0) Q := fun d Q => by
    rcases ek with ek | ek
    · have z1 : (-1 : Int32) < 0 := by decide
      simp only [T180, u0, u6, u5, ui, v0, sa, es, v1, v2, v3, v4, q0, q1, q2, d0, d1', e0, e1', n0, n1', uc, ek, z1, g1, g2, ↓sm_Br_d, ↓reduceIte, sm_Ck_t, mm_zb0, mm_zb1]
    · have z1 : ¬ (3 : Int32) < 0 := by decide
      simp only [T180, u0, u6, u5, ui, v0, sa, es, v1, v2, v3, v4, q0, q1, q2, d0, d1', e0, e1', n0, n1', uc, ek, z1, g1, g2, ↓sm_Br_d, ↓reduceIte, sm_Ck_t, mm_zb0, mm_zb1]
  have hT0 := hT
  have hTel0 := hTel
  obtain ⟨t, s', ht90, -, ta, -⟩ := hT0
  obtain ⟨t', q', C, NC, -, -, hC, -, -, -, -, eC, -⟩ := hTel0
  have hC1 : ¬ B 11 0 2 + 1 = 0 := by rw [eC, nI_1]; exact nI_ne0 (by omega) (by omega)
  obtain ⟨a, A', B', u1, u2, w1, w2, w3, w4, w5⟩ := ln_loop nL hs hv hu (show dir < 4 by omega) hn hh x5 (t0 := t) n 0 0 (nI q) (nI (q / 8)) (nI (q % 8)) (sm_u A 10 0 14 0) (sm_u (sm_u B 11 0 2 (B 11 0 2 + 1)) 11 0 24 0) (by omega) rfl rfl hT (J_tel_inc hTel) hC1 hD hJ es hP hP3 ek (.inl ⟨q, hq, rfl, rfl, rfl⟩) ta
  refine ⟨a, A', B', fun d Q => ?_, fun d Q => ?_, .inr ⟨w1, w2, w3, Fr_t (Fr_u (Fr_r _ _) rfl) w4, Fr_t (Fr_u (Fr_u (Fr_r _ _) rfl) rfl) (PB_l2_w w5), w5 11 0 2 rfl⟩⟩
  · rw [hA, ta]; exact u1 d Q _
  · rw [hB]; exact u2 d Q _ _ _ _ _ _ _
