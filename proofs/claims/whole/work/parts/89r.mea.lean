/-! tape, the call -/
theorem p157 {A B : sm_M} (hJ : J_tap A B) (x0 x1 x2 : Int32) (nL : Nat) : ∃ r A' B', (∀ d Q, sm_W (d + 1) 157 0 [vo 10, vi x0, vi x1, vi x2, none] [] (sm_G0 nL) A Q = Q (vi r) (sm_G0 nL) A') ∧ (∀ d Q, sm_W (d + 2) 270 0 [vo 11, vi x0, vi x1, vi x2, none] [] (sm_G0 nL) B Q = Q (vi r) (sm_G0 nL) B') ∧ ((A' = A ∧ B' = B) ∨ ∃ t k m, A' = tA A t k m ∧ B' = tB B t k m ∧ J_tap A' B') := by
  rcases mm_rg x0 5 (by decide) with h | ⟨h0, h1, h2⟩ | ⟨t, ht, rfl, t0, t1, t2, tc, ti⟩
  · exact ⟨-1, A, B, fun d Q => by rw [T157, mm_bt h], fun d Q => by rw [T270, mm_bt h, mm_ck mm_zb0], .inl ⟨rfl, rfl⟩⟩
  · have h1' : (5 : Int32) < x0 := h1
    have h2' : ¬ x0 < (6 : Int32) := h2
    exact ⟨-1, A, B, fun d Q => by rw [T157, mm_bf h0, mm_bf h2'], fun d Q => by rw [T270, mm_bf h0, mm_bt h1', mm_ck mm_zb0], .inl ⟨rfl, rfl⟩⟩
  have t1' : ¬ (5 : Int32) < nI t := t1
  have t2' : nI t < (6 : Int32) := t2
  have ti' : sm_in (nI t) 6 = true := ti
  by_cases a0 : x1 < -1
  · exact ⟨-2, A, B, fun d Q => by rw [T157, mm_bf t0, mm_bt t2', mm_ck ti', mm_bt a0], fun d Q => by rw [T270, mm_bf t0, mm_bf t1', mm_ck mm_zb1, mm_bt a0], .inl ⟨rfl, rfl⟩⟩
  by_cases a1 : 3 < x1
  · exact ⟨-2, A, B, fun d Q => by rw [T157, mm_bf t0, mm_bt t2', mm_ck ti', mm_bf a0, mm_bt a1], fun d Q => by rw [T270, mm_bf t0, mm_bf t1', mm_ck mm_zb1, mm_bf a0, mm_bt a1], .inl ⟨rfl, rfl⟩⟩
  have q : (60 : Int32) * nI t = nI (60 * t + 0) := by show nI 60 * nI t = _; rw [pk_mul]; rfl
  by_cases am : x1 = -1
  · subst am
    refine ⟨1, tA A t (-1) 0, tB B t (-1) 0, fun d Q => ?_, fun d Q => ?_, .inr ⟨t, -1, 0, rfl, rfl, J_tap_t hJ (by omega) (.inl rfl) ⟨0, by decide, rfl⟩⟩⟩
    · rw [T157, mm_bf t0, mm_bt t2', mm_ck ti', mm_bf a0, mm_bf a1, mm_bt rfl, tc, T158]
      have hz : ∀ Q' : sm_Q, sm_W d 158 12 [some (Sum.inr (Sum.inr (some (26, t)))), vi (-1), vi 0, vi (nI 0)] [] (sm_G0 nL) (sm_u (sm_u A 26 t 0 (-1)) 26 t 1 0) Q' = Q' none (sm_G0 nL) (tA A t (-1) 0) := fun Q' => by
        have := m158 d nL t (sm_u (sm_u A 26 t 0 (-1)) 26 t 1 0) (vi (-1)) (vi 0) Q' 60 0 (by omega)
        rw [zA_0] at this; exact this
      refine (hz _).trans ?_
      rw [sm_push_n, T157_39]
    · rw [T270, mm_bf t0, mm_bf t1', mm_ck mm_zb1, mm_bf a0, mm_bf a1, tc]
      have n1 : (-1 : Int32) < 0 := by decide
      simp only [mm_bt n1, mm_ck ti', q]
      have := r270 d nL t (by omega) (sm_u (sm_u B 96 0 t (-1)) 97 0 t 0) (vi (-1)) (vi x2) Q 60 0 (by omega)
      rw [zB_0] at this; exact this
  have b0 : ¬ x1 < 0 := fun h => by
    have := Int32.lt_iff_toInt_lt.mp h
    have h6 : x1.toInt ≠ (-1 : Int32).toInt := fun hh => am (Int32.toInt_inj.mp hh)
    have h9 : ¬ x1.toInt < (-1 : Int32).toInt := fun hh => a0 (Int32.lt_iff_toInt_lt.mpr hh)
    have h7 : (-1 : Int32).toInt = -1 := by decide
    have h8 : (0 : Int32).toInt = 0 := by decide
    omega
  by_cases c1 : 60 < x2
  · exact ⟨-2, A, B, fun d Q => by rw [T157, mm_bf t0, mm_bt t2', mm_ck ti', mm_bf a0, mm_bf a1, mm_bf am, mm_bt c1], fun d Q => by rw [T270, mm_bf t0, mm_bf t1', mm_ck mm_zb1, mm_bf a0, mm_bf a1, mm_bf b0, mm_bt c1], .inl ⟨rfl, rfl⟩⟩
  by_cases c0 : x2 < 0
  · exact ⟨-14, A, B, fun d Q => by rw [T157, mm_bf t0, mm_bt t2', mm_ck ti', mm_bf a0, mm_bf a1, mm_bf am, mm_bf c1, mm_bt c0], fun d Q => by rw [T270, mm_bf t0, mm_bf t1', mm_ck mm_zb1, mm_bf a0, mm_bf a1]; simp only [mm_bf b0, mm_bf c1, mm_bt c0], .inl ⟨rfl, rfl⟩⟩
  obtain ⟨j, hj, rfl, -⟩ := (mm_rg x1 3 (by decide)).resolve_left b0 |>.resolve_left (fun h => a1 h.2.1)
  obtain ⟨m, hm, rfl, -⟩ := (mm_rg x2 60 (by decide)).resolve_left c0 |>.resolve_left (fun h => c1 h.2.1)
  refine ⟨1, tA A t (nI j) (nI m), tB B t (nI j) (nI m), fun d Q => ?_, fun d Q => ?_, .inr ⟨t, nI j, nI m, rfl, rfl, J_tap_t hJ (by omega) (.inr ⟨j, hj, rfl⟩) ⟨m, hm, rfl⟩⟩⟩
  · rw [T157, mm_bf t0, mm_bt t2', mm_ck ti', mm_bf a0, mm_bf a1, mm_bf am, mm_bf c1, mm_bf c0, tc, T158]
    have hz : ∀ Q' : sm_Q, sm_W d 158 12 [some (Sum.inr (Sum.inr (some (26, t)))), vi (nI j), vi (nI m), vi (nI 0)] [] (sm_G0 nL) (sm_u (sm_u A 26 t 0 (nI j)) 26 t 1 (nI m)) Q' = Q' none (sm_G0 nL) (tA A t (nI j) (nI m)) := fun Q' => by
      have := m158 d nL t (sm_u (sm_u A 26 t 0 (nI j)) 26 t 1 (nI m)) (vi (nI j)) (vi (nI m)) Q' 60 0 (by omega)
      rw [zA_0] at this; exact this
    refine (hz _).trans ?_
    rw [sm_push_n, T157_64]
  · rw [T270, mm_bf t0, mm_bf t1', mm_ck mm_zb1, mm_bf a0, mm_bf a1, tc]
    simp only [mm_bf b0, mm_bf c1, mm_bf c0, mm_ck ti', q]
    have := r270 d nL t (by omega) (sm_u (sm_u B 96 0 t (nI j)) 97 0 t (nI m)) (vi (nI j)) (vi (nI m)) Q 60 0 (by omega)
    rw [zB_0] at this; exact this
