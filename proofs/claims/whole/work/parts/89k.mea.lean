/-! step and stepless -/
def J_way (A B : sm_M) : Prop := ∃ n, n ≤ 20 ∧ A 10 0 12 = nI n ∧ B 11 0 59 = nI n ∧ ∀ i, i < n → A 18 0 i = B 92 0 i ∧ ∃ c, c < 48 ∧ B 92 0 i = nI c
theorem J_way_add {A B : sm_M} {n c : Nat} (hJ : J_way A B) (en : B 11 0 59 = nI n) (hn : n < 20) (hc : c < 48) : J_way (sm_u (sm_u A 18 0 n (nI c)) 10 0 12 (nI (n + 1))) (sm_u (sm_u B 92 0 n (nI c)) 11 0 59 (nI (n + 1))) := by
  obtain ⟨n', h1, h2, h3, h4⟩ := hJ
  have e1 : n' = n := (nI_eq (by omega) (by omega)).mp (h3.symm.trans en)
  subst e1
  refine ⟨n' + 1, by omega, rfl, rfl, fun i hi => ?_⟩
  by_cases hin : i = n'
  · subst hin; exact ⟨by simp [sm_u], c, hc, by simp [sm_u]⟩
  · obtain ⟨g1, g2⟩ := h4 i (by omega)
    have ea : sm_u (sm_u A 18 0 n' (nI c)) 10 0 12 (nI (n' + 1)) 18 0 i = A 18 0 i := by simp [sm_u, hin]
    have eb : sm_u (sm_u B 92 0 n' (nI c)) 11 0 59 (nI (n' + 1)) 92 0 i = B 92 0 i := by simp [sm_u, hin]
    rw [ea, eb]; exact ⟨g1, g2⟩
theorem p130 {A B : sm_M} (hJ : J_way A B) (x0 : Int32) (nL : Nat) : ∃ r A' B', (∀ d Q, sm_W (d + 2) 130 0 [vo 10, vi x0] [] (sm_G0 nL) A Q = Q (vi r) (sm_G0 nL) A') ∧ (∀ d Q, sm_W (d + 2) 247 0 [vo 11, vi x0] [] (sm_G0 nL) B Q = Q (vi r) (sm_G0 nL) B') ∧ ((A' = A ∧ B' = B) ∨ ∃ n c m, A' = sm_u (sm_u A 18 0 n c) 10 0 12 m ∧ B' = sm_u (sm_u B 92 0 n c) 11 0 59 m ∧ J_way A' B') := by
  have hJ' := hJ
  obtain ⟨n, hn, ea, eb, hW⟩ := hJ
  rcases mm_rg x0 47 (by decide) with h | ⟨h0, h1, h2⟩ | ⟨c, hc, rfl, c0, c1, c2, c3, c4⟩
  · exact ⟨-1, A, B, fun d Q => by rw [T130, mm_bt h], fun d Q => by rw [T247, mm_bt h, mm_ck mm_zb0], .inl ⟨rfl, rfl⟩⟩
  · have h1' : (47 : Int32) < x0 := h1
    have h2' : ¬ x0 < (48 : Int32) := h2
    exact ⟨-1, A, B, fun d Q => by rw [T130, mm_bf h0, mm_bf h2'], fun d Q => by rw [T247, mm_bf h0, mm_bt h1', mm_ck mm_zb0], .inl ⟨rfl, rfl⟩⟩
  have c1' : ¬ (47 : Int32) < nI c := c1
  have c2' : nI c < (48 : Int32) := c2
  have addI : n < 20 → J_way (sm_u (sm_u A 18 0 n (nI c)) 10 0 12 (nI (n + 1))) (sm_u (sm_u B 92 0 n (nI c)) 11 0 59 (nI (n + 1))) := fun h => J_way_add hJ' eb h (by omega)
  rcases Nat.eq_zero_or_pos n with hz | hp
  · subst hz
    refine ⟨nI 1, _, _, fun d Q => ?_, fun d Q => ?_, .inr ⟨0, nI c, nI 1, rfl, rfl, addI (by decide)⟩⟩
    · rw [T130, mm_bf c0, mm_bt c2', ea, mm_bf (by decide), mm_bt (by decide), mm_ck (by decide)]; rfl
    · rw [T247, mm_bf c0, mm_bf c1', mm_ck mm_zb1, eb, mm_bf (by decide), mm_bf (by decide), mm_ck (by decide)]; rfl
  have p0 : (0 : Int32) < nI n := nI_lt hp (by omega)
  have p20 : ¬ (20 : Int32) < nI n := nI_nlt (show n ≤ 20 by omega) (by decide)
  have ps : nI n - 1 = nI (n - 1) := pk_sub (show 1 ≤ n from hp)
  have pi : sm_in (nI (n - 1)) 20 = true := mm_in (by omega) (by decide)
  have pc : (nI (n - 1)).toNatClampNeg = n - 1 := nI_clamp (by omega)
  obtain ⟨w1, c', hc', ew⟩ := hW (n - 1) (by omega)
  have kA : ∀ d Q, sm_W (d + 2) 130 0 [vo 10, vi (nI c)] [] (sm_G0 nL) A Q = sm_W (d + 2) 130 40 [vo 10, vi (nI c)] [Sum.inl (nI (wdist c' c))] (sm_G0 nL) A Q := fun d Q => by
    rw [T130, mm_bf c0, mm_bt c2', ea, mm_bt p0, mm_bf p20, ps, mm_ck pi, pc, w1, ew, m49 d (by omega) (by omega), sm_push_s]
  have kB : ∀ d Q, sm_W (d + 2) 247 0 [vo 11, vi (nI c)] [] (sm_G0 nL) B Q = sm_W (d + 2) 247 31 [vo 11, vi (nI c)] [Sum.inl (nI (wdist c' c))] (sm_G0 nL) B Q := fun d Q => by
    rw [T247, mm_bf c0, mm_bf c1', mm_ck mm_zb1, eb, mm_bt p0, ps, mm_ck pi, pc, ew, r189 d (by omega) (by omega), sm_push_s]
  by_cases h1 : nI (wdist c' c) = 1
  · by_cases hf : n = 20
    · subst hf
      exact ⟨-4, A, B, fun d Q => by rw [kA, T130_40, mm_bt h1, ea, mm_bf (by decide)], fun d Q => by rw [kB, T247_31, mm_bt h1, eb, mm_bt (by decide)], .inl ⟨rfl, rfl⟩⟩
    · have n1 : nI n < (20 : Int32) := nI_lt (show n < 20 by omega) (by decide)
      have n2 : ¬ nI n = (20 : Int32) := fun h => hf ((nI_eq (by omega) (by decide)).mp (show nI n = nI 20 from h))
      have ni : sm_in (nI n) 20 = true := mm_in (by omega) (by decide)
      have nc : (nI n).toNatClampNeg = n := nI_clamp (by omega)
      exact ⟨nI (n + 1), _, _, fun d Q => by rw [kA, T130_40, mm_bt h1, ea, mm_bt n1, mm_ck ni, nc, nI_1], fun d Q => by rw [kB, T247_31, mm_bt h1, eb, mm_bf n2, mm_ck ni, nc, nI_1], .inr ⟨n, nI c, nI (n + 1), rfl, rfl, addI (by omega)⟩⟩
  · exact ⟨-2, A, B, fun d Q => by rw [kA, T130_40, mm_bf h1], fun d Q => by rw [kB, T247_31, mm_bf h1], .inl ⟨rfl, rfl⟩⟩
theorem p131 {A B : sm_M} (hJ : J_way A B) (nL : Nat) : ∃ r A' B', (∀ d Q, sm_W d 131 0 [vo 10, none] [] (sm_G0 nL) A Q = Q (vi r) (sm_G0 nL) A') ∧ (∀ d Q, sm_W d 248 0 [vo 11, none] [] (sm_G0 nL) B Q = Q (vi r) (sm_G0 nL) B') ∧ A' = sm_u A 10 0 12 0 ∧ B' = sm_u B 11 0 59 0 ∧ J_way A' B' := by
  obtain ⟨n, hn, ea, eb, hW⟩ := hJ
  exact ⟨nI n, _, _, fun d Q => by rw [T131, ea], fun d Q => by rw [T248, eb], rfl, rfl, 0, by decide, rfl, rfl, fun i hi => absurd hi (by omega)⟩
