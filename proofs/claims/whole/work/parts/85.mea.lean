/-! what stands between the class's ints (A) and the reference's (B), group by group; then the calls -/
def J_day (A B : sm_M) : Prop := A 10 0 0 = B 11 0 1 ∧ ∃ n, n ≤ 9999 ∧ B 11 0 1 = nI n
def J_srv (A B : sm_M) : Prop := A 14 0 1 = B 11 0 3 ∧ ∃ n, n ≤ 12 ∧ B 11 0 3 = nI n ∧ ∀ i, i < n → (A 41 i 0 = B 50 0 i ∧ A 41 i 1 = B 51 0 i ∧ A 41 i 2 = B 52 0 i) ∧ (∃ w, w ≤ 2 ∧ B 50 0 i = nI w) ∧ (∃ y, y ≤ 999 ∧ B 51 0 i = nI y) ∧ (∃ s, s ≤ 9 ∧ B 52 0 i = nI s)
def J_sea (A B : sm_M) : Prop := IB_sea B ∧ IP_sea A B
theorem p14 {A B : sm_M} (hJ : J_day A B) (x0 : Int32) (nL : Nat) : ∃ r A' B', (∀ d Q, sm_W d 14 0 [vo 10, vi x0] [] (sm_G0 nL) A Q = Q (vi r) (sm_G0 nL) A') ∧ (∀ d Q, sm_W (d + 1) 165 0 [vo 11, vi x0] [] (sm_G0 nL) B Q = Q (vi r) (sm_G0 nL) B') ∧ ((A' = A ∧ B' = B) ∨ ∃ v, A' = sm_u A 10 0 0 v ∧ B' = sm_u B 11 0 1 v ∧ J_day A' B') := by
  obtain ⟨e, n, hn, en⟩ := hJ
  rcases mm_ix x0 400 (by decide) with h | ⟨h0, h⟩ | ⟨c, hc, rfl⟩
  · have h1 : x0 < 1 := Int32.lt_trans h (by decide)
    exact ⟨-2, A, B, fun d Q => by rw [T14, mm_bt h1], fun d Q => by rw [T165, mm_bt h1], .inl ⟨rfl, rfl⟩⟩
  · have h1 : ¬ x0 < 1 := fun h2 => absurd (Int32.lt_trans h h2) (by decide)
    have h2 : (400 : Int32) < x0 := h
    exact ⟨-2, A, B, fun d Q => by rw [T14, mm_bf h1, mm_bt h2], fun d Q => by rw [T165, mm_bf h1, mm_bt h2], .inl ⟨rfl, rfl⟩⟩
  have h2 : ¬ (400 : Int32) < nI c := nI_nlt hc (by decide)
  rcases Nat.eq_zero_or_pos c with rfl | c0
  · exact ⟨-2, A, B, fun d Q => by rw [T14, mm_bt (by decide)], fun d Q => by rw [T165, mm_bt (by decide)], .inl ⟨rfl, rfl⟩⟩
  have h1 : ¬ nI c < 1 := nI_nlt (show 1 ≤ c from c0) (by omega)
  by_cases h3 : 9999 < n + c
  · have h4 : (9999 : Int32) < nI n + nI c := by rw [nI_add]; exact nI_lt h3 (by omega)
    exact ⟨-2, A, B, fun d Q => by rw [T14, mm_bf h1, mm_bf h2, e, en, mm_bt h4], fun d Q => by rw [T165, mm_bf h1, mm_bf h2, en, mm_bt h4], .inl ⟨rfl, rfl⟩⟩
  · have h4 : ¬ (9999 : Int32) < nI n + nI c := by rw [nI_add]; exact nI_nlt (show n + c ≤ 9999 from by omega) (by decide)
    exact ⟨nI n + nI c, sm_u A 10 0 0 (nI n + nI c), sm_u B 11 0 1 (nI n + nI c), fun d Q => by rw [T14, mm_bf h1, mm_bf h2, e, en, mm_bf h4], fun d Q => by rw [T165, mm_bf h1, mm_bf h2, en, mm_bf h4], .inr ⟨nI n + nI c, rfl, rfl, rfl, n + c, by omega, nI_add n c⟩⟩
theorem mm_up {A : sm_M} {f i k : Nat} {v : Int32} : sm_u A f i k v f i k = v := if_pos ⟨rfl, rfl, rfl⟩
theorem mm_un {A : sm_M} {f i k i' k' : Nat} {v : Int32} (h : ¬ (i' = i ∧ k' = k)) : sm_u A f i k v f i' k' = A f i' k' := if_neg (fun hh => h hh.2)
/-- an argument: too small, too large, or one that the call takes -/
theorem mm_rg (x : Int32) (n : Nat) (hn : n + 1 < 2 ^ 31) : x < 0 ∨ (¬ x < 0 ∧ nI n < x ∧ ¬ x < nI (n + 1)) ∨ ∃ j : Nat, j ≤ n ∧ x = nI j ∧ ¬ nI j < 0 ∧ ¬ nI n < nI j ∧ nI j < nI (n + 1) ∧ (nI j).toNatClampNeg = j ∧ sm_in (nI j) (n + 1) = true := by
  rcases mm_ix x n (by omega) with h | ⟨h0, h⟩ | ⟨c, hc, rfl⟩
  · exact .inl h
  · exact .inr (.inl ⟨h0, h, mm_gt hn h h0⟩)
  · exact .inr (.inr ⟨c, hc, rfl, nI_pos (by omega), nI_nlt hc (by omega), nI_lt (by omega) hn, nI_clamp (by omega), mm_in (by omega) hn⟩)
theorem p27 {A B : sm_M} (hJ : J_sea A B) (x0 x1 : Int32) (nL : Nat) : ∃ r A' B', (∀ d Q, sm_W (d + 1) 27 0 [vo 10, vi x0, vi x1, none] [] (sm_G0 nL) A Q = Q (vi r) (sm_G0 nL) A') ∧ (∀ d Q, sm_W (d + 2) 175 0 [vo 11, vi x0, vi x1, none] [] (sm_G0 nL) B Q = Q (vi r) (sm_G0 nL) B') ∧ ((A' = A ∧ B' = B) ∨ ∃ c v, A' = sm_u A 28 0 c v ∧ B' = sm_u B 58 0 c v ∧ J_sea A' B') := by
  rcases mm_rg x0 47 (by decide) with h | ⟨h0, h1, h2⟩ | ⟨c, hc, rfl, c0, c1, c2, c3, c4⟩
  · exact ⟨-1, A, B, fun d Q => by rw [T27, mm_bt h], fun d Q => by rw [T175, mm_bt h, mm_ck mm_zb0], .inl ⟨rfl, rfl⟩⟩
  · have h1' : (47 : Int32) < x0 := h1
    have h2' : ¬ x0 < (48 : Int32) := h2
    exact ⟨-1, A, B, fun d Q => by rw [T27, mm_bf h0, mm_bf h2'], fun d Q => by rw [T175, mm_bf h0, mm_bt h1', mm_ck mm_zb0], .inl ⟨rfl, rfl⟩⟩
  have c1' : ¬ (47 : Int32) < nI c := c1
  have c2' : nI c < (48 : Int32) := c2
  have c4' : sm_in (nI c) 48 = true := c4
  rcases mm_rg x1 99 (by decide) with h | ⟨h0, h1, h2⟩ | ⟨s, hs, rfl, s0, s1, s2, s3, s4⟩
  · exact ⟨-2, A, B, fun d Q => by rw [T27, mm_bf c0, mm_bt c2', mm_bt h], fun d Q => by rw [T175, mm_bf c0, mm_bf c1', mm_ck mm_zb1, mm_bt h], .inl ⟨rfl, rfl⟩⟩
  · have h1' : (99 : Int32) < x1 := h1
    exact ⟨-2, A, B, fun d Q => by rw [T27, mm_bf c0, mm_bt c2', mm_bf h0, mm_bt h1'], fun d Q => by rw [T175, mm_bf c0, mm_bf c1', mm_ck mm_zb1, mm_bf h0, mm_bt h1'], .inl ⟨rfl, rfl⟩⟩
  have s1' : ¬ (99 : Int32) < nI s := s1
  refine ⟨B 58 0 c, sm_u A 28 0 c (nI s), sm_u B 58 0 c (nI s), fun d Q => ?_, fun d Q => ?_, .inr ⟨c, nI s, rfl, rfl, hJ.1, hJ.2.1, hJ.2.2.1, fun k hk => ?_⟩⟩
  · rw [T27, mm_bf c0, mm_bt c2', mm_bf s0, mm_bf s1', mm_ck c4', mm_ck c4', c3, (hJ.2.2.2 c (by omega)).2]
  · rw [T175, mm_bf c0, mm_bf c1', mm_ck mm_zb1, mm_bf s0, mm_bf s1', mm_ck c4', mm_ck c4', c3]
  · refine ⟨(hJ.2.2.2 k hk).1, ?_⟩
    by_cases hkc : k = c
    · subst hkc; rw [mm_up, mm_up]
    · rw [mm_un (fun h => hkc h.2), mm_un (fun h => hkc h.2)]; exact (hJ.2.2.2 k hk).2
theorem p20 {A B : sm_M} (hJ : J_sea A B) (x0 x1 : Int32) (nL : Nat) : ∃ r A' B', (∀ d Q, sm_W (d + 1) 20 0 [vo 10, vi x0, vi x1, none] [] (sm_G0 nL) A Q = Q (vi r) (sm_G0 nL) A') ∧ (∀ d Q, sm_W (d + 2) 169 0 [vo 11, vi x0, vi x1, none] [] (sm_G0 nL) B Q = Q (vi r) (sm_G0 nL) B') ∧ ((A' = A ∧ B' = B) ∨ ∃ c v, A' = sm_u A 27 0 c v ∧ B' = sm_u B 57 0 c v ∧ J_sea A' B') := by
  rcases mm_rg x0 47 (by decide) with h | ⟨h0, h1, h2⟩ | ⟨c, hc, rfl, c0, c1, c2, c3, c4⟩
  · exact ⟨-5, A, B, fun d Q => by rw [T20, mm_bt h], fun d Q => by rw [T169, mm_bt h, mm_ck mm_zb0], .inl ⟨rfl, rfl⟩⟩
  · have h1' : (47 : Int32) < x0 := h1
    have h2' : ¬ x0 < (48 : Int32) := h2
    exact ⟨-5, A, B, fun d Q => by rw [T20, mm_bf h0, mm_bf h2'], fun d Q => by rw [T169, mm_bf h0, mm_bt h1', mm_ck mm_zb0], .inl ⟨rfl, rfl⟩⟩
  have c1' : ¬ (47 : Int32) < nI c := c1
  have c2' : nI c < (48 : Int32) := c2
  have c4' : sm_in (nI c) 48 = true := c4
  have key : ∀ v : Int32, (v = -1 ∨ ∃ g, g < 4 ∧ v = nI g) → J_sea (sm_u A 27 0 c v) (sm_u B 57 0 c v) := by
    intro v hv
    refine ⟨⟨hJ.1.1, fun k hk => ?_⟩, hJ.2.1, hJ.2.2.1, fun k hk => ⟨?_, (hJ.2.2.2 k hk).2⟩⟩
    · by_cases hkc : k = c
      · subst hkc; rw [mm_up]; exact hv
      · rw [mm_un (fun h => hkc h.2)]; exact hJ.1.2 k hk
    · by_cases hkc : k = c
      · subst hkc; rw [mm_up, mm_up]
      · rw [mm_un (fun h => hkc h.2), mm_un (fun h => hkc h.2)]; exact (hJ.2.2.2 k hk).1
  by_cases hm : x1 = -1
  · subst hm
    refine ⟨B 57 0 c, _, _, fun d Q => ?_, fun d Q => ?_, .inr ⟨c, -1, rfl, rfl, key _ (.inl rfl)⟩⟩
    · rw [T20]
      simp only [mm_bf c0, mm_bt c2', mm_ck c4', c3, (hJ.2.2.2 c (by omega)).1]
      rw [mm_bt (by decide)]
    · rw [T169, mm_bf c0, mm_bf c1', mm_ck mm_zb1, mm_bf (by decide), mm_bf (by decide), mm_ck c4', mm_ck c4', c3]
  rcases mm_rg x1 3 (by decide) with h | ⟨h0, h1, h2⟩ | ⟨g, hg, rfl, s0, s1, s2, s3, s4⟩
  · have h' : x1 < (-1 : Int32) := by
      have := Int32.lt_iff_toInt_lt.mp h
      have h6 : x1.toInt ≠ (-1 : Int32).toInt := fun hh => hm (Int32.toInt_inj.mp hh)
      rw [Int32.lt_iff_toInt_lt]
      have h7 : (-1 : Int32).toInt = -1 := by decide
      have h8 : (0 : Int32).toInt = 0 := by decide
      omega
    exact ⟨-5, A, B, fun d Q => by rw [T20, mm_bf c0, mm_bt c2', mm_bf hm, mm_bt h], fun d Q => by rw [T169, mm_bf c0, mm_bf c1', mm_ck mm_zb1, mm_bt h'], .inl ⟨rfl, rfl⟩⟩
  · have h1' : (3 : Int32) < x1 := h1
    have h2' : ¬ x1 < (4 : Int32) := h2
    have h3 : ¬ x1 < (-1 : Int32) := fun h => h0 (Int32.lt_trans h (by decide))
    exact ⟨-5, A, B, fun d Q => by rw [T20, mm_bf c0, mm_bt c2', mm_bf hm, mm_bf h0, mm_bf h2'], fun d Q => by rw [T169, mm_bf c0, mm_bf c1', mm_ck mm_zb1, mm_bf h3, mm_bt h1'], .inl ⟨rfl, rfl⟩⟩
  have s1' : ¬ (3 : Int32) < nI g := s1
  have s2' : nI g < (4 : Int32) := s2
  have h3 : ¬ nI g < (-1 : Int32) := fun h => s0 (Int32.lt_trans h (by decide))
  refine ⟨B 57 0 c, _, _, fun d Q => ?_, fun d Q => ?_, .inr ⟨c, nI g, rfl, rfl, key _ (.inr ⟨g, by omega, rfl⟩)⟩⟩
  · rw [T20, mm_bf c0, mm_bt c2', mm_bf hm, mm_bf s0, mm_bt s2']
    simp only [mm_ck c4', c3, (hJ.2.2.2 c (by omega)).1]
  · rw [T169, mm_bf c0, mm_bf c1', mm_ck mm_zb1, mm_bf h3, mm_bf s1', mm_ck c4', mm_ck c4', c3]
