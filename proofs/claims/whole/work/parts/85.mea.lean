/-! what stands between the class's ints (A) and the reference's (B), group by group; then the calls -/
def J_day (A B : sm_M) : Prop := A 10 0 0 = B 11 0 1 ∧ ∃ n, n ≤ 9999 ∧ B 11 0 1 = nI n
def J_srv (A B : sm_M) : Prop := A 14 0 1 = B 11 0 3 ∧ ∃ n, n ≤ 12 ∧ B 11 0 3 = nI n ∧ ∀ i, i < n → (A 41 i 0 = B 50 0 i ∧ A 41 i 1 = B 51 0 i ∧ A 41 i 2 = B 52 0 i) ∧ (∃ w, w ≤ 2 ∧ B 50 0 i = nI w) ∧ (∃ y, y ≤ 999 ∧ B 51 0 i = nI y) ∧ (∃ s, s ≤ 9 ∧ B 52 0 i = nI s)
def J_sea (A B : sm_M) : Prop := IB_sea B ∧ IP_sea A B
theorem p14 {A B : sm_M} (hJ : J_day A B) (x0 : Int32) (nL : Nat) : ∃ r A' B', (∀ d Q, sm_W d 14 0 [vo 10, vi x0] [] (sm_G0 nL) A Q = Q (vi r) (sm_G0 nL) A') ∧ (∀ d Q, sm_W (d + 1) 165 0 [vo 11, vi x0] [] (sm_G0 nL) B Q = Q (vi r) (sm_G0 nL) B') ∧ ((A' = A ∧ B' = B) ∨ ∃ v, A' = sm_u A 10 0 0 v ∧ B' = sm_u B 11 0 1 v ∧ J_day A' B') := by
  obtain ⟨e, n, hn, en⟩ := hJ
  rcases mm_ix x0 400 (by decide) with h | ⟨h0, h⟩ | ⟨c, hc, rfl⟩
  · have h1 : x0 < 1 := Int32.lt_trans h (by decide)
    exact ⟨-2, A, B, fun d Q => by rw [T14, mm_bt h1], fun d Q => by rw [T165, mm_bt h1], .inl ⟨rfl, rfl⟩⟩
  · have h1 : ¬ x0 < 1 := fun h2 => absurd (Int32.lt_trans h h2) (by decide)
    have h2 : (400 : Int32) < x0 := h
    exact ⟨-2, A, B, fun d Q => by rw [T14, mm_bf h1, mm_bt h2], fun d Q => by rw [T165, mm_bf h1, mm_bt h2], .inl ⟨rfl, rfl⟩⟩
  have h2 : ¬ (400 : Int32) < nI c := nI_nlt hc (by decide)
  rcases Nat.eq_zero_or_pos c with rfl | c0
  · exact ⟨-2, A, B, fun d Q => by rw [T14, mm_bt (by decide)], fun d Q => by rw [T165, mm_bt (by decide)], .inl ⟨rfl, rfl⟩⟩
  have h1 : ¬ nI c < 1 := nI_nlt (show 1 ≤ c from c0) (by omega)
  by_cases h3 : 9999 < n + c
  · have h4 : (9999 : Int32) < nI n + nI c := by rw [nI_add]; exact nI_lt h3 (by omega)
    exact ⟨-2, A, B, fun d Q => by rw [T14, mm_bf h1, mm_bf h2, e, en, mm_bt h4], fun d Q => by rw [T165, mm_bf h1, mm_bf h2, en, mm_bt h4], .inl ⟨rfl, rfl⟩⟩
  · have h4 : ¬ (9999 : Int32) < nI n + nI c := by rw [nI_add]; exact nI_nlt (show n + c ≤ 9999 from by omega) (by decide)
    exact ⟨nI n + nI c, sm_u A 10 0 0 (nI n + nI c), sm_u B 11 0 1 (nI n + nI c), fun d Q => by rw [T14, mm_bf h1, mm_bf h2, e, en, mm_bf h4], fun d Q => by rw [T165, mm_bf h1, mm_bf h2, en, mm_bf h4], .inr ⟨nI n + nI c, rfl, rfl, rfl, n + c, by omega, nI_add n c⟩⟩
theorem mm_up {A : sm_M} {f i k : Nat} {v : Int32} : sm_u A f i k v f i k = v := if_pos ⟨rfl, rfl, rfl⟩
theorem mm_un {A : sm_M} {f i k i' k' : Nat} {v : Int32} (h : ¬ (i' = i ∧ k' = k)) : sm_u A f i k v f i' k' = A f i' k' := if_neg (fun hh => h hh.2)
/-- an argument: too small, too large, or one that the call takes -/
theorem mm_rg (x : Int32) (n : Nat) (hn : n + 1 < 2 ^ 31) : x < 0 ∨ (¬ x < 0 ∧ nI n < x ∧ ¬ x < nI (n + 1)) ∨ ∃ j : Nat, j ≤ n ∧ x = nI j ∧ ¬ nI j < 0 ∧ ¬ nI n < nI j ∧ nI j < nI (n + 1) ∧ (nI j).toNatClampNeg = j ∧ sm_in (nI j) (n + 1) = true := by
  rcases mm_ix x n (by omega) with h | ⟨h0, h⟩ | ⟨c, hc, rfl⟩
  · exact .inl h
  · exact .inr (.inl ⟨h0, h, mm_gt hn h h0⟩)
  · exact .inr (.inr ⟨c, hc, rfl, nI_pos (by omega), nI_nlt hc (by omega), nI_lt (by omega) hn, nI_clamp (by omega), mm_in (by omega) hn⟩)
theorem p27 {A B : sm_M} (hJ : J_sea A B) (x0 x1 : Int32) (nL : Nat) : ∃ r A' B', (∀ d Q, sm_W (d + 1) 27 0 [vo 10, vi x0, vi x1, none] [] (sm_G0 nL) A Q = Q (vi r) (sm_G0 nL) A') ∧ (∀ d Q, sm_W (d + 2) 175 0 [vo 11, vi x0, vi x1, none] [] (sm_G0 nL) B Q = Q (vi r) (sm_G0 nL) B') ∧ ((A' = A ∧ B' = B) ∨ ∃ c v, A' = sm_u A 28 0 c v ∧ B' = sm_u B 58 0 c v ∧ J_sea A' B') := by
  rcases mm_rg x0 47 (by decide) with h | ⟨h0, h1, h2⟩ | ⟨c, hc, rfl, c0, c1, c2, c3, c4⟩
  · exact ⟨-1, A, B, fun d Q => by rw [T27, mm_bt h], fun d Q => by rw [T175, mm_bt h, mm_ck mm_zb0], .inl ⟨rfl, rfl⟩⟩
  · have h1' : (47 : Int32) < x0 := h1
    have h2' : ¬ x0 < (48 : Int32) := h2
    exact ⟨-1, A, B, fun d Q => by rw [T27, mm_bf h0, mm_bf h2'], fun d Q => by rw [T175, mm_bf h0, mm_bt h1', mm_ck mm_zb0], .inl ⟨rfl, rfl⟩⟩
  have c1' : ¬ (47 : Int32) < nI c := c1
  have c2' : nI c < (48 : Int32) := c2
  have c4' : sm_in (nI c) 48 = true := c4
  rcases mm_rg x1 99 (by decide) with h | ⟨h0, h1, h2⟩ | ⟨s, hs, rfl, s0, s1, s2, s3, s4⟩
  · exact ⟨-2, A, B, fun d Q => by rw [T27, mm_bf c0, mm_bt c2', mm_bt h], fun d Q => by rw [T175, mm_bf c0, mm_bf c1', mm_ck mm_zb1, mm_bt h], .inl ⟨rfl, rfl⟩⟩
  · have h1' : (99 : Int32) < x1 := h1
    exact ⟨-2, A, B, fun d Q => by rw [T27, mm_bf c0, mm_bt c2', mm_bf h0, mm_bt h1'], fun d Q => by rw [T175, mm_bf c0, mm_bf c1', mm_ck mm_zb1, mm_bf h0, mm_bt h1'], .inl ⟨rfl, rfl⟩⟩
  have s1' : ¬ (99 : Int32) < nI s := s1
  refine ⟨B 58 0 c, sm_u A 28 0 c (nI s), sm_u B 58 0 c (nI s), fun d Q => ?_, fun d Q => ?_, .inr ⟨c, nI s, rfl, rfl, hJ.1, hJ.2.1, hJ.2.2.1, fun k hk => ?_⟩⟩
  · rw [T27, mm_bf c0, mm_bt c2', mm_bf s0, mm_bf s1', mm_ck c4', mm_ck c4', c3, (hJ.2.2.2 c (by omega)).2]
  · rw [T175, mm_bf c0, mm_bf c1', mm_ck mm_zb1, mm_bf s0, mm_bf s1', mm_ck c4', mm_ck c4', c3]
  · refine ⟨(hJ.2.2.2 k hk).1, ?_⟩
    by_cases hkc : k = c
    · subst hkc; rw [mm_up, mm_up]
    · rw [mm_un (fun h => hkc h.2), mm_un (fun h => hkc h.2)]; exact (hJ.2.2.2 k hk).2
theorem p20 {A B : sm_M} (hJ : J_sea A B) (x0 x1 : Int32) (nL : Nat) : ∃ r A' B', (∀ d Q, sm_W (d + 1) 20 0 [vo 10, vi x0, vi x1, none] [] (sm_G0 nL) A Q = Q (vi r) (sm_G0 nL) A') ∧ (∀ d Q, sm_W (d + 2) 169 0 [vo 11, vi x0, vi x1, none] [] (sm_G0 nL) B Q = Q (vi r) (sm_G0 nL) B') ∧ ((A' = A ∧ B' = B) ∨ ∃ c v, A' = sm_u A 27 0 c v ∧ B' = sm_u B 57 0 c v ∧ J_sea A' B') := by
  rcases mm_rg x0 47 (by decide) with h | ⟨h0, h1, h2⟩ | ⟨c, hc, rfl, c0, c1, c2, c3, c4⟩
  · exact ⟨-5, A, B, fun d Q => by rw [T20, mm_bt h], fun d Q => by rw [T169, mm_bt h, mm_ck mm_zb0], .inl ⟨rfl, rfl⟩⟩
  · have h1' : (47 : Int32) < x0 := h1
    have h2' : ¬ x0 < (48 : Int32) := h2
    exact ⟨-5, A, B, fun d Q => by rw [T20, mm_bf h0, mm_bf h2'], fun d Q => by rw [T169, mm_bf h0, mm_bt h1', mm_ck mm_zb0], .inl ⟨rfl, rfl⟩⟩
  have c1' : ¬ (47 : Int32) < nI c := c1
  have c2' : nI c < (48 : Int32) := c2
  have c4' : sm_in (nI c) 48 = true := c4
  have key : ∀ v : Int32, (v = -1 ∨ ∃ g, g < 4 ∧ v = nI g) → J_sea (sm_u A 27 0 c v) (sm_u B 57 0 c v) := by
    intro v hv
    refine ⟨⟨hJ.1.1, fun k hk => ?_⟩, hJ.2.1, hJ.2.2.1, fun k hk => ⟨?_, (hJ.2.2.2 k hk).2⟩⟩
    · by_cases hkc : k = c
      · subst hkc; rw [mm_up]; exact hv
      · rw [mm_un (fun h => hkc h.2)]; exact hJ.1.2 k hk
    · by_cases hkc : k = c
      · subst hkc; rw [mm_up, mm_up]
      · rw [mm_un (fun h => hkc h.2), mm_un (fun h => hkc h.2)]; exact (hJ.2.2.2 k hk).1
  by_cases hm : x1 = -1
  · subst hm
    refine ⟨B 57 0 c, _, _, fun d Q => ?_, fun d Q => ?_, .inr ⟨c, -1, rfl, rfl, key _ (.inl rfl)⟩⟩
    · rw [T20]
      simp only [mm_bf c0, mm_bt c2', mm_ck c4', c3, (hJ.2.2.2 c (by omega)).1]
      rw [mm_bt (by decide)]
    · rw [T169, mm_bf c0, mm_bf c1', mm_ck mm_zb1, mm_bf (by decide), mm_bf (by decide), mm_ck c4', mm_ck c4', c3]
  rcases mm_rg x1 3 (by decide) with h | ⟨h0, h1, h2⟩ | ⟨g, hg, rfl, s0, s1, s2, s3, s4⟩
  · have h' : x1 < (-1 : Int32) := by
      have := Int32.lt_iff_toInt_lt.mp h
      have h6 : x1.toInt ≠ (-1 : Int32).toInt := fun hh => hm (Int32.toInt_inj.mp hh)
      rw [Int32.lt_iff_toInt_lt]
      have h7 : (-1 : Int32).toInt = -1 := by decide
      have h8 : (0 : Int32).toInt = 0 := by decide
      omega
    exact ⟨-5, A, B, fun d Q => by rw [T20, mm_bf c0, mm_bt c2', mm_bf hm, mm_bt h], fun d Q => by rw [T169, mm_bf c0, mm_bf c1', mm_ck mm_zb1, mm_bt h'], .inl ⟨rfl, rfl⟩⟩
  · have h1' : (3 : Int32) < x1 := h1
    have h2' : ¬ x1 < (4 : Int32) := h2
    have h3 : ¬ x1 < (-1 : Int32) := fun h => h0 (Int32.lt_trans h (by decide))
    exact ⟨-5, A, B, fun d Q => by rw [T20, mm_bf c0, mm_bt c2', mm_bf hm, mm_bf h0, mm_bf h2'], fun d Q => by rw [T169, mm_bf c0, mm_bf c1', mm_ck mm_zb1, mm_bf h3, mm_bt h1'], .inl ⟨rfl, rfl⟩⟩
  have s1' : ¬ (3 : Int32) < nI g := s1
  have s2' : nI g < (4 : Int32) := s2
  have h3 : ¬ nI g < (-1 : Int32) := fun h => s0 (Int32.lt_trans h (by decide))
  refine ⟨B 57 0 c, _, _, fun d Q => ?_, fun d Q => ?_, .inr ⟨c, nI g, rfl, rfl, key _ (.inr ⟨g, by omega, rfl⟩)⟩⟩
  · rw [T20, mm_bf c0, mm_bt c2', mm_bf hm, mm_bf s0, mm_bt s2']
    simp only [mm_ck c4', c3, (hJ.2.2.2 c (by omega)).1]
  · rw [T169, mm_bf c0, mm_bf c1', mm_ck mm_zb1, mm_bf h3, mm_bf s1', mm_ck c4', mm_ck c4', c3]
theorem p17 {A B : sm_M} (hJ : J_sea A B) (x0 x1 x2 x3 : Int32) (nL : Nat) : ∃ r A' B', (∀ d Q, sm_W (d + 2) 17 0 [vo 10, vi x0, vi x1, vi x2, vi x3] [] (sm_G0 nL) A Q = Q (vi r) (sm_G0 nL) A') ∧ (∀ d Q, sm_W (d + 1) 168 0 [vo 11, vi x0, vi x1, vi x2, vi x3, none] [] (sm_G0 nL) B Q = Q (vi r) (sm_G0 nL) B') ∧ ((A' = A ∧ B' = B) ∨ ∃ q g a p h m, A' = sm_u (sm_u (sm_u (sm_u A 30 0 q a) 31 0 q p) 32 0 q h) 29 0 g m ∧ B' = sm_u (sm_u (sm_u (sm_u B 54 0 q a) 55 0 q p) 56 0 q h) 53 0 g m ∧ J_sea A' B') := by
  rcases mm_rg x0 3 (by decide) with h | ⟨h0, h1, h2⟩ | ⟨g, hg, rfl, c0, c1, c2, c3, c4⟩
  · exact ⟨-1, A, B, fun d Q => by rw [T17, mm_bt h], fun d Q => by rw [T168, mm_bt h], .inl ⟨rfl, rfl⟩⟩
  · have h1' : (3 : Int32) < x0 := h1
    have h2' : ¬ x0 < (4 : Int32) := h2
    exact ⟨-1, A, B, fun d Q => by rw [T17, mm_bf h0, mm_bf h2'], fun d Q => by rw [T168, mm_bf h0, mm_bt h1'], .inl ⟨rfl, rfl⟩⟩
  have c1' : ¬ (3 : Int32) < nI g := c1
  have c2' : nI g < (4 : Int32) := c2
  have c4' : sm_in (nI g) 4 = true := c4
  by_cases a0 : x1 < 1
  · exact ⟨-2, A, B, fun d Q => by rw [T17, mm_bf c0, mm_bt c2', mm_bt a0], fun d Q => by rw [T168, mm_bf c0, mm_bf c1', mm_bt a0], .inl ⟨rfl, rfl⟩⟩
  by_cases a1 : (30 : Int32) < x1
  · exact ⟨-2, A, B, fun d Q => by rw [T17, mm_bf c0, mm_bt c2', mm_bf a0, mm_bt a1], fun d Q => by rw [T168, mm_bf c0, mm_bf c1', mm_bf a0, mm_bt a1], .inl ⟨rfl, rfl⟩⟩
  by_cases b0 : x2 < 2
  · exact ⟨-2, A, B, fun d Q => by rw [T17, mm_bf c0, mm_bt c2', mm_bf a0, mm_bf a1, mm_bt b0], fun d Q => by rw [T168, mm_bf c0, mm_bf c1', mm_bf a0, mm_bf a1, mm_bt b0], .inl ⟨rfl, rfl⟩⟩
  by_cases b1 : (40 : Int32) < x2
  · exact ⟨-2, A, B, fun d Q => by rw [T17, mm_bf c0, mm_bt c2', mm_bf a0, mm_bf a1, mm_bf b0, mm_bt b1], fun d Q => by rw [T168, mm_bf c0, mm_bf c1', mm_bf a0, mm_bf a1, mm_bf b0, mm_bt b1], .inl ⟨rfl, rfl⟩⟩
  by_cases f0 : x3 < 0
  · exact ⟨-2, A, B, fun d Q => by rw [T17, mm_bf c0, mm_bt c2', mm_bf a0, mm_bf a1, mm_bf b0, mm_bf b1, mm_bt f0], fun d Q => by rw [T168, mm_bf c0, mm_bf c1', mm_bf a0, mm_bf a1, mm_bf b0, mm_bf b1, mm_bt f0], .inl ⟨rfl, rfl⟩⟩
  by_cases f1 : (39 : Int32) < x3
  · exact ⟨-2, A, B, fun d Q => by rw [T17, mm_bf c0, mm_bt c2', mm_bf a0, mm_bf a1, mm_bf b0, mm_bf b1, mm_bf f0, mm_bt f1], fun d Q => by rw [T168, mm_bf c0, mm_bf c1', mm_bf a0, mm_bf a1, mm_bf b0, mm_bf b1, mm_bf f0, mm_bt f1], .inl ⟨rfl, rfl⟩⟩
  obtain ⟨n, hn, en, hB⟩ := hJ.1.1 g (by omega)
  have ea : A 29 0 g = nI n := (hJ.2.1 g (by omega)).trans en
  by_cases hf : n = 4
  · subst hf
    exact ⟨-4, A, B, fun d Q => by
        rw [T17]; simp only [mm_bf c0, mm_bt c2', mm_bf a0, mm_bf a1, mm_bf b0, mm_bf b1, mm_bf f0, mm_bf f1, mm_ck c4', c3, ea]; rw [mm_bf (by decide)], fun d Q => by
        rw [T168]; simp only [mm_bf c0, mm_bf c1', mm_bf a0, mm_bf a1, mm_bf b0, mm_bf b1, mm_bf f0, mm_bf f1, mm_ck c4', c3, en]; rw [mm_bt (by decide)], .inl ⟨rfl, rfl⟩⟩
  have n1 : nI n < (4 : Int32) := nI_lt (show n < 4 by omega) (by decide)
  have n2 : ¬ nI n = (4 : Int32) := fun h => hf ((nI_eq (by omega) (by decide)).mp (show nI n = nI 4 from h))
  have q4 : (4 : Int32) * nI g + nI n = nI (4 * g + n) := by rw [mm_4, pk_mul, nI_add]
  have qi : sm_in (nI (4 * g + n)) 16 = true := mm_in (by omega) (by decide)
  have qc : (nI (4 * g + n)).toNatClampNeg = 4 * g + n := nI_clamp (by omega)
  obtain ⟨a, ha, rfl, -⟩ := (mm_rg x1 30 (by decide)).resolve_left (fun h => a0 (Int32.lt_trans h (by decide))) |>.resolve_left (fun h => a1 h.2.1)
  obtain ⟨p, hp, rfl, -⟩ := (mm_rg x2 40 (by decide)).resolve_left (fun h => b0 (Int32.lt_trans h (by decide))) |>.resolve_left (fun h => b1 h.2.1)
  obtain ⟨f, hff, rfl, -⟩ := (mm_rg x3 39 (by decide)).resolve_left f0 |>.resolve_left (fun h => f1 h.2.1)
  have hp1 : 1 ≤ p := by
    rcases Nat.eq_zero_or_pos p with rfl | h
    · exact absurd (show nI 0 < (2 : Int32) by decide) b0
    · exact h
  refine ⟨nI (n + 1), _, _, fun d Q => ?_, fun d Q => ?_, .inr ⟨4 * g + n, g, nI a, nI p, nI f, nI (n + 1), rfl, rfl, ⟨fun k hk => ?_, hJ.1.2⟩, fun k hk => ?_, fun k hk => ?_, hJ.2.2.2⟩⟩
  · rw [T17]
    simp only [mm_bf c0, mm_bt c2', mm_bf a0, mm_bf a1, mm_bf b0, mm_bf b1, mm_bf f0, mm_bf f1, mm_ck c4', c3, ea, mm_bt n1, q4, mm_ck qi, qc, mm_up, nI_1]
  · rw [T168]
    simp only [mm_bf c0, mm_bf c1', mm_bf a0, mm_bf a1, mm_bf b0, mm_bf b1, mm_bf f0, mm_bf f1, mm_ck c4', c3, en, mm_bf n2, q4, mm_ck qi, qc, mm_up, nI_1]
  · by_cases hkg : k = g
    · subst hkg
      refine ⟨n + 1, by omega, mm_up, fun i hi => ?_⟩
      by_cases hin : i = n
      · subst hin
        exact ⟨a, p, f, ha, hp1, hp, hff, mm_up, mm_up, mm_up⟩
      · obtain ⟨am, pe, ph, h1, h2, h3, h4, h5, h6, h7⟩ := hB i (by omega)
        have hne : ¬ (0 = 0 ∧ 4 * k + i = 4 * k + n) := by omega
        exact ⟨am, pe, ph, h1, h2, h3, h4, (mm_un hne).trans h5, (mm_un hne).trans h6, (mm_un hne).trans h7⟩
    · obtain ⟨n', hn', en', hB'⟩ := hJ.1.1 k hk
      refine ⟨n', hn', (mm_un (fun h => hkg h.2)).trans en', fun i hi => ?_⟩
      obtain ⟨am, pe, ph, h1, h2, h3, h4, h5, h6, h7⟩ := hB' i hi
      have hne : ¬ (0 = 0 ∧ 4 * k + i = 4 * g + n) := by omega
      exact ⟨am, pe, ph, h1, h2, h3, h4, (mm_un hne).trans h5, (mm_un hne).trans h6, (mm_un hne).trans h7⟩
  · by_cases hkg : k = g
    · subst hkg; exact mm_up.trans mm_up.symm
    · exact (mm_un (fun h => hkg h.2)).trans ((hJ.2.1 k hk).trans (mm_un (fun h => hkg h.2)).symm)
  · by_cases hkq : k = 4 * g + n
    · subst hkq; exact ⟨mm_up.trans mm_up.symm, mm_up.trans mm_up.symm, mm_up.trans mm_up.symm⟩
    · have hne : ¬ (0 = 0 ∧ k = 4 * g + n) := fun h => hkq h.2
      obtain ⟨h1, h2, h3⟩ := hJ.2.2.1 k hk
      exact ⟨(mm_un hne).trans (h1.trans (mm_un hne).symm), (mm_un hne).trans (h2.trans (mm_un hne).symm), (mm_un hne).trans (h3.trans (mm_un hne).symm)⟩
theorem p15 {A B : sm_M} (hJ : J_srv A B) (x0 x1 x2 : Int32) (nL : Nat) : ∃ r A' B', (∀ d Q, sm_W (d + 1) 15 0 [vo 10, vi x0, vi x1, vi x2] [] (sm_G0 nL) A Q = Q (vi r) (sm_G0 nL) A') ∧ (∀ d Q, sm_W (d + 1) 167 0 [vo 11, vi x0, vi x1, vi x2] [] (sm_G0 nL) B Q = Q (vi r) (sm_G0 nL) B') ∧ ((A' = A ∧ B' = B) ∨ ∃ n a b c m, A' = sm_u (sm_u (sm_u (sm_u A 41 n 0 a) 41 n 1 b) 41 n 2 c) 14 0 1 m ∧ B' = sm_u (sm_u (sm_u (sm_u B 50 0 n a) 51 0 n b) 52 0 n c) 11 0 3 m ∧ J_srv A' B' ∧ B 11 0 3 = nI n ∧ m = nI (n + 1) ∧ n < 12) := by
  obtain ⟨e, n, hn, en, hR⟩ := hJ
  have ea : A 14 0 1 = nI n := e.trans en
  by_cases a0 : x0 < 0
  · exact ⟨-2, A, B, fun d Q => by rw [T15, mm_bt a0], fun d Q => by rw [T167, mm_bt a0], .inl ⟨rfl, rfl⟩⟩
  by_cases a1 : (2 : Int32) < x0
  · exact ⟨-2, A, B, fun d Q => by rw [T15, mm_bf a0, mm_bt a1], fun d Q => by rw [T167, mm_bf a0, mm_bt a1], .inl ⟨rfl, rfl⟩⟩
  by_cases b0 : x1 < 0
  · exact ⟨-2, A, B, fun d Q => by rw [T15, mm_bf a0, mm_bf a1, mm_bt b0], fun d Q => by rw [T167, mm_bf a0, mm_bf a1, mm_bt b0], .inl ⟨rfl, rfl⟩⟩
  by_cases b1 : (999 : Int32) < x1
  · exact ⟨-2, A, B, fun d Q => by rw [T15, mm_bf a0, mm_bf a1, mm_bf b0, mm_bt b1], fun d Q => by rw [T167, mm_bf a0, mm_bf a1, mm_bf b0, mm_bt b1], .inl ⟨rfl, rfl⟩⟩
  by_cases f0 : x2 < 0
  · exact ⟨-2, A, B, fun d Q => by rw [T15, mm_bf a0, mm_bf a1, mm_bf b0, mm_bf b1, mm_bt f0], fun d Q => by rw [T167, mm_bf a0, mm_bf a1, mm_bf b0, mm_bf b1, mm_bt f0], .inl ⟨rfl, rfl⟩⟩
  by_cases f1 : (9 : Int32) < x2
  · exact ⟨-2, A, B, fun d Q => by rw [T15, mm_bf a0, mm_bf a1, mm_bf b0, mm_bf b1, mm_bf f0, mm_bt f1], fun d Q => by rw [T167, mm_bf a0, mm_bf a1, mm_bf b0, mm_bf b1, mm_bf f0, mm_bt f1], .inl ⟨rfl, rfl⟩⟩
  by_cases hf : n = 12
  · subst hf
    exact ⟨-4, A, B, fun d Q => by
        rw [T15, mm_bf a0, mm_bf a1, mm_bf b0, mm_bf b1, mm_bf f0, mm_bf f1, ea, mm_bf (by decide)], fun d Q => by
        rw [T167, mm_bf a0, mm_bf a1, mm_bf b0, mm_bf b1, mm_bf f0, mm_bf f1, en, mm_bt (by decide)], .inl ⟨rfl, rfl⟩⟩
  have n1 : nI n < (12 : Int32) := nI_lt (show n < 12 by omega) (by decide)
  have n2 : ¬ nI n = (12 : Int32) := fun h => hf ((nI_eq (by omega) (by decide)).mp (show nI n = nI 12 from h))
  have qi : sm_in (nI n) 12 = true := mm_in (by omega) (by decide)
  have qc : (nI n).toNatClampNeg = n := nI_clamp (by omega)
  obtain ⟨a, ha, rfl, -⟩ := (mm_rg x0 2 (by decide)).resolve_left a0 |>.resolve_left (fun h => a1 h.2.1)
  obtain ⟨b, hb, rfl, -⟩ := (mm_rg x1 999 (by decide)).resolve_left b0 |>.resolve_left (fun h => b1 h.2.1)
  obtain ⟨f, hff, rfl, -⟩ := (mm_rg x2 9 (by decide)).resolve_left f0 |>.resolve_left (fun h => f1 h.2.1)
  refine ⟨nI (n + 1) - 1, _, _, fun d Q => ?_, fun d Q => ?_, .inr ⟨n, nI a, nI b, nI f, nI (n + 1), rfl, rfl, ⟨rfl, n + 1, by omega, rfl, fun i hi => ?_⟩, en, rfl, by omega⟩⟩
  · rw [T15]
    simp only [mm_bf a0, mm_bf a1, mm_bf b0, mm_bf b1, mm_bf f0, mm_bf f1, ea, mm_bt n1, mm_ck qi, qc, nI_1]
  · rw [T167]
    simp only [mm_bf a0, mm_bf a1, mm_bf b0, mm_bf b1, mm_bf f0, mm_bf f1, en, mm_bf n2, mm_ck qi, qc, nI_1]
  · by_cases hin : i = n
    · subst hin
      exact ⟨⟨by simp [sm_u], by simp [sm_u], by simp [sm_u]⟩, ⟨a, ha, by simp [sm_u]⟩, ⟨b, hb, by simp [sm_u]⟩, ⟨f, hff, by simp [sm_u]⟩⟩
    · obtain ⟨⟨h1, h2, h3⟩, ⟨w, hw, h4⟩, ⟨y, hy, h5⟩, ⟨s, hs, h6⟩⟩ := hR i (by omega)
      have ha : ∀ k, ∀ v : Int32, ∀ M : sm_M, sm_u M 41 n k v 41 i = M 41 i := fun k v M => funext fun k' => mm_un (fun h => hin h.1)
      have hb : ¬ (0 = 0 ∧ i = n) := fun h => hin h.2
      have hz : ∀ k, sm_u (sm_u (sm_u (sm_u A 41 n 0 (nI a)) 41 n 1 (nI b)) 41 n 2 (nI f)) 14 0 1 (nI (n + 1)) 41 i k = A 41 i k := fun k => by
        show sm_u (sm_u (sm_u A 41 n 0 (nI a)) 41 n 1 (nI b)) 41 n 2 (nI f) 41 i k = _
        rw [ha, ha, ha]
      exact ⟨⟨(hz 0).trans (h1.trans (mm_un hb).symm), (hz 1).trans (h2.trans (mm_un hb).symm), (hz 2).trans (h3.trans (mm_un hb).symm)⟩, ⟨w, hw, (mm_un hb).trans h4⟩, ⟨y, hy, (mm_un hb).trans h5⟩, ⟨s, hs, (mm_un hb).trans h6⟩⟩

def J_end (A B : sm_M) : Prop := A 10 0 14 = B 11 0 24 ∧ (B 11 0 24 = -1 ∨ ∃ n, n ≤ 9999 ∧ B 11 0 24 = nI n)
theorem p38 {A B : sm_M} (hJ : J_end A B) (nL : Nat) : ∃ r, (∀ d Q, sm_W d 38 0 [vo 10] [] (sm_G0 nL) A Q = Q (vi r) (sm_G0 nL) A) ∧ (∀ d Q, sm_W d 181 0 [vo 11] [] (sm_G0 nL) B Q = Q (vi r) (sm_G0 nL) B) := by
  rcases hJ.2 with e | ⟨n, hn, e⟩
  · exact ⟨-3, fun d Q => by rw [T38, hJ.1, e, mm_bt (by decide)], fun d Q => by rw [T181, e, mm_bt (by decide)]⟩
  · have h1 : ¬ nI n = -1 := fun h => nI_pos (show n < 2 ^ 31 by omega) (by rw [h]; decide)
    exact ⟨nI n, fun d Q => by rw [T38, hJ.1, e, mm_bf h1], fun d Q => by rw [T181, e, mm_bf (nI_pos (by omega))]⟩
