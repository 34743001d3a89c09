/-! ruled, the call -/
theorem m74n {A : sm_M} (d nL : Nat) (o : Option Nat) (o1 o2 o3 : Option sm_V) {x : Int32} (h : x < 0 ∨ 6 < x) (Q : sm_Q) : sm_W (d + 1) 74 18 [o1, o2, vi x, o3] (sm_push (wob o) []) (sm_G0 nL) A Q = Q (vi (-5)) (sm_G0 nL) A := by
  have g : ∀ y : Int32, ¬ y < 0 → ¬ 6 < y → ¬ x = y := by
    rintro y h1 h2 rfl
    rcases h with h | h
    · exact h1 h
    · exact h2 h
  have f : ∀ (f4 i5 : Nat), sm_W (d + 1) 74 18 [o1, o2, vi x, o3] [Sum.inr (Sum.inr (some (f4, i5)))] (sm_G0 nL) A Q = Q (vi (-5)) (sm_G0 nL) A := by
    intro f4 i5
    rw [T74_18, mm_bf (g 0 (by decide) (by decide)), mm_bf (g 1 (by decide) (by decide)), mm_bf (g 2 (by decide) (by decide)), mm_bf (g 3 (by decide) (by decide)), mm_bf (g 4 (by decide) (by decide)), mm_bf (g 5 (by decide) (by decide)), mm_bf (g 6 (by decide) (by decide))]
  cases o with
  | none => exact f 34 0
  | some k => exact f 36 k
theorem p74 {A B : sm_M} (hJ : J_rul A B) (x0 x1 : Int32) (nL : Nat) : ∃ r, (∀ d Q, sm_W (d + 1) 74 0 [vo 10, vi x0, vi x1, none] [] (sm_G0 nL) A Q = Q (vi r) (sm_G0 nL) A) ∧ (∀ d Q, sm_W (d + 2) 208 0 [vo 11, vi x0, vi x1] [] (sm_G0 nL) B Q = Q (vi r) (sm_G0 nL) B) := by
  obtain ⟨n, hn, ea, eb, hK, h0⟩ := hJ
  by_cases a0 : x0 < 0
  · exact ⟨-5, fun d Q => by rw [T74, mm_bt a0], fun d Q => by rw [T208, mm_bt a0, mm_ck mm_zb0]⟩
  by_cases a1 : 9999 < x0
  · exact ⟨-5, fun d Q => by rw [T74, mm_bf a0, mm_bt a1], fun d Q => by rw [T208, mm_bf a0, mm_bt a1, mm_ck mm_zb0]⟩
  obtain ⟨e0, e1, e2, e3, e4, e5, e6⟩ := wA_eq hK h0 x0
  rcases mm_rg x1 6 (by decide) with h | ⟨h0, h1, h2⟩ | ⟨k, hk, rfl, -⟩
  · exact ⟨-5, fun d Q => by rw [T74, mm_bf a0, mm_bf a1, m48e d nL x0 none none hn ea hK, m74n d nL _ _ _ _ (.inl h)], fun d Q => by rw [T208, mm_bf a0, mm_bf a1, mm_ck mm_zb1, mm_bt h]⟩
  · have h1' : (6 : Int32) < x1 := h1
    exact ⟨-5, fun d Q => by rw [T74, mm_bf a0, mm_bf a1, m48e d nL x0 none none hn ea hK, m74n d nL _ _ _ _ (.inr h1')], fun d Q => by rw [T208, mm_bf a0, mm_bf a1, mm_ck mm_zb1, mm_bf h0, mm_bt h1']⟩
  have k7 : k = 0 ∨ k = 1 ∨ k = 2 ∨ k = 3 ∨ k = 4 ∨ k = 5 ∨ k = 6 := by omega
  rcases k7 with rfl | rfl | rfl | rfl | rfl | rfl | rfl
  · exact ⟨wnr (wrule B x0 n), fun d Q => by rw [T74, mm_bf a0, mm_bf a1, m48e d nL x0 none none hn ea hK, m74 d nL _ _ _ _ (x := nI 0) (s := 0) (.inl ⟨rfl, rfl⟩), e0], fun d Q => by rw [T208, mm_bf a0, mm_bf a1, mm_ck mm_zb1, mm_bf (by decide), mm_bf (by decide), mm_bt (by decide), r192e _ nL x0 none none hn eb, sm_push_s, T208_29]⟩
  · exact ⟨wcl B (wrule B x0 n) 0, fun d Q => by rw [T74, mm_bf a0, mm_bf a1, m48e d nL x0 none none hn ea hK, m74 d nL _ _ _ _ (x := nI 1) (s := 2) (.inr (.inl ⟨rfl, rfl⟩)), e1], fun d Q => by rw [T208, mm_bf a0, mm_bf a1, mm_ck mm_zb1, mm_bf (by decide), mm_bf (by decide), mm_bf (by decide), mm_bf (by decide), show nI 1 - 1 = nI 0 from rfl, r191 _ nL x0 (by decide) none hn eb, sm_push_s, T208_45]⟩
  · exact ⟨wcl B (wrule B x0 n) 1, fun d Q => by rw [T74, mm_bf a0, mm_bf a1, m48e d nL x0 none none hn ea hK, m74 d nL _ _ _ _ (x := nI 2) (s := 3) (.inr (.inr (.inl ⟨rfl, rfl⟩))), e2], fun d Q => by rw [T208, mm_bf a0, mm_bf a1, mm_ck mm_zb1, mm_bf (by decide), mm_bf (by decide), mm_bf (by decide), mm_bf (by decide), show nI 2 - 1 = nI 1 from rfl, r191 _ nL x0 (by decide) none hn eb, sm_push_s, T208_45]⟩
  · exact ⟨wcl B (wrule B x0 n) 2, fun d Q => by rw [T74, mm_bf a0, mm_bf a1, m48e d nL x0 none none hn ea hK, m74 d nL _ _ _ _ (x := nI 3) (s := 4) (.inr (.inr (.inr (.inl ⟨rfl, rfl⟩)))), e3], fun d Q => by rw [T208, mm_bf a0, mm_bf a1, mm_ck mm_zb1, mm_bf (by decide), mm_bf (by decide), mm_bf (by decide), mm_bf (by decide), show nI 3 - 1 = nI 2 from rfl, r191 _ nL x0 (by decide) none hn eb, sm_push_s, T208_45]⟩
  · exact ⟨wcl B (wrule B x0 n) 3, fun d Q => by rw [T74, mm_bf a0, mm_bf a1, m48e d nL x0 none none hn ea hK, m74 d nL _ _ _ _ (x := nI 4) (s := 5) (.inr (.inr (.inr (.inr (.inl ⟨rfl, rfl⟩))))), e4], fun d Q => by rw [T208, mm_bf a0, mm_bf a1, mm_ck mm_zb1, mm_bf (by decide), mm_bf (by decide), mm_bf (by decide), mm_bf (by decide), show nI 4 - 1 = nI 3 from rfl, r191 _ nL x0 (by decide) none hn eb, sm_push_s, T208_45]⟩
  · exact ⟨wrk B (wrule B x0 n), fun d Q => by rw [T74, mm_bf a0, mm_bf a1, m48e d nL x0 none none hn ea hK, m74 d nL _ _ _ _ (x := nI 5) (s := 6) (.inr (.inr (.inr (.inr (.inr (.inl ⟨rfl, rfl⟩)))))), e5], fun d Q => by rw [T208, mm_bf a0, mm_bf a1, mm_ck mm_zb1, mm_bf (by decide), mm_bf (by decide), mm_bf (by decide), mm_bt (by decide), mm_bt (by decide), r209 _ nL x0 hn eb, sm_push_s, T208_58]⟩
  · exact ⟨wtl B (wrule B x0 n), fun d Q => by rw [T74, mm_bf a0, mm_bf a1, m48e d nL x0 none none hn ea hK, m74 d nL _ _ _ _ (x := nI 6) (s := 7) (.inr (.inr (.inr (.inr (.inr (.inr ⟨rfl, rfl⟩)))))), e6], fun d Q => by rw [T208, mm_bf a0, mm_bf a1, mm_ck mm_zb1, mm_bf (by decide), mm_bf (by decide), mm_bf (by decide), mm_bt (by decide), mm_bf (by decide), r210 _ nL x0 hn eb, sm_push_s, T208_66]⟩
