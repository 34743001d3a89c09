/-! a thing more, as tell and the acts have it -/
theorem addA {M : sm_M} {t : Nat} (ta : M 14 0 3 = nI t) (tn : t < 90 → M 42 t 0 = nI t) (ht : t ≤ 90) (x0 x1 x2 x3 : Int32) (nL : Nat) (Q : sm_Q) : (sm_Br (decide ((M 14 0 3) < 90)) (sm_Ck (sm_in (M 14 0 3) 90) (Q (some (Sum.inl ((sm_u (sm_u (sm_u (sm_u (sm_u (sm_u M 42 (M 14 0 3).toNatClampNeg 1 x0) 42 (M 14 0 3).toNatClampNeg 3 x1) 42 (M 14 0 3).toNatClampNeg 2 x2) 42 (M 14 0 3).toNatClampNeg 4 x3) 42 (M 14 0 3).toNatClampNeg 5 (M 10 0 0)) 42 (M 14 0 3).toNatClampNeg 7 (M 14 0 5)) 42 (M 14 0 3).toNatClampNeg 0))) (sm_G0 nL) (sm_u (sm_u (sm_u (sm_u (sm_u (sm_u (sm_u M 42 (M 14 0 3).toNatClampNeg 1 x0) 42 (M 14 0 3).toNatClampNeg 3 x1) 42 (M 14 0 3).toNatClampNeg 2 x2) 42 (M 14 0 3).toNatClampNeg 4 x3) 42 (M 14 0 3).toNatClampNeg 5 (M 10 0 0)) 42 (M 14 0 3).toNatClampNeg 7 (M 14 0 5)) 14 0 3 ((M 14 0 3) + 1)))) (Q (some (Sum.inl (-4 : Int32))) (sm_G0 nL) M)) = if t = 90 then Q (vi (-4)) (sm_G0 nL) M else Q (vi (nI t)) (sm_G0 nL) (aA M t x0 x1 x2 x3) := by
  by_cases hf : t = 90
  · subst hf; rw [if_pos rfl, ta, mm_bf (by decide)]
  · have hr : sm_u (sm_u (sm_u (sm_u (sm_u (sm_u M 42 t 1 x0) 42 t 3 x1) 42 t 2 x2) 42 t 4 x3) 42 t 5 (M 10 0 0)) 42 t 7 (M 14 0 5) 42 t 0 = nI t := by rw [← tn (by omega)]; simp [sm_u]
    have n1 : nI t < (90 : Int32) := nI_lt (show t < 90 by omega) (by decide)
    rw [if_neg hf, ta, mm_bt n1, mm_ck (mm_in (by omega) (by decide)), nI_clamp (by omega), nI_1, hr]; rfl
theorem addB {M : sm_M} {t : Nat} (tb : M 11 0 13 = nI t) (ht : t ≤ 90) (x0 x1 x2 x3 : Int32) (nL : Nat) (Q : sm_Q) : (sm_Br (decide ((M 11 0 13) = 90)) (Q (some (Sum.inl (-4))) (sm_G0 nL) M) (sm_Ck (sm_in ((sm_u M 11 0 2 ((M 11 0 2) + 1)) 11 0 13) 90) (sm_Ck (sm_in ((sm_u M 11 0 2 ((M 11 0 2) + 1)) 11 0 13) 90) (sm_Ck (sm_in ((sm_u M 11 0 2 ((M 11 0 2) + 1)) 11 0 13) 90) (sm_Ck (sm_in ((sm_u M 11 0 2 ((M 11 0 2) + 1)) 11 0 13) 90) (sm_Ck (sm_in ((sm_u M 11 0 2 ((M 11 0 2) + 1)) 11 0 13) 90) (sm_Ck (sm_in ((sm_u M 11 0 2 ((M 11 0 2) + 1)) 11 0 13) 90) (sm_Ck (sm_in ((sm_u M 11 0 2 ((M 11 0 2) + 1)) 11 0 13) 90) (sm_Ck (sm_in ((sm_u M 11 0 2 ((M 11 0 2) + 1)) 11 0 13) 90) (sm_Ck (sm_in ((sm_u M 11 0 2 ((M 11 0 2) + 1)) 11 0 13) 90) (Q (some (Sum.inl ((sm_u M 11 0 2 ((M 11 0 2) + 1)) 11 0 13))) (sm_G0 nL) (sm_u (sm_u (sm_u (sm_u (sm_u (sm_u (sm_u (sm_u (sm_u (sm_u (sm_u M 11 0 2 ((M 11 0 2) + 1)) 59 0 (((sm_u M 11 0 2 ((M 11 0 2) + 1)) 11 0 13).toNatClampNeg) x0) 60 0 (((sm_u M 11 0 2 ((M 11 0 2) + 1)) 11 0 13).toNatClampNeg) x2) 61 0 (((sm_u M 11 0 2 ((M 11 0 2) + 1)) 11 0 13).toNatClampNeg) x1) 62 0 (((sm_u M 11 0 2 ((M 11 0 2) + 1)) 11 0 13).toNatClampNeg) x3) 63 0 (((sm_u M 11 0 2 ((M 11 0 2) + 1)) 11 0 13).toNatClampNeg) ((sm_u M 11 0 2 ((M 11 0 2) + 1)) 11 0 1)) 64 0 (((sm_u M 11 0 2 ((M 11 0 2) + 1)) 11 0 13).toNatClampNeg) (-1)) 65 0 (((sm_u M 11 0 2 ((M 11 0 2) + 1)) 11 0 13).toNatClampNeg) ((sm_u M 11 0 2 ((M 11 0 2) + 1)) 11 0 2)) 67 0 (((sm_u M 11 0 2 ((M 11 0 2) + 1)) 11 0 13).toNatClampNeg) (-1)) 68 0 (((sm_u M 11 0 2 ((M 11 0 2) + 1)) 11 0 13).toNatClampNeg) (-1)) 11 0 13 (((sm_u M 11 0 2 ((M 11 0 2) + 1)) 11 0 13) + 1))))))))))))) = if t = 90 then Q (vi (-4)) (sm_G0 nL) M else Q (vi (nI t)) (sm_G0 nL) (aB M t x0 x1 x2 x3) := by
  rw [show sm_u M 11 0 2 ((M 11 0 2) + 1) 11 0 13 = nI t from tb, tb]
  by_cases hf : t = 90
  · subst hf; rw [if_pos rfl, mm_bt (by decide)]
  · have n2 : ¬ nI t = (90 : Int32) := fun h => hf ((nI_eq (by omega) (by decide)).mp (show nI t = nI 90 from h))
    have ti : sm_in (nI t) 90 = true := mm_in (by omega) (by decide)
    rw [if_neg hf, mm_bf n2, nI_clamp (by omega)]
    simp only [mm_ck ti, nI_1]
    rfl

theorem p39 {A B : sm_M} (hS : J_srv A B) (hT : J_thg A B) (x0 x1 x2 x3 : Int32) (nL : Nat) : ∃ r A' B', (∀ d Q, sm_W (d + 1) 39 0 [vo 10, vi x0, vi x1, vi x2, vi x3] [] (sm_G0 nL) A Q = Q (vi r) (sm_G0 nL) A') ∧ (∀ d Q, sm_W (d + 2) 182 0 [vo 11, vi x0, vi x1, vi x2, vi x3] [] (sm_G0 nL) B Q = Q (vi r) (sm_G0 nL) B') ∧ ((A' = A ∧ B' = B) ∨ Add A B A' B') := by
  obtain ⟨se, s, hs, es, -⟩ := hS
  have sa : A 14 0 1 = nI s := se.trans es
  obtain ⟨t, s', ht, -, ta, tb, es', tn, -⟩ := hT
  rcases mm_sv x1 s (by omega) with h | ⟨h0, h1, h2⟩ | ⟨v, hv, rfl, v0, v1, v2⟩
  · exact ⟨-1, A, B, fun d Q => by rw [T39, mm_bt h], fun d Q => by rw [T182, mm_bt h, mm_ck mm_zb0], .inl ⟨rfl, rfl⟩⟩
  · exact ⟨-1, A, B, fun d Q => by rw [T39, mm_bf h0, sa, mm_bf h1], fun d Q => by rw [T182, mm_bf h0, es, mm_bt h2, mm_ck mm_zb0], .inl ⟨rfl, rfl⟩⟩
  have v3 : nI v < (12 : Int32) := nI_lt (show v < 12 by omega) (by decide)
  have v4 : sm_in (nI v) 12 = true := mm_in (by omega) (by decide)
  rcases mm_rg x2 47 (by decide) with h | ⟨h0, h1, h2⟩ | ⟨c, hc, rfl, c0, c1, c2, c3, c4⟩
  · exact ⟨-1, A, B, fun d Q => by rw [T39, mm_bf v0, sa, mm_bt v1, mm_bt v3, mm_ck v4, mm_bt h], fun d Q => by rw [T182, mm_bf v0, es, mm_bf v2, mm_ck mm_zb1, mm_bt h, mm_ck mm_zb0], .inl ⟨rfl, rfl⟩⟩
  · have h1' : (47 : Int32) < x2 := h1
    have h2' : ¬ x2 < (48 : Int32) := h2
    exact ⟨-1, A, B, fun d Q => by rw [T39, mm_bf v0, sa, mm_bt v1, mm_bt v3, mm_ck v4, mm_bf h0, mm_bf h2'], fun d Q => by rw [T182, mm_bf v0, es, mm_bf v2, mm_ck mm_zb1, mm_bf h0, mm_bt h1', mm_ck mm_zb0], .inl ⟨rfl, rfl⟩⟩
  have c1' : ¬ (47 : Int32) < nI c := c1
  have c2' : nI c < (48 : Int32) := c2
  have fin : ∀ (k : Nat) (ft : Int32), 1 ≤ k → k ≤ 6 → (¬ ft < -99 ∧ ¬ 999 < ft) → (∀ d Q, sm_W (d + 1) 39 0 [vo 10, vi (nI k), vi (nI v), vi (nI c), vi ft] [] (sm_G0 nL) A Q = if t = 90 then Q (vi (-4)) (sm_G0 nL) A else Q (vi (nI t)) (sm_G0 nL) (aA A t (nI k) (nI v) (nI c) ft)) → (∀ d Q, sm_W (d + 2) 182 0 [vo 11, vi (nI k), vi (nI v), vi (nI c), vi ft] [] (sm_G0 nL) B Q = if t = 90 then Q (vi (-4)) (sm_G0 nL) B else Q (vi (nI t)) (sm_G0 nL) (aB B t (nI k) (nI v) (nI c) ft)) → ∃ r A' B', (∀ d Q, sm_W (d + 1) 39 0 [vo 10, vi (nI k), vi (nI v), vi (nI c), vi ft] [] (sm_G0 nL) A Q = Q (vi r) (sm_G0 nL) A') ∧ (∀ d Q, sm_W (d + 2) 182 0 [vo 11, vi (nI k), vi (nI v), vi (nI c), vi ft] [] (sm_G0 nL) B Q = Q (vi r) (sm_G0 nL) B') ∧ ((A' = A ∧ B' = B) ∨ Add A B A' B') := by
    intro k ft hk1 hk hf h1 h2
    by_cases h90 : t = 90
    · exact ⟨-4, A, B, fun d Q => (h1 d Q).trans (if_pos h90), fun d Q => (h2 d Q).trans (if_pos h90), .inl ⟨rfl, rfl⟩⟩
    · exact ⟨nI t, _, _, fun d Q => (h1 d Q).trans (if_neg h90), fun d Q => (h2 d Q).trans (if_neg h90), .inr ⟨t, s, k, v, c, ft, rfl, rfl, tb, by omega, es, hs, hk1, hk, hv, by omega, hf⟩⟩
  rcases mm_rg x0 5 (by decide) with h | ⟨h0, h1, h2⟩ | ⟨k, hk, rfl, -⟩
  · have k2 : ¬ x0 = 2 := fun e => absurd h (by rw [e]; decide)
    have k3 : ¬ x0 = 3 := fun e => absurd h (by rw [e]; decide)
    have k4 : ¬ x0 = 4 := fun e => absurd h (by rw [e]; decide)
    have k5 : ¬ x0 = 5 := fun e => absurd h (by rw [e]; decide)
    have kl : x0 < 2 := Int32.lt_trans h (by decide)
    exact ⟨-2, A, B, fun d Q => by rw [T39, mm_bf v0, sa, mm_bt v1, mm_bt v3, mm_ck v4, mm_bf c0, mm_bt c2', mm_bf k4, mm_bf k2, mm_bf k3, mm_bf k5], fun d Q => by rw [T182, mm_bf v0, es, mm_bf v2, mm_ck mm_zb1, mm_bf c0, mm_bf c1', mm_ck mm_zb1, mm_bt kl], .inl ⟨rfl, rfl⟩⟩
  · have h1' : (5 : Int32) < x0 := h1
    have k2 : ¬ x0 = 2 := fun e => absurd h1' (by rw [e]; decide)
    have k3 : ¬ x0 = 3 := fun e => absurd h1' (by rw [e]; decide)
    have k4 : ¬ x0 = 4 := fun e => absurd h1' (by rw [e]; decide)
    have k5 : ¬ x0 = 5 := fun e => absurd h1' (by rw [e]; decide)
    have kl : ¬ x0 < 2 := fun e => absurd (Int32.lt_trans h1' e) (by decide)
    exact ⟨-2, A, B, fun d Q => by rw [T39, mm_bf v0, sa, mm_bt v1, mm_bt v3, mm_ck v4, mm_bf c0, mm_bt c2', mm_bf k4, mm_bf k2, mm_bf k3, mm_bf k5], fun d Q => by rw [T182, mm_bf v0, es, mm_bf v2, mm_ck mm_zb1, mm_bf c0, mm_bf c1', mm_ck mm_zb1, mm_bf kl, mm_bt h1'], .inl ⟨rfl, rfl⟩⟩
  have k6 : k = 0 ∨ k = 1 ∨ k = 2 ∨ k = 3 ∨ k = 4 ∨ k = 5 := by omega
  rcases k6 with rfl | rfl | rfl | rfl | rfl | rfl
  · exact ⟨-2, A, B, fun d Q => by rw [T39, mm_bf v0, sa, mm_bt v1, mm_bt v3, mm_ck v4, mm_bf c0, mm_bt c2', mm_bf (by decide), mm_bf (by decide), mm_bf (by decide), mm_bf (by decide)], fun d Q => by rw [T182, mm_bf v0, es, mm_bf v2, mm_ck mm_zb1, mm_bf c0, mm_bf c1', mm_ck mm_zb1, mm_bt (by decide)], .inl ⟨rfl, rfl⟩⟩
  · exact ⟨-2, A, B, fun d Q => by rw [T39, mm_bf v0, sa, mm_bt v1, mm_bt v3, mm_ck v4, mm_bf c0, mm_bt c2', mm_bf (by decide), mm_bf (by decide), mm_bf (by decide), mm_bf (by decide)], fun d Q => by rw [T182, mm_bf v0, es, mm_bf v2, mm_ck mm_zb1, mm_bf c0, mm_bf c1', mm_ck mm_zb1, mm_bt (by decide)], .inl ⟨rfl, rfl⟩⟩
  · by_cases g0 : x3 < -99
    · exact ⟨-2, A, B, fun d Q => by rw [T39, mm_bf v0, sa, mm_bt v1, mm_bt v3, mm_ck v4, mm_bf c0, mm_bt c2', mm_bf (by decide), mm_bt (by decide), mm_bf (by decide), mm_bt g0], fun d Q => by rw [T182, mm_bf v0, es, mm_bf v2, mm_ck mm_zb1, mm_bf c0, mm_bf c1', mm_ck mm_zb1, mm_bf (by decide), mm_bf (by decide), mm_bt g0, mm_ck mm_zb0], .inl ⟨rfl, rfl⟩⟩
    by_cases g1 : 999 < x3
    · exact ⟨-2, A, B, fun d Q => by rw [T39, mm_bf v0, sa, mm_bt v1, mm_bt v3, mm_ck v4, mm_bf c0, mm_bt c2', mm_bf (by decide), mm_bt (by decide), mm_bf (by decide), mm_bf g0, mm_bt g1], fun d Q => by rw [T182, mm_bf v0, es, mm_bf v2, mm_ck mm_zb1, mm_bf c0, mm_bf c1', mm_ck mm_zb1, mm_bf (by decide), mm_bf (by decide), mm_bf g0, mm_bt g1, mm_ck mm_zb0], .inl ⟨rfl, rfl⟩⟩
    exact fin 2 x3 (by decide) (by decide) ⟨g0, g1⟩ (fun d Q => by rw [T39, mm_bf v0, sa, mm_bt v1, mm_bt v3, mm_ck v4, mm_bf c0, mm_bt c2', mm_bf (by decide), mm_bt (by decide), mm_bf (by decide), mm_bf g0, mm_bf g1, addA ta (tn t) ht]) (fun d Q => by rw [T182, mm_bf v0, es, mm_bf v2, mm_ck mm_zb1, mm_bf c0, mm_bf c1', mm_ck mm_zb1, mm_bf (by decide), mm_bf (by decide), mm_bf g0, mm_bf g1, mm_ck mm_zb1, mm_bf (by decide), addB tb ht])
  · by_cases g0 : x3 < -99
    · exact ⟨-2, A, B, fun d Q => by rw [T39, mm_bf v0, sa, mm_bt v1, mm_bt v3, mm_ck v4, mm_bf c0, mm_bt c2', mm_bf (by decide), mm_bf (by decide), mm_bt (by decide), mm_bf (by decide), mm_bt g0], fun d Q => by rw [T182, mm_bf v0, es, mm_bf v2, mm_ck mm_zb1, mm_bf c0, mm_bf c1', mm_ck mm_zb1, mm_bf (by decide), mm_bf (by decide), mm_bt g0, mm_ck mm_zb0], .inl ⟨rfl, rfl⟩⟩
    by_cases g1 : 999 < x3
    · exact ⟨-2, A, B, fun d Q => by rw [T39, mm_bf v0, sa, mm_bt v1, mm_bt v3, mm_ck v4, mm_bf c0, mm_bt c2', mm_bf (by decide), mm_bf (by decide), mm_bt (by decide), mm_bf (by decide), mm_bf g0, mm_bt g1], fun d Q => by rw [T182, mm_bf v0, es, mm_bf v2, mm_ck mm_zb1, mm_bf c0, mm_bf c1', mm_ck mm_zb1, mm_bf (by decide), mm_bf (by decide), mm_bf g0, mm_bt g1, mm_ck mm_zb0], .inl ⟨rfl, rfl⟩⟩
    exact fin 3 x3 (by decide) (by decide) ⟨g0, g1⟩ (fun d Q => by rw [T39, mm_bf v0, sa, mm_bt v1, mm_bt v3, mm_ck v4, mm_bf c0, mm_bt c2', mm_bf (by decide), mm_bf (by decide), mm_bt (by decide), mm_bf (by decide), mm_bf g0, mm_bf g1, addA ta (tn t) ht]) (fun d Q => by rw [T182, mm_bf v0, es, mm_bf v2, mm_ck mm_zb1, mm_bf c0, mm_bf c1', mm_ck mm_zb1, mm_bf (by decide), mm_bf (by decide), mm_bf g0, mm_bf g1, mm_ck mm_zb1, mm_bf (by decide), addB tb ht])
  · by_cases g0 : x3 < -99
    · have z : ¬ x3 = 0 := fun e => absurd g0 (by rw [e]; decide)
      exact ⟨-2, A, B, fun d Q => by rw [T39, mm_bf v0, sa, mm_bt v1, mm_bt v3, mm_ck v4, mm_bf c0, mm_bt c2', mm_bt (by decide), mm_bt (by decide), mm_bf z], fun d Q => by rw [T182, mm_bf v0, es, mm_bf v2, mm_ck mm_zb1, mm_bf c0, mm_bf c1', mm_ck mm_zb1, mm_bf (by decide), mm_bf (by decide), mm_bt g0, mm_ck mm_zb0], .inl ⟨rfl, rfl⟩⟩
    by_cases g1 : 999 < x3
    · have z : ¬ x3 = 0 := fun e => absurd g1 (by rw [e]; decide)
      exact ⟨-2, A, B, fun d Q => by rw [T39, mm_bf v0, sa, mm_bt v1, mm_bt v3, mm_ck v4, mm_bf c0, mm_bt c2', mm_bt (by decide), mm_bt (by decide), mm_bf z], fun d Q => by rw [T182, mm_bf v0, es, mm_bf v2, mm_ck mm_zb1, mm_bf c0, mm_bf c1', mm_ck mm_zb1, mm_bf (by decide), mm_bf (by decide), mm_bf g0, mm_bt g1, mm_ck mm_zb0], .inl ⟨rfl, rfl⟩⟩
    by_cases z : x3 = 0
    · exact fin 4 x3 (by decide) (by decide) ⟨g0, g1⟩ (fun d Q => by rw [T39, mm_bf v0, sa, mm_bt v1, mm_bt v3, mm_ck v4, mm_bf c0, mm_bt c2', mm_bt (by decide), mm_bt (by decide), mm_bt z, addA ta (tn t) ht]) (fun d Q => by rw [T182, mm_bf v0, es, mm_bf v2, mm_ck mm_zb1, mm_bf c0, mm_bf c1', mm_ck mm_zb1, mm_bf (by decide), mm_bf (by decide), mm_bf g0, mm_bf g1, mm_ck mm_zb1, mm_bt (by decide), mm_bt z, addB tb ht])
    · exact ⟨-2, A, B, fun d Q => by rw [T39, mm_bf v0, sa, mm_bt v1, mm_bt v3, mm_ck v4, mm_bf c0, mm_bt c2', mm_bt (by decide), mm_bt (by decide), mm_bf z], fun d Q => by rw [T182, mm_bf v0, es, mm_bf v2, mm_ck mm_zb1, mm_bf c0, mm_bf c1', mm_ck mm_zb1, mm_bf (by decide), mm_bf (by decide), mm_bf g0, mm_bf g1, mm_ck mm_zb1, mm_bt (by decide), mm_bf z], .inl ⟨rfl, rfl⟩⟩
  · by_cases g0 : x3 < -99
    · exact ⟨-2, A, B, fun d Q => by rw [T39, mm_bf v0, sa, mm_bt v1, mm_bt v3, mm_ck v4, mm_bf c0, mm_bt c2', mm_bf (by decide), mm_bf (by decide), mm_bf (by decide), mm_bt (by decide), mm_bf (by decide), mm_bt g0], fun d Q => by rw [T182, mm_bf v0, es, mm_bf v2, mm_ck mm_zb1, mm_bf c0, mm_bf c1', mm_ck mm_zb1, mm_bf (by decide), mm_bf (by decide), mm_bt g0, mm_ck mm_zb0], .inl ⟨rfl, rfl⟩⟩
    by_cases g1 : 999 < x3
    · exact ⟨-2, A, B, fun d Q => by rw [T39, mm_bf v0, sa, mm_bt v1, mm_bt v3, mm_ck v4, mm_bf c0, mm_bt c2', mm_bf (by decide), mm_bf (by decide), mm_bf (by decide), mm_bt (by decide), mm_bf (by decide), mm_bf g0, mm_bt g1], fun d Q => by rw [T182, mm_bf v0, es, mm_bf v2, mm_ck mm_zb1, mm_bf c0, mm_bf c1', mm_ck mm_zb1, mm_bf (by decide), mm_bf (by decide), mm_bf g0, mm_bt g1, mm_ck mm_zb0], .inl ⟨rfl, rfl⟩⟩
    exact fin 5 x3 (by decide) (by decide) ⟨g0, g1⟩ (fun d Q => by rw [T39, mm_bf v0, sa, mm_bt v1, mm_bt v3, mm_ck v4, mm_bf c0, mm_bt c2', mm_bf (by decide), mm_bf (by decide), mm_bf (by decide), mm_bt (by decide), mm_bf (by decide), mm_bf g0, mm_bf g1, addA ta (tn t) ht]) (fun d Q => by rw [T182, mm_bf v0, es, mm_bf v2, mm_ck mm_zb1, mm_bf c0, mm_bf c1', mm_ck mm_zb1, mm_bf (by decide), mm_bf (by decide), mm_bf g0, mm_bf g1, mm_ck mm_zb1, mm_bf (by decide), addB tb ht])
