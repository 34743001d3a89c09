/-! taken -/
def J_cst (A : sm_M) : Prop := ∀ f k, 1 ≤ f → f ≤ 4 → k < 7 → A f 0 k = sq_tb f k
def wsh (k x : Int32) : Int32 := if x = 0 then 1 else if k = x then 1 else if x = 1 then (if k = 2 then 1 else if k = 3 then 1 else if k = 5 then 1 else 0) else if x = 2 then (if k = 3 then 1 else if k = 5 then 1 else 0) else 0
set_option maxRecDepth 20000 in
theorem wsh_b : ∀ k, k < 7 → ∀ x, x < 7 → (((sq_tb 4 k >>> (nI x &&& 31)) &&& 1 = 1) ↔ ¬ wsh (nI k) (nI x) = 0) := by decide
theorem r260 (d : Nat) (x0 x1 : Int32) (M : sm_M) (G : sm_G) (Q : sm_Q) : sm_W d 260 0 [vi x0, vi x1] [] G M Q = Q (vi (wsh x0 x1)) G M := by
  rw [T260]; simp only [mm_q Q]; rfl
theorem p154 {A B : sm_M} (hG : J_thg A B) (hc : J_cst A) (x0 x1 : Int32) (nL : Nat) : ∃ r, (∀ d Q, sm_W (d + 2) 154 0 [vo 10, vi x0, vi x1, none] [] (sm_G0 nL) A Q = Q (vi r) (sm_G0 nL) A) ∧ (∀ d Q, sm_W (d + 2) 268 0 [vo 11, vi x0, vi x1] [] (sm_G0 nL) B Q = Q (vi r) (sm_G0 nL) B) := by
  obtain ⟨t, s, ht, hs, ta, tb, es, tn, hK, -⟩ := hG
  rcases mm_rg x1 6 (by decide) with h | ⟨h0, h1, h2⟩ | ⟨w, hw, rfl, w0, w1, -⟩
  · exact ⟨-2, fun d Q => by rw [T154, mm_bt h], fun d Q => by rw [T268, mm_bt h]⟩
  · have h1' : (6 : Int32) < x1 := h1
    exact ⟨-2, fun d Q => by rw [T154, mm_bf h0, mm_bt h1'], fun d Q => by rw [T268, mm_bf h0, mm_bt h1']⟩
  have w1' : ¬ (6 : Int32) < nI w := w1
  rcases mm_sv x0 t (by omega) with h | ⟨h0, h1, h2⟩ | ⟨i, hi, rfl, v0, v1, v2⟩
  · exact ⟨-11, fun d Q => by rw [T154, mm_bf w0, mm_bf w1', m42n ta (.inl h), sm_push_s, T154_21a], fun d Q => by rw [T268, mm_bf w0, mm_bf w1', mm_bt h, mm_ck mm_zb0]⟩
  · exact ⟨-11, fun d Q => by rw [T154, mm_bf w0, mm_bf w1', m42n ta (.inr ⟨h0, h1⟩), sm_push_s, T154_21a], fun d Q => by rw [T268, mm_bf w0, mm_bf w1', mm_bf h0, tb, mm_bt h2, mm_ck mm_zb0]⟩
  obtain ⟨k1, k2, k3, k4, k5, k6, ⟨k, hk1, hk5, ek⟩, -⟩ := hK i hi
  have ei : sm_in (nI i) 90 = true := mm_in (by omega) (by decide)
  have ec : (nI i).toNatClampNeg = i := nI_clamp (by omega)
  have kk0 : ¬ nI k < 0 := nI_pos (by omega)
  have kk7 : nI k < Int32.ofNat 7 := nI_lt (show k < 7 by omega) (by decide)
  have kki : sm_in (nI k) 7 = true := mm_in (by omega) (by decide)
  have kkc : (nI k).toNatClampNeg = k := nI_clamp (by omega)
  have hb := wsh_b k (by omega) w (by omega)
  by_cases hz : wsh (nI k) (nI w) = 0
  · have hn : ¬ ((sq_tb 4 k >>> (nI w &&& 31)) &&& 1 = 1) := fun h => hb.mp h hz
    exact ⟨-12, fun d Q => by rw [T154, mm_bf w0, mm_bf w1', m42s ta ht hi, sm_push_s, T154_21, k1, ek, mm_bf kk0, mm_bt kk7, mm_ck kki, kkc, hc 4 k (by decide) (by decide) (by omega), mm_bf hn], fun d Q => by rw [T268, mm_bf w0, mm_bf w1', mm_bf v0, tb, mm_bf v2, mm_ck mm_zb1, mm_ck ei, ec, ek, r260, sm_push_s, T268_34, mm_bt hz]⟩
  · exact ⟨nI k, fun d Q => by rw [T154, mm_bf w0, mm_bf w1', m42s ta ht hi, sm_push_s, T154_21, k1, ek, mm_bf kk0, mm_bt kk7, mm_ck kki, kkc, hc 4 k (by decide) (by decide) (by omega), mm_bt (hb.mpr hz)], fun d Q => by rw [T268, mm_bf w0, mm_bf w1', mm_bf v0, tb, mm_bf v2, mm_ck mm_zb1, mm_ck ei, ec, ek, r260, sm_push_s, T268_34, mm_bf hz, mm_ck ei, ec, ek]⟩
