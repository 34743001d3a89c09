/-! what a call may change: places by family and slot -/
def Fr (P : Nat → Nat → Bool) (A A' : sm_M) : Prop := ∀ f i k, P f k = false → A' f i k = A f i k
theorem Fr_r (P : Nat → Nat → Bool) (A : sm_M) : Fr P A A := fun _ _ _ _ => rfl
theorem Fr_t {P : Nat → Nat → Bool} {A B C : sm_M} (h : Fr P A B) (g : Fr P B C) : Fr P A C := fun f i k hp => (g f i k hp).trans (h f i k hp)
theorem Fr_w {P P' : Nat → Nat → Bool} {A B : sm_M} (h : Fr P A B) (hp : ∀ f k, P' f k = false → P f k = false) : Fr P' A B := fun f i k hk => h f i k (hp f k hk)
theorem Fr_u {P : Nat → Nat → Bool} {A A' : sm_M} {f i k : Nat} {v : Int32} (h : Fr P A A') (hp : P f k = true) : Fr P A (sm_u A' f i k v) := by
  intro f' i' k' hk
  refine Eq.trans (if_neg (fun hh => ?_)) (h f' i' k' hk)
  rw [hh.1, hh.2.2, hp] at hk; exact absurd hk (by decide)
/-! trace -/
def J_act (A B : sm_M) : Prop := ∃ n, n ≤ 20 ∧ A 20 0 1 = nI n ∧ B 11 0 65 = nI n ∧ ∀ i, i < n → A 43 0 i = B 95 0 i
theorem p152 {A B : sm_M} (hJ : J_act A B) (x0 : Int32) (nL : Nat) : ∃ r, (∀ d Q, sm_W (d + 1) 152 0 [vo 10, vi x0] [] (sm_G0 nL) A Q = Q (vi r) (sm_G0 nL) A) ∧ (∀ d Q, sm_W d 267 0 [vo 11, vi x0] [] (sm_G0 nL) B Q = Q (vi r) (sm_G0 nL) B) := by
  obtain ⟨n, hn, ea, eb, hv⟩ := hJ
  rcases mm_sv x0 n (by omega) with h | ⟨h0, h1, h2⟩ | ⟨i, hi, rfl, v0, v1, v2⟩
  · exact ⟨-1, fun d Q => by simp only [T152, h, ↓sm_Br_d, ↓reduceIte, sm_Ck_t, mm_zb0, mm_zb1], fun d Q => by simp only [T267, h, ↓sm_Br_d, ↓reduceIte, sm_Ck_t, mm_zb0, mm_zb1]⟩
  · exact ⟨-1, fun d Q => by simp only [T152, h0, ea, eb, h1, ↓sm_Br_d, ↓reduceIte, sm_Ck_t, mm_zb0, mm_zb1], fun d Q => by simp only [T267, h0, ea, eb, h1, ↓sm_Br_d, ↓reduceIte, sm_Ck_t, mm_zb0, mm_zb1]⟩
  have i20 : nI i < (20 : Int32) := nI_lt (show i < 20 by omega) (by decide)
  have ii : sm_in (nI i) 20 = true := mm_in (by omega) (by decide)
  have ic : (nI i).toNatClampNeg = i := nI_clamp (by omega)
  have e := hv i hi
  exact ⟨B 95 0 i, fun d Q => by simp only [T152, v0, ea, eb, v1, i20, ii, ic, e, ↓sm_Br_d, ↓reduceIte, sm_Ck_t, mm_zb0, mm_zb1], fun d Q => by simp only [T267, v0, ea, eb, v1, i20, ii, ic, e, ↓sm_Br_d, ↓reduceIte, sm_Ck_t, mm_zb0, mm_zb1]⟩
/-! of -/
theorem p56 {A B : sm_M} (hG : J_thg A B) (x0 x1 : Int32) (nL : Nat) : ∃ r, (∀ d Q, sm_W (d + 1) 56 0 [vo 10, vi x0, vi x1, none] [] (sm_G0 nL) A Q = Q (vi r) (sm_G0 nL) A) ∧ (∀ d Q, sm_W (d + 2) 195 0 [vo 11, vi x0, vi x1] [] (sm_G0 nL) B Q = Q (vi r) (sm_G0 nL) B) := by
  obtain ⟨t, s, ht, hs, ta, tb, es, tn, hK, -⟩ := hG
  rcases mm_sv x0 t (by omega) with h | ⟨h0, h1, h2⟩ | ⟨i, hi, rfl, v0, v1, v2⟩
  · exact ⟨-1000000, fun d Q => by rw [T56, m42n ta (.inl h), sm_push_s, T56_8a], fun d Q => by rw [T195, mm_bt h, mm_ck mm_zb0]⟩
  · exact ⟨-1000000, fun d Q => by rw [T56, m42n ta (.inr ⟨h0, h1⟩), sm_push_s, T56_8a], fun d Q => by rw [T195, mm_bf h0, tb, mm_bt h2, mm_ck mm_zb0]⟩
  obtain ⟨k1, k2, k3, k4, k5, k6, -⟩ := hK i hi
  have ei : sm_in (nI i) 90 = true := mm_in (by omega) (by decide)
  have ec : (nI i).toNatClampNeg = i := nI_clamp (by omega)
  refine ⟨if x1 = 0 then B 59 0 i else if x1 = 1 then B 60 0 i else if x1 = 2 then B 61 0 i else if x1 = 3 then B 62 0 i else if x1 = 4 then B 63 0 i else if x1 = 5 then B 64 0 i else -1000000, fun d Q => ?_, fun d Q => ?_⟩
  · rw [T56, m42s ta ht hi, sm_push_s, T56_8, k1, k2, k3, k4, k5, k6]; simp only [mm_q Q]
  · rw [T195, mm_bf v0, tb, mm_bf v2, mm_ck mm_zb1]; simp only [mm_ck ei, ec, mm_q Q]
/-! feed -/
def J_txt (A B : sm_M) : Prop := ∃ n, n ≤ 120 ∧ A 13 0 4 = nI n ∧ B 11 0 26 = nI n ∧ ∀ i, i < n → B 69 0 i = (A 35 0 i).toInt8.toInt32 ∧ ∃ v, v < 256 ∧ A 35 0 i = nI v
def PA_txt (f k : Nat) : Bool := Nat.beq f 35 || (Nat.beq f 13 && Nat.beq k 4)
def PB_txt (f k : Nat) : Bool := Nat.beq f 69 || (Nat.beq f 11 && Nat.beq k 26)
theorem mm_and255 (v : Int32) : (v &&& 255).toInt8.toInt32 = v.toInt8.toInt32 := by
  rw [Int32.toInt8_and, show (255 : Int32).toInt8 = -1 from by decide, Int8.and_neg_one]
theorem mm_dec (m : Nat) : nI m + (-1) = nI m - 1 := by rw [Int32.sub_eq_add_neg]
theorem fd_loop (x0 : Int32) (nL : Nat) (o1 : Option sm_V) : ∀ (m len : Nat) (A B : sm_M), len + m ≤ 120 → m ≤ 4 → A 13 0 4 = nI len → B 11 0 26 = nI len → (∀ i, i < len → B 69 0 i = (A 35 0 i).toInt8.toInt32 ∧ ∃ v, v < 256 ∧ A 35 0 i = nI v) →
    ∃ A' B', (∀ d Q, sm_W d 58 18 [vo 13, vi x0, o1, vi (nI m - 1)] [] (sm_G0 nL) A Q = Q (vi (nI (len + m))) (sm_G0 nL) A') ∧ (∀ d Q, sm_W (d + 1) 196 30 [vo 11, vi x0, o1, vi (nI m - 1)] [] (sm_G0 nL) B Q = Q (vi (nI (len + m))) (sm_G0 nL) B') ∧ J_txt A' B' ∧ Fr PA_txt A A' ∧ Fr PB_txt B B' := by
  intro m
  induction m with
  | zero =>
    intro len A B h1 h2 ea eb hv
    refine ⟨A, B, fun d Q => ?_, fun d Q => ?_, ⟨len, h1, ea, eb, hv⟩, Fr_r _ _, Fr_r _ _⟩
    · rw [T58_18, mm_bt (by decide), ea]; rfl
    · rw [T196_30, mm_bt (by decide), eb]; rfl
  | succ m ih =>
    intro len A B h1 h2 ea eb hv
    have e1 : nI (m + 1) - 1 = nI m := nI_pred m
    have m0 : ¬ nI m < 0 := nI_pos (by omega)
    have l1 : nI len < (120 : Int32) := nI_lt (show len < 120 by omega) (by decide)
    have li : sm_in (nI len) 120 = true := mm_in (by omega) (by decide)
    have lc : (nI len).toNatClampNeg = len := nI_clamp (by omega)
    obtain ⟨A', B', g1, g2, g3, g4, g5⟩ := ih (len + 1) (sm_u (sm_u A 35 0 len ((x0 >>> ((8 * nI m) &&& 31)) &&& 255)) 13 0 4 (nI (len + 1))) (sm_u (sm_u B 69 0 len ((x0 >>> ((8 * nI m) &&& 31)).toInt8.toInt32)) 11 0 26 (nI (len + 1))) (by omega) (by omega) rfl rfl (fun i hi => by
      by_cases h : i = len
      · subst h
        refine ⟨?_, (x0 >>> ((8 * nI m) &&& 31)).toBitVec.toNat % 2 ^ 8, Nat.mod_lt _ (by decide), ?_⟩
        · show sm_u B 69 0 i _ 69 0 i = (sm_u A 35 0 i _ 35 0 i).toInt8.toInt32
          rw [mm_up, mm_up, mm_and255]
        · show sm_u A 35 0 i _ 35 0 i = _
          rw [mm_up]; exact pk_and _ 8 (by decide)
      · show sm_u B 69 0 len _ 69 0 i = (sm_u A 35 0 len _ 35 0 i).toInt8.toInt32 ∧ ∃ v, v < 256 ∧ sm_u A 35 0 len _ 35 0 i = nI v
        rw [mm_un (fun hh => h hh.2), mm_un (fun hh => h hh.2)]
        exact hv i (by omega))
    refine ⟨A', B', fun d Q => ?_, fun d Q => ?_, g3, Fr_t (Fr_u (Fr_u (Fr_r _ _) rfl) rfl) g4, Fr_t (Fr_u (Fr_u (Fr_r _ _) rfl) rfl) g5⟩
    · rw [e1, T58_18, mm_bf m0, ea, mm_bt l1, mm_ck li, lc, nI_1, mm_dec, g1]; rw [show len + 1 + m = len + (m + 1) by omega]
    · rw [e1, T196_30, mm_bf m0, eb, mm_ck li, lc, nI_1, mm_dec, pk_vb, g2]; rw [show len + 1 + m = len + (m + 1) by omega]
theorem p57 {A B : sm_M} (hJ : J_txt A B) (x0 x1 : Int32) (nL : Nat) : ∃ r A' B', (∀ d Q, sm_W (d + 1) 57 0 [vo 10, vi x0, vi x1] [] (sm_G0 nL) A Q = Q (vi r) (sm_G0 nL) A') ∧ (∀ d Q, sm_W (d + 1) 196 0 [vo 11, vi x0, vi x1, none] [] (sm_G0 nL) B Q = Q (vi r) (sm_G0 nL) B') ∧ J_txt A' B' ∧ Fr PA_txt A A' ∧ Fr PB_txt B B' := by
  obtain ⟨n, hn, ea, eb, hv⟩ := hJ
  have hz : J_txt A B ∧ Fr PA_txt A A ∧ Fr PB_txt B B := ⟨⟨n, hn, ea, eb, hv⟩, Fr_r _ _, Fr_r _ _⟩
  rcases mm_rg x1 4 (by decide) with h | ⟨h0, h1, h2⟩ | ⟨m, hm, rfl, c0, c1, -⟩
  · exact ⟨-2, A, B, fun d Q => by rw [T57, mm_bt h], fun d Q => by rw [T196, mm_bt h], hz⟩
  · have h1' : (4 : Int32) < x1 := h1
    exact ⟨-2, A, B, fun d Q => by rw [T57, mm_bf h0, mm_bt h1'], fun d Q => by rw [T196, mm_bf h0, mm_bt h1'], hz⟩
  have c1' : ¬ (4 : Int32) < nI m := c1
  by_cases hf : 120 < n + m
  · have h4 : (120 : Int32) < nI n + nI m := by rw [nI_add]; exact nI_lt hf (by omega)
    exact ⟨-4, A, B, fun d Q => by rw [T57, mm_bf c0, mm_bf c1', T58, ea, mm_bt h4, sm_push_s, T57_21], fun d Q => by rw [T196, mm_bf c0, mm_bf c1', eb, mm_bt h4], hz⟩
  · have h4 : ¬ (120 : Int32) < nI n + nI m := by rw [nI_add]; exact nI_nlt (show n + m ≤ 120 by omega) (by decide)
    obtain ⟨A', B', g1, g2, g3⟩ := fd_loop x0 nL (vi (nI m)) m n A B (by omega) hm ea eb hv
    refine ⟨nI (n + m), A', B', fun d Q => ?_, fun d Q => ?_, g3⟩
    · rw [T57, mm_bf c0, mm_bf c1', T58, ea, mm_bf h4, g1, sm_push_s, T57_21]
    · rw [T196, mm_bf c0, mm_bf c1', eb, mm_bf h4, g2]
