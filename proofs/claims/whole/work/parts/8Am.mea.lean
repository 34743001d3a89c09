/-! sheets -/
def K_sh0 (B : sm_M) (k c r q z : Nat) : Prop := B 76 0 k = nI c ∧ B 77 0 k = nI r ∧ B 78 0 k = nI q ∧ B 79 0 k = nI z ∧ 1 ≤ r ∧ r ≤ 4 ∧ 1 ≤ q ∧ q ≤ 4 ∧ r * q ≤ 12 ∧ z ≤ 3 ∧ c < 48 ∧ c % 8 + q ≤ 8 ∧ c / 8 + r ≤ 6
def K_sht (A B : sm_M) (k : Nat) : Prop := A 23 k 0 = B 76 0 k ∧ A 23 k 1 = B 77 0 k ∧ A 23 k 2 = B 78 0 k ∧ A 23 k 3 = B 79 0 k ∧ ∃ c r q z, K_sh0 B k c r q z
def J_sht (A B : sm_M) : Prop := ∃ S, S ≤ 16 ∧ A 10 0 5 = nI S ∧ B 11 0 38 = nI S ∧ ∀ k, k < S → K_sht A B k
def PA_sht (f k : Nat) : Bool := (Nat.beq f 23 && Nat.ble k 3) || (Nat.beq f 10 && Nat.beq k 5)
def PB_sht (f k : Nat) : Bool := Nat.beq f 76 || Nat.beq f 77 || Nat.beq f 78 || Nat.beq f 79 || (Nat.beq f 11 && Nat.beq k 38)
theorem p90 {A B : sm_M} (hJ : J_sht A B) (x0 x1 x2 x3 : Int32) (nL : Nat) : ∃ r A' B', (∀ d Q, sm_W (d + 1) 90 0 [vo 10, vi x0, vi x1, vi x2, vi x3] [] (sm_G0 nL) A Q = Q (vi r) (sm_G0 nL) A') ∧ (∀ d Q, sm_W (d + 2) 218 0 [vo 11, vi x0, vi x1, vi x2, vi x3] [] (sm_G0 nL) B Q = Q (vi r) (sm_G0 nL) B') ∧ ((A' = A ∧ B' = B) ∨ (Fr PA_sht A A' ∧ Fr PB_sht B B' ∧ J_sht A' B' ∧ ∃ S, S < 16 ∧ B 11 0 38 = nI S ∧ B' 11 0 38 = nI (S + 1))) := by
  obtain ⟨S, hS, ea, eb, hK⟩ := hJ
  rcases mm_r47 x0 with h | ⟨h0, h1, h2⟩ | ⟨c, hc, rfl, c0, c1, c2, c3, c4⟩
  · exact ⟨-2, A, B, fun d Q => by simp only [T90, h, ↓sm_Br_d, ↓reduceIte, sm_Ck_t, mm_zb0, mm_zb1], fun d Q => by simp only [T218, h, ↓sm_Br_d, ↓reduceIte, sm_Ck_t, mm_zb0, mm_zb1], .inl ⟨rfl, rfl⟩⟩
  · exact ⟨-2, A, B, fun d Q => by simp only [T90, h0, h1, h2, ↓sm_Br_d, ↓reduceIte, sm_Ck_t, mm_zb0, mm_zb1], fun d Q => by simp only [T218, h0, h1, h2, ↓sm_Br_d, ↓reduceIte, sm_Ck_t, mm_zb0, mm_zb1], .inl ⟨rfl, rfl⟩⟩
  by_cases r0 : x1 < 1
  · exact ⟨-2, A, B, fun d Q => by simp only [T90, c0, c1, c2, r0, ↓sm_Br_d, ↓reduceIte, sm_Ck_t, mm_zb0, mm_zb1], fun d Q => by simp only [T218, c0, c1, c2, r0, ↓sm_Br_d, ↓reduceIte, sm_Ck_t, mm_zb0, mm_zb1], .inl ⟨rfl, rfl⟩⟩
  by_cases r1 : 4 < x1
  · exact ⟨-2, A, B, fun d Q => by simp only [T90, c0, c1, c2, r0, r1, ↓sm_Br_d, ↓reduceIte, sm_Ck_t, mm_zb0, mm_zb1], fun d Q => by simp only [T218, c0, c1, c2, r0, r1, ↓sm_Br_d, ↓reduceIte, sm_Ck_t, mm_zb0, mm_zb1], .inl ⟨rfl, rfl⟩⟩
  by_cases q0 : x2 < 1
  · exact ⟨-2, A, B, fun d Q => by simp only [T90, c0, c1, c2, r0, r1, q0, ↓sm_Br_d, ↓reduceIte, sm_Ck_t, mm_zb0, mm_zb1], fun d Q => by simp only [T218, c0, c1, c2, r0, r1, q0, ↓sm_Br_d, ↓reduceIte, sm_Ck_t, mm_zb0, mm_zb1], .inl ⟨rfl, rfl⟩⟩
  by_cases q1 : 4 < x2
  · exact ⟨-2, A, B, fun d Q => by simp only [T90, c0, c1, c2, r0, r1, q0, q1, ↓sm_Br_d, ↓reduceIte, sm_Ck_t, mm_zb0, mm_zb1], fun d Q => by simp only [T218, c0, c1, c2, r0, r1, q0, q1, ↓sm_Br_d, ↓reduceIte, sm_Ck_t, mm_zb0, mm_zb1], .inl ⟨rfl, rfl⟩⟩
  obtain ⟨r, hr, rfl, -⟩ := (mm_rg x1 4 (by decide)).resolve_left (fun h => r0 (Int32.lt_trans h (by decide))) |>.resolve_left (fun h => r1 h.2.1)
  obtain ⟨q, hq, rfl, -⟩ := (mm_rg x2 4 (by decide)).resolve_left (fun h => q0 (Int32.lt_trans h (by decide))) |>.resolve_left (fun h => q1 h.2.1)
  have hr1 : 1 ≤ r := by
    rcases Nat.eq_zero_or_pos r with rfl | h
    · exact absurd (by decide) r0
    · exact h
  have hq1 : 1 ≤ q := by
    rcases Nat.eq_zero_or_pos q with rfl | h
    · exact absurd (by decide) q0
    · exact h
  have hm : nI r * nI q = nI (r * q) := pk_mul r q
  have hrq : r * q ≤ 16 := Nat.mul_le_mul hr hq
  have hdiv : nI c / 8 = nI (c / 8) := pk_div (d := 8) (by omega) (by decide) (by decide)
  have hmod : nI c - nI (c / 8) * 8 = nI (c % 8) := by rw [← hdiv]; exact pk_rem (d := 8) (by omega) (by decide) (by decide)
  have e12 : ((12 : Int32) < nI (r * q)) = (12 < r * q) := propext (nI_ltI (a := 12) (by decide) (by omega))
  have e6 : ((6 : Int32) < nI (c / 8) + nI r) = (6 < c / 8 + r) := by rw [nI_add]; exact propext (nI_ltI (a := 6) (by decide) (by omega))
  have e8 : ((8 : Int32) < nI (c % 8) + nI q) = (8 < c % 8 + q) := by rw [nI_add]; exact propext (nI_ltI (a := 8) (by decide) (by omega))
  have e48 : (nI c + 8 * (nI r - 1) < 48) = (c / 8 + r ≤ 6) := by
    rw [show (1 : Int32) = nI 1 from rfl, pk_sub hr1, show (8 : Int32) = nI 8 from rfl, pk_mul, nI_add]
    apply propext
    rw [show (48 : Int32) = nI 48 from rfl, nI_ltI (by omega) (by decide)]
    omega
  by_cases z0 : x3 < 0
  · by_cases g12 : 12 < r * q
    · exact ⟨-2, A, B, fun d Q => by simp only [T90, c0, c1, c2, r0, r1, q0, q1, hm, e12, g12, z0, ↓sm_Br_d, ↓reduceIte, sm_Ck_t, mm_zb0, mm_zb1], fun d Q => by simp only [T218, c0, c1, c2, r0, r1, q0, q1, hm, e12, g12, z0, ↓sm_Br_d, ↓reduceIte, sm_Ck_t, mm_zb0, mm_zb1], .inl ⟨rfl, rfl⟩⟩
    · exact ⟨-2, A, B, fun d Q => by simp only [T90, c0, c1, c2, r0, r1, q0, q1, hm, e12, g12, z0, ↓sm_Br_d, ↓reduceIte, sm_Ck_t, mm_zb0, mm_zb1], fun d Q => by simp only [T218, c0, c1, c2, r0, r1, q0, q1, hm, e12, g12, z0, ↓sm_Br_d, ↓reduceIte, sm_Ck_t, mm_zb0, mm_zb1], .inl ⟨rfl, rfl⟩⟩
  by_cases z1 : 3 < x3
  · by_cases g12 : 12 < r * q
    · exact ⟨-2, A, B, fun d Q => by simp only [T90, c0, c1, c2, r0, r1, q0, q1, hm, e12, g12, z0, z1, ↓sm_Br_d, ↓reduceIte, sm_Ck_t, mm_zb0, mm_zb1], fun d Q => by simp only [T218, c0, c1, c2, r0, r1, q0, q1, hm, e12, g12, z0, z1, ↓sm_Br_d, ↓reduceIte, sm_Ck_t, mm_zb0, mm_zb1], .inl ⟨rfl, rfl⟩⟩
    · exact ⟨-2, A, B, fun d Q => by simp only [T90, c0, c1, c2, r0, r1, q0, q1, hm, e12, g12, z0, z1, ↓sm_Br_d, ↓reduceIte, sm_Ck_t, mm_zb0, mm_zb1], fun d Q => by simp only [T218, c0, c1, c2, r0, r1, q0, q1, hm, e12, g12, z0, z1, ↓sm_Br_d, ↓reduceIte, sm_Ck_t, mm_zb0, mm_zb1], .inl ⟨rfl, rfl⟩⟩
  by_cases g12 : 12 < r * q
  · exact ⟨-2, A, B, fun d Q => by simp only [T90, c0, c1, c2, r0, r1, q0, q1, hm, e12, g12, z0, z1, ↓sm_Br_d, ↓reduceIte, sm_Ck_t, mm_zb0, mm_zb1], fun d Q => by simp only [T218, c0, c1, c2, r0, r1, q0, q1, hm, e12, g12, z0, z1, ↓sm_Br_d, ↓reduceIte, sm_Ck_t, mm_zb0, mm_zb1], .inl ⟨rfl, rfl⟩⟩
  by_cases g8 : 8 < c % 8 + q
  · by_cases g6 : 6 < c / 8 + r
    · exact ⟨-2, A, B, fun d Q => by simp only [T90, c0, c1, c2, r0, r1, q0, q1, hm, hmod, hdiv, e6, e8, e12, g12, g6, g8, z0, z1, ↓sm_Br_d, ↓reduceIte, sm_Ck_t, mm_zb0, mm_zb1], fun d Q => by simp only [T218, c0, c1, c2, r0, r1, q0, q1, hm, hmod, hdiv, e6, e8, e12, g12, g6, g8, z0, z1, ↓sm_Br_d, ↓reduceIte, sm_Ck_t, mm_zb0, mm_zb1], .inl ⟨rfl, rfl⟩⟩
    · exact ⟨-2, A, B, fun d Q => by simp only [T90, c0, c1, c2, r0, r1, q0, q1, hm, hmod, hdiv, e6, e8, e12, g12, g6, g8, z0, z1, ↓sm_Br_d, ↓reduceIte, sm_Ck_t, mm_zb0, mm_zb1], fun d Q => by simp only [T218, c0, c1, c2, r0, r1, q0, q1, hm, hmod, hdiv, e6, e8, e12, g12, g6, g8, z0, z1, ↓sm_Br_d, ↓reduceIte, sm_Ck_t, mm_zb0, mm_zb1], .inl ⟨rfl, rfl⟩⟩
  by_cases g6 : 6 < c / 8 + r
  · have g6' : ¬ c / 8 + r ≤ 6 := by omega
    exact ⟨-2, A, B, fun d Q => by simp only [T90, c0, c1, c2, r0, r1, q0, q1, hm, hmod, e48, hdiv, e6, e8, e12, g12, g6, g6', g8, z0, z1, ↓sm_Br_d, ↓reduceIte, sm_Ck_t, mm_zb0, mm_zb1], fun d Q => by simp only [T218, c0, c1, c2, r0, r1, q0, q1, hm, hmod, e48, hdiv, e6, e8, e12, g12, g6, g6', g8, z0, z1, ↓sm_Br_d, ↓reduceIte, sm_Ck_t, mm_zb0, mm_zb1], .inl ⟨rfl, rfl⟩⟩
  have g6' : c / 8 + r ≤ 6 := by omega
  obtain ⟨z, hz, rfl, -⟩ := (mm_rg x3 3 (by decide)).resolve_left z0 |>.resolve_left (fun h => z1 h.2.1)
  by_cases hf : S = 16
  · subst hf
    have f1 : ¬ nI 16 < (16 : Int32) := by decide
    have f2 : (nI 16 = (16 : Int32)) = True := eq_true rfl
    exact ⟨-4, A, B, fun d Q => by simp only [T90, c0, c1, c2, r0, r1, q0, q1, hm, hmod, e48, hdiv, e6, e8, e12, g12, g6, g6', g8, z0, z1, ea, eb, f1, f2, ↓sm_Br_d, ↓reduceIte, sm_Ck_t, mm_zb0, mm_zb1], fun d Q => by simp only [T218, c0, c1, c2, r0, r1, q0, q1, hm, hmod, e48, hdiv, e6, e8, e12, g12, g6, g6', g8, z0, z1, ea, eb, f1, f2, ↓sm_Br_d, ↓reduceIte, sm_Ck_t, mm_zb0, mm_zb1], .inl ⟨rfl, rfl⟩⟩
  have n1 : nI S < (16 : Int32) := nI_lt (show S < 16 by omega) (by decide)
  have n2 : ¬ nI S = (16 : Int32) := fun h => hf ((nI_eq (by omega) (by decide)).mp (show nI S = nI 16 from h))
  have si : sm_in (nI S) 16 = true := mm_in (by omega) (by decide)
  have sc : (nI S).toNatClampNeg = S := nI_clamp (by omega)
  have u5 : ∀ a b e f : Int32, sm_u (sm_u (sm_u (sm_u A 23 S 0 a) 23 S 1 b) 23 S 2 e) 23 S 3 f 10 0 5 = nI S := fun a b e f => ea
  refine ⟨nI S, sm_u (sm_u (sm_u (sm_u (sm_u A 23 S 0 (nI c)) 23 S 1 (nI r)) 23 S 2 (nI q)) 23 S 3 (nI z)) 10 0 5 (nI (S + 1)), sm_u (sm_u (sm_u (sm_u (sm_u B 76 0 S (nI c)) 77 0 S (nI r)) 78 0 S (nI q)) 79 0 S (nI z)) 11 0 38 (nI (S + 1)), fun d Q => ?_, fun d Q => ?_, .inr ⟨Fr_u (Fr_u (Fr_u (Fr_u (Fr_u (Fr_r _ _) rfl) rfl) rfl) rfl) rfl, Fr_u (Fr_u (Fr_u (Fr_u (Fr_u (Fr_r _ _) rfl) rfl) rfl) rfl) rfl, ⟨S + 1, by omega, rfl, rfl, fun k hk => ?_⟩, S, by omega, eb, rfl⟩⟩
  · simp only [T90, c0, c2, r0, r1, q0, q1, hm, hdiv, hmod, e48, e8, e12, g12, g6', g8, z0, z1, ea, n1, si, sc, u5, nI_1, nI_pred, ↓sm_Br_d, ↓reduceIte, sm_Ck_t, mm_zb0, mm_zb1]
  · simp only [T218, c0, c1, r0, r1, q0, q1, hm, hmod, hdiv, e6, e8, e12, g12, g6, g8, z0, z1, eb, n2, si, sc, nI_1, nI_pred, ↓sm_Br_d, ↓reduceIte, sm_Ck_t, mm_zb0, mm_zb1]
  · by_cases hkS : k = S
    · subst hkS
      have b6 : sm_u (sm_u (sm_u (sm_u (sm_u B 76 0 k (nI c)) 77 0 k (nI r)) 78 0 k (nI q)) 79 0 k (nI z)) 11 0 38 (nI (k + 1)) 76 0 k = nI c := by simp [sm_u]
      have b7 : sm_u (sm_u (sm_u (sm_u (sm_u B 76 0 k (nI c)) 77 0 k (nI r)) 78 0 k (nI q)) 79 0 k (nI z)) 11 0 38 (nI (k + 1)) 77 0 k = nI r := by simp [sm_u]
      have b8 : sm_u (sm_u (sm_u (sm_u (sm_u B 76 0 k (nI c)) 77 0 k (nI r)) 78 0 k (nI q)) 79 0 k (nI z)) 11 0 38 (nI (k + 1)) 78 0 k = nI q := by simp [sm_u]
      have b9 : sm_u (sm_u (sm_u (sm_u (sm_u B 76 0 k (nI c)) 77 0 k (nI r)) 78 0 k (nI q)) 79 0 k (nI z)) 11 0 38 (nI (k + 1)) 79 0 k = nI z := by simp [sm_u]
      refine ⟨by rw [b6]; simp [sm_u], by rw [b7]; simp [sm_u], by rw [b8]; simp [sm_u], by rw [b9]; simp [sm_u], c, r, q, z, b6, b7, b8, b9, hr1, hr, hq1, hq, by omega, hz, by omega, by omega, by omega⟩
    · have hK' := hK k (by omega)
      have a : ∀ j, sm_u (sm_u (sm_u (sm_u (sm_u A 23 S 0 (nI c)) 23 S 1 (nI r)) 23 S 2 (nI q)) 23 S 3 (nI z)) 10 0 5 (nI (S + 1)) 23 k j = A 23 k j := fun j => by simp [sm_u, hkS]
      have b : ∀ f, f ≠ 11 → sm_u (sm_u (sm_u (sm_u (sm_u B 76 0 S (nI c)) 77 0 S (nI r)) 78 0 S (nI q)) 79 0 S (nI z)) 11 0 38 (nI (S + 1)) f 0 k = B f 0 k := fun f hf => by simp [sm_u, hkS, hf]
      unfold K_sht K_sh0 at hK' ⊢
      simp only [a, b 76 (by decide), b 77 (by decide), b 78 (by decide), b 79 (by decide)]
      exact hK'
