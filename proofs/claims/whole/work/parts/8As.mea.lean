/-! the place of a cell in a sheet -/
def wpo (c r q e : Nat) : Option Nat := if c / 8 ≤ e / 8 ∧ e / 8 < c / 8 + r ∧ c % 8 ≤ e % 8 ∧ e % 8 < c % 8 + q then some ((e / 8 - c / 8) * q + (e % 8 - c % 8)) else none
theorem wpo_lt {c r q e p : Nat} (h : wpo c r q e = some p) : p < r * q := by
  unfold wpo at h
  split at h
  · rename_i hh
    cases h
    have h1 : e / 8 - c / 8 + 1 ≤ r := by omega
    have h2 : (e / 8 - c / 8 + 1) * q ≤ r * q := Nat.mul_le_mul_right q h1
    rw [Nat.add_mul, Nat.one_mul] at h2
    omega
  · cases h
theorem wpo_iff {c r q e i : Nat} (hZ : 1 ≤ q ∧ c % 8 + q ≤ 8) (hi : i < r * q) : wce c q i = e ↔ wpo c r q e = some i := by
  obtain ⟨hq, hc⟩ := hZ
  have h1 : i / q < r := Nat.div_lt_of_lt_mul (by rw [Nat.mul_comm]; exact hi)
  have h2 := Nat.mod_lt i (show 0 < q by omega)
  have h3 := Nat.div_add_mod i q
  unfold wce wpo
  constructor
  · intro h
    have e1 : e / 8 = c / 8 + i / q := by omega
    have e2 : e % 8 = c % 8 + i % q := by omega
    rw [if_pos ⟨by omega, by omega, by omega, by omega⟩, e1, e2, Nat.add_sub_cancel_left, Nat.add_sub_cancel_left, Nat.mul_comm, h3]
  · intro h
    split at h
    · rename_i hh
      cases h
      have hb : e % 8 - c % 8 < q := by omega
      have e1 : ((e / 8 - c / 8) * q + (e % 8 - c % 8)) / q = e / 8 - c / 8 := by
        rw [Nat.mul_comm, Nat.mul_add_div (by omega), Nat.div_eq_of_lt hb, Nat.add_zero]
      have e2 : ((e / 8 - c / 8) * q + (e % 8 - c % 8)) % q = e % 8 - c % 8 := by
        rw [Nat.mul_comm, Nat.mul_add_mod, Nat.mod_eq_of_lt hb]
      rw [e1, e2]; omega
    · cases h
theorem m105 {A : sm_M} {k c r q z e : Nat} (nL : Nat) (hS : SA A k c r q z) (hZ : SZ c r q z) (he : e < 48) (d : Nat) (o2 o3 : Option sm_V) (Q : sm_Q) : sm_W (d + 1) 105 0 [some (Sum.inr (Sum.inr (some (23, k)))), vi (nI e), o2, o3] [] (sm_G0 nL) A Q = Q (vi (wnr (wpo c r q e))) (sm_G0 nL) A := by
  obtain ⟨z1, z2, z3, z4, z5, z6, z7, z8, z9⟩ := id hZ
  obtain ⟨s0, s1, s2, s3⟩ := hS
  have d8 : ∀ v, v < 48 → nI v / 8 = nI (v / 8) := fun v hv => pk_div (d := 8) (by omega) (by decide) (by decide)
  have m8 : ∀ v, v < 48 → nI v - nI (v / 8) * 8 = nI (v % 8) := fun v hv => by rw [← d8 v hv]; exact pk_rem (d := 8) (by omega) (by decide) (by decide)
  have e48 : nI e < (48 : Int32) := nI_lt (show e < 48 by omega) (by decide)
  rw [T105, mm_bf (nI_pos (by omega)), mm_bt e48, s0, s1, s2, d8 e he, d8 c z7, m8 e he, m8 c z7]
  unfold wpo
  by_cases h1 : e / 8 < c / 8
  · rw [mm_bt (pk_sneg (by omega) h1), if_neg (by omega)]; rfl
  · rw [pk_sub (show c / 8 ≤ e / 8 by omega), mm_bf (nI_pos (by omega))]
    by_cases h2 : e / 8 - c / 8 < r
    · rw [mm_bt (nI_lt h2 (by omega))]
      by_cases h3 : e % 8 < c % 8
      · rw [mm_bt (pk_sneg (by omega) h3), if_neg (by omega)]; rfl
      · rw [pk_sub (show c % 8 ≤ e % 8 by omega), mm_bf (nI_pos (by omega))]
        by_cases h4 : e % 8 - c % 8 < q
        · rw [mm_bt (nI_lt h4 (by omega)), if_pos ⟨by omega, by omega, by omega, by omega⟩, pk_mul, nI_add]; rfl
        · rw [mm_bf (nI_nlt (by omega) (by omega)), if_neg (by omega)]; rfl
    · rw [mm_bf (nI_nlt (by omega) (by omega)), if_neg (by omega)]; rfl
theorem r229 {B : sm_M} {k c r q z : Nat} (nL : Nat) (hk : k < 16) (s0 : B 76 0 k = nI c) (s1 : B 77 0 k = nI r) (s2 : B 78 0 k = nI q) (hZ : SZ c r q z) (x : Int32) (o : Option Nat) (ho : ∀ i, i < r * q → (nI (wce c q i) = x ↔ o = some i)) (hol : ∀ p, o = some p → p < r * q) (d : Nat) (Q : sm_Q) : ∀ j u, u + j = r * q → (∀ p, o = some p → u ≤ p) → sm_W (d + 1) 229 2 [vo 11, vi (nI k), vi x, vi (nI u)] [] (sm_G0 nL) B Q = Q (vi (wnr o)) (sm_G0 nL) B := by
  obtain ⟨hm, h12, hq1, hq0⟩ := SZ_f hZ
  obtain ⟨z1, z2, z3, z4, z5, z6, z7, z8, z9⟩ := id hZ
  have ki : sm_in (nI k) 16 = true := mm_in hk (by decide)
  have kc : (nI k).toNatClampNeg = k := nI_clamp (by omega)
  intro j
  induction j with
  | zero =>
    intro u hu hp
    have hu' : u = r * q := by omega
    subst hu'
    rw [T229_2]
    simp only [ki, kc, s1, s2, hm, sm_Ck_t]
    rw [mm_bf (nI_nlt (Nat.le_refl _) (by omega))]
    cases o with
    | none => rfl
    | some p => exact absurd (hol p rfl) (by have := hp p rfl; omega)
  | succ j ih =>
    intro u hu hp
    rw [T229_2]
    simp only [ki, kc, s0, s1, s2, hm, hq0, decide_false, Bool.not_false, sm_Ck_t, nI_1]
    rw [mm_bt (nI_lt (by omega) (by omega)), wce_e z3 z4 (by omega)]
    by_cases h : nI (wce c q u) = x
    · rw [mm_bt h, (ho u (by omega)).mp h]; rfl
    · rw [mm_bf h]
      exact ih (u + 1) (by omega) (fun p hp' => by
        have h1 := hp p hp'
        have h2 : p ≠ u := fun e => h ((ho u (by omega)).mpr (by rw [hp', e]))
        omega)
theorem r229e {B : sm_M} {k c r q z e : Nat} (nL : Nat) (hk : k < 16) (s0 : B 76 0 k = nI c) (s1 : B 77 0 k = nI r) (s2 : B 78 0 k = nI q) (hZ : SZ c r q z) (he : e < 48) (d : Nat) (o2 : Option sm_V) (Q : sm_Q) : sm_W (d + 1) 229 0 [vo 11, vi (nI k), vi (nI e), o2] [] (sm_G0 nL) B Q = Q (vi (wnr (wpo c r q e))) (sm_G0 nL) B := by
  rw [T229]
  exact r229 nL hk s0 s1 s2 hZ (nI e) (wpo c r q e) (fun i hi => by
    have l1 := wce_lt hZ.2.2.1 hZ.2.2.2.2.2.2.2.1 hZ.2.2.2.2.2.2.2.2 hi
    rw [nI_eq (by omega) (by omega)]
    exact wpo_iff ⟨hZ.2.2.1, hZ.2.2.2.2.2.2.2.1⟩ hi) (fun p h => wpo_lt h) d Q (r * q) 0 (by omega) (fun p _ => Nat.zero_le _)
theorem r229n {B : sm_M} {k c r q z : Nat} (nL : Nat) (hk : k < 16) (s0 : B 76 0 k = nI c) (s1 : B 77 0 k = nI r) (s2 : B 78 0 k = nI q) (hZ : SZ c r q z) {x : Int32} (hx : x < 0 ∨ 47 < x) (d : Nat) (o2 : Option sm_V) (Q : sm_Q) : sm_W (d + 1) 229 0 [vo 11, vi (nI k), vi x, o2] [] (sm_G0 nL) B Q = Q (vi (-1)) (sm_G0 nL) B := by
  rw [T229]
  exact r229 nL hk s0 s1 s2 hZ x none (fun i hi => by
    have l1 := wce_lt hZ.2.2.1 hZ.2.2.2.2.2.2.2.1 hZ.2.2.2.2.2.2.2.2 hi
    refine ⟨fun e => ?_, fun e => by cases e⟩
    subst e
    rcases hx with h | h
    · exact absurd h (nI_pos (by omega))
    · exact absurd h (nI_nlt (b := wce c q i) (a := 47) (by omega) (by decide))) (fun p h => by cases h) d Q (r * q) 0 (by omega) (fun p h => by cases h)
/-! editions -/
def wle (B : sm_M) (k : Nat) : Nat → Option Nat
  | 0 => none
  | e + 1 => if B 81 0 e = nI k then some e else wle B k e
theorem wle_lt {B : sm_M} {k : Nat} : ∀ {n e : Nat}, wle B k n = some e → e < n
  | 0, e, h => by cases h
  | n + 1, e, h => by
    unfold wle at h
    split at h
    · cases h; exact Nat.lt_succ_self _
    · exact Nat.lt_succ_of_lt (wle_lt h)
def K_edi (A B : sm_M) (S q C e : Nat) : Prop := A 24 e 0 = B 81 0 e ∧ (∃ k, k < S ∧ B 81 0 e = nI k) ∧ A 24 e 2 = B 83 0 e ∧ (∀ i, i < 12 → A 46 e i = B 84 0 (12 * e + i)) ∧ ∃ u c, A 24 e 3 = nI u ∧ B 82 0 e = nI c ∧ u ≤ q ∧ c ≤ C ∧ ∀ j, j < q → (j < u ↔ ¬ B 82 0 e < B 85 0 j)
def J_edi (n : Nat) (A B : sm_M) : Prop := ∃ S E q C, S ≤ 16 ∧ A 10 0 5 = nI S ∧ B 11 0 38 = nI S ∧ E ≤ 60 ∧ A 10 0 7 = nI E ∧ B 11 0 44 = nI E ∧ q ≤ 60 ∧ B 11 0 49 = nI q ∧ C ≤ n ∧ B 11 0 2 = nI C ∧ (∀ e, e < E → K_edi A B S q C e) ∧ (∀ e, E ≤ e → e < 60 → B 83 0 e = 0) ∧ (∀ k, k < S → A 23 k 4 = wnr (wle B k E)) ∧ (∀ k, S ≤ k → k < 16 → A 23 k 4 = -1)
theorem p110 {A B : sm_M} {n : Nat} (hE : J_edi n A B) (x0 : Int32) (nL : Nat) : ∃ r, (∀ d Q, sm_W (d + 1) 110 0 [vo 10, vi x0, none] [] (sm_G0 nL) A Q = Q (vi r) (sm_G0 nL) A) ∧ (∀ d Q, sm_W (d + 2) 232 0 [vo 11, vi x0] [] (sm_G0 nL) B Q = Q (vi r) (sm_G0 nL) B) := by
  obtain ⟨S, E, q, C, h1, h2, h3, h4, ea, eb, h7, h8, h9, h10, hK, -⟩ := hE
  rcases mm_sv x0 E (by omega) with h | ⟨g0, g1, g2⟩ | ⟨e, he, rfl, k0, k1, k2⟩
  · exact ⟨-1, fun d Q => by simp only [T110, h, ↓sm_Br_d, ↓reduceIte, sm_Ck_t, mm_zb0, mm_zb1], fun d Q => by simp only [T232, h, ↓sm_Br_d, ↓reduceIte, sm_Ck_t, mm_zb0, mm_zb1]⟩
  · exact ⟨-1, fun d Q => by simp only [T110, g0, ea, eb, g1, g2, ↓sm_Br_d, ↓reduceIte, sm_Ck_t, mm_zb0, mm_zb1], fun d Q => by simp only [T232, g0, ea, eb, g1, g2, ↓sm_Br_d, ↓reduceIte, sm_Ck_t, mm_zb0, mm_zb1]⟩
  have k60 : nI e < (60 : Int32) := nI_lt (show e < 60 by omega) (by decide)
  have ki : sm_in (nI e) 60 = true := mm_in (by omega) (by decide)
  have kc : (nI e).toNatClampNeg = e := nI_clamp (by omega)
  have e2 := (hK e he).2.2.1
  exact ⟨B 83 0 e, fun d Q => by simp only [T110, k0, ea, eb, k1, k2, k60, ki, kc, e2, ↓sm_Br_d, ↓reduceIte, sm_Ck_t, mm_zb0, mm_zb1], fun d Q => by simp only [T232, k0, ea, eb, k1, k2, k60, ki, kc, e2, ↓sm_Br_d, ↓reduceIte, sm_Ck_t, mm_zb0, mm_zb1]⟩
theorem m109 {A : sm_M} {S e k c r q z : Nat} (nL : Nat) (hS16 : S ≤ 16) (sa : A 10 0 5 = nI S) (hk : k < S) (ek : A 24 e 0 = nI k) (hSA : SA A k c r q z) (hZ : SZ c r q z) {x : Nat} (hx : x < 48) (d : Nat) (Q : sm_Q) (o2 o3 : Option sm_V) : sm_W (d + 2) 109 0 [vo 10, some (Sum.inr (Sum.inr (some (24, e)))), vi (nI x), o2, o3] [] (sm_G0 nL) A Q = Q (vi (match wpo c r q x with | none => -1000000 | some p => A 46 e p)) (sm_G0 nL) A := by
  have k16 : nI k < (16 : Int32) := nI_lt (show k < 16 by omega) (by decide)
  have ki : sm_in (nI k) 16 = true := mm_in (by omega) (by decide)
  have kc : (nI k).toNatClampNeg = k := nI_clamp (by omega)
  rw [T109, ek, mm_bf (nI_pos (by omega)), sa, mm_bt (nI_lt hk (by omega)), mm_bt k16, mm_ck ki, kc, m105 nL hSA hZ hx d, sm_push_s, T109_22]
  cases ho : wpo c r q x with
  | none => rw [mm_bt (show wnr none < 0 from mm_m1)]
  | some p =>
    have hp := wpo_lt ho
    have h12 := hZ.2.2.2.2.1
    have p12 : wnr (some p) < (12 : Int32) := nI_lt (show p < 12 by omega) (by decide)
    rw [mm_bf (show ¬ wnr (some p) < 0 from nI_pos (by omega)), mm_bt p12, mm_ck (show sm_in (wnr (some p)) 12 = true from mm_in (by omega) (by decide)), show (wnr (some p)).toNatClampNeg = p from nI_clamp (by omega)]
theorem p107 {A B : sm_M} {n : Nat} (hH : J_sht A B) (hE : J_edi n A B) (x0 x1 : Int32) (nL : Nat) : ∃ r, (∀ d Q, sm_W (d + 3) 107 0 [vo 10, vi x0, vi x1, none] [] (sm_G0 nL) A Q = Q (vi r) (sm_G0 nL) A) ∧ (∀ d Q, sm_W (d + 2) 230 0 [vo 11, vi x0, vi x1, none] [] (sm_G0 nL) B Q = Q (vi r) (sm_G0 nL) B) := by
  obtain ⟨S', hS16', sa', sb', hKs⟩ := hH
  obtain ⟨S, E, qq, C, h1, h2, h3, h4, ea, eb, h7, h8, h9, h10, hK, -⟩ := hE
  have eS : S' = S := (nI_eq (by omega) (by omega)).mp (sb'.symm.trans h3)
  subst eS
  rcases mm_sv x0 E (by omega) with h | ⟨g0, g1, g2⟩ | ⟨e, he, rfl, k0, k1, k2⟩
  · exact ⟨-1000000, fun d Q => by simp only [T107, h, ↓sm_Br_d, ↓reduceIte, sm_Ck_t, mm_zb0, mm_zb1], fun d Q => by simp only [T230, h, ↓sm_Br_d, ↓reduceIte, sm_Ck_t, mm_zb0, mm_zb1]⟩
  · exact ⟨-1000000, fun d Q => by simp only [T107, g0, ea, eb, g1, g2, ↓sm_Br_d, ↓reduceIte, sm_Ck_t, mm_zb0, mm_zb1], fun d Q => by simp only [T230, g0, ea, eb, g1, g2, ↓sm_Br_d, ↓reduceIte, sm_Ck_t, mm_zb0, mm_zb1]⟩
  have k60 : nI e < (60 : Int32) := nI_lt (show e < 60 by omega) (by decide)
  have ki : sm_in (nI e) 60 = true := mm_in (by omega) (by decide)
  have kc : (nI e).toNatClampNeg = e := nI_clamp (by omega)
  obtain ⟨a0, ⟨k, hk, ek⟩, a2, a46, -⟩ := hK e he
  obtain ⟨c, r, q, z, hK0, hSA, hZ⟩ := K_sht_SA (hKs k hk)
  obtain ⟨b0, b1, b2, b3, -⟩ := id hK0
  have kA : ∀ d Q, sm_W (d + 3) 107 0 [vo 10, vi (nI e), vi x1, none] [] (sm_G0 nL) A Q = sm_W (d + 2) 109 0 [vo 10, some (Sum.inr (Sum.inr (some (24, e)))), vi x1, none, none] [] (sm_G0 nL) A (fun r G1 M1 => sm_W (d + 3) 107 19 [vo 10, vi (nI e), vi x1, some (Sum.inr (Sum.inr (some (24, e))))] (sm_push r []) G1 M1 Q) := fun d Q => by
    simp only [T107, k0, ea, k1, k60, ki, kc, ↓sm_Br_d, ↓reduceIte, sm_Ck_t, mm_zb0, mm_zb1]
  have kB : ∀ d Q, sm_W (d + 2) 230 0 [vo 11, vi (nI e), vi x1, none] [] (sm_G0 nL) B Q = sm_W (d + 1) 229 0 [vo 11, vi (nI k), vi x1, none] [] (sm_G0 nL) B (fun r G1 M1 => sm_W (d + 2) 230 22 [vo 11, vi (nI e), vi x1, none] (sm_push r []) G1 M1 Q) := fun d Q => by
    simp only [T230, k0, eb, k2, ki, kc, ek, ↓sm_Br_d, ↓reduceIte, sm_Ck_t, mm_zb0, mm_zb1]
  have k16 : nI k < (16 : Int32) := nI_lt (show k < 16 by omega) (by decide)
  have kki : sm_in (nI k) 16 = true := mm_in (by omega) (by decide)
  have kkc : (nI k).toNatClampNeg = k := nI_clamp (by omega)
  have out : (x1 < 0 ∨ 47 < x1) → ∃ r, (∀ d Q, sm_W (d + 3) 107 0 [vo 10, vi (nI e), vi x1, none] [] (sm_G0 nL) A Q = Q (vi r) (sm_G0 nL) A) ∧ (∀ d Q, sm_W (d + 2) 230 0 [vo 11, vi (nI e), vi x1, none] [] (sm_G0 nL) B Q = Q (vi r) (sm_G0 nL) B) := fun hx => by
    refine ⟨-1000000, fun d Q => ?_, fun d Q => ?_⟩
    · have h105 : ∀ Q', sm_W (d + 1) 105 0 [some (Sum.inr (Sum.inr (some (23, k)))), vi x1, none, none] [] (sm_G0 nL) A Q' = Q' (vi (-1)) (sm_G0 nL) A := fun Q' => by
        rw [T105]
        rcases hx with hx | hx
        · rw [mm_bt hx]
        · have h0 : ¬ x1 < 0 := fun h => absurd (Int32.lt_trans hx h) (by decide)
          have h48 : ¬ x1 < 48 := mm_gt (n := 47) (by decide) hx h0
          rw [mm_bf h0, mm_bf h48]
      rw [kA, T109, a0, ek, mm_bf (nI_pos (by omega)), sa', mm_bt (nI_lt hk (by omega)), mm_bt k16, mm_ck kki, kkc, h105, sm_push_s, T109_22, mm_bt mm_m1, sm_push_s, T107_19]
    · rw [kB, r229n nL (show k < 16 by omega) b0 b1 b2 hZ hx, sm_push_s, T230_22, mm_bt mm_m1]
  rcases mm_r47 x1 with h | ⟨f0, f1, f2⟩ | ⟨x, hx, rfl, -⟩
  · exact out (.inl h)
  · exact out (.inr f1)
  · refine ⟨match wpo c r q x with | none => -1000000 | some p => A 46 e p, fun d Q => ?_, fun d Q => ?_⟩
    · rw [kA, m109 nL hS16' sa' hk (a0.trans ek) hSA hZ (show x < 48 by omega), sm_push_s, T107_19]
    · rw [kB, r229e nL (show k < 16 by omega) b0 b1 b2 hZ (show x < 48 by omega), sm_push_s, T230_22]
      cases ho : wpo c r q x with
      | none => rw [mm_bt (show wnr none < 0 from mm_m1)]
      | some p =>
        have hp := wpo_lt ho
        have h12 := hZ.2.2.2.2.1
        have e1 : (12 : Int32) * nI e + wnr (some p) = nI (12 * e + p) := by show nI 12 * nI e + nI p = _; rw [pk_mul, nI_add]
        rw [mm_bf (show ¬ wnr (some p) < 0 from nI_pos (by omega)), e1, mm_ck (mm_in (by omega) (by decide)), nI_clamp (by omega), ← a46 p (by omega)]
