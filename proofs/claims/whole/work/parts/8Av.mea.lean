/-! copies -/
def J_cop (A B : sm_M) : Prop := ∃ P E, P ≤ 24 ∧ A 10 0 9 = nI P ∧ B 11 0 52 = nI P ∧ E ≤ 60 ∧ B 11 0 44 = nI E ∧ ∀ c, c < P → A 25 c 0 = B 87 0 c ∧ A 25 c 1 = B 88 0 c ∧ (∃ e, e < E ∧ B 87 0 c = nI e) ∧ ∃ y, y ≤ 9999 ∧ B 88 0 c = nI y
def PA_cop (f k : Nat) : Bool := (Nat.beq f 25 && Nat.ble k 1) || (Nat.beq f 10 && Nat.beq k 9)
def PB_cop (f k : Nat) : Bool := Nat.beq f 87 || Nat.beq f 88 || (Nat.beq f 11 && Nat.beq k 52)
theorem r239 {B : sm_M} (nL : Nat) {k P : Nat} (hP : P ≤ 24) (hk : k < 16) (eP : B 11 0 52 = nI P) (d : Nat) (Q : sm_Q) : ∀ n, n ≤ 60 → sm_W (d + 2) 239 17 [vo 11, vi (nI k), vi (nI n - 1)] [] (sm_G0 nL) B Q = match wle B k n with
    | none => Q (vi (-3)) (sm_G0 nL) B
    | some e => if P = 24 then Q (vi (-4)) (sm_G0 nL) B else Q (vi (nI P)) (sm_G0 nL) (sm_u (sm_u (sm_u B 87 0 P (nI e)) 88 0 P (B 11 0 1)) 11 0 52 (nI (P + 1))) := by
  intro n
  induction n with
  | zero =>
    intro _
    rw [T239_17, mm_bt (show nI 0 - 1 < 0 by decide), mm_bt (show nI 0 - 1 < 0 by decide)]; rfl
  | succ n ih =>
    intro hn
    have h3 := ih (by omega)
    have n0 : ¬ nI n < 0 := nI_pos (by omega)
    have ni : sm_in (nI n) 60 = true := mm_in (by omega) (by decide)
    have nc : (nI n).toNatClampNeg = n := nI_clamp (by omega)
    have hw : wle B k (n + 1) = if B 81 0 n = nI k then some n else wle B k n := rfl
    rw [nI_pred, T239_17, mm_bf n0, mm_ck ni, nc, hw, mm_dec]
    by_cases h : B 81 0 n = nI k
    · rw [mm_bt h, mm_bf n0, if_pos h, eP]
      by_cases hf : P = 24
      · subst hf; rw [mm_bt (by decide)]; simp
      · have p2 : ¬ nI P = (24 : Int32) := fun h => hf ((nI_eq (by omega) (by decide)).mp (show nI P = nI 24 from h))
        have pi : sm_in (nI P) 24 = true := mm_in (by omega) (by decide)
        rw [mm_bf p2, mm_ck pi, mm_ck pi, nI_clamp (by omega), nI_1, nI_pred]; simp [hf]
    · rw [mm_bf h, if_neg h]; exact h3
theorem p118 {A B : sm_M} {n : Nat} (hD : J_day A B) (hE : J_edi n A B) (hP : J_cop A B) (x0 : Int32) (nL : Nat) : ∃ r A' B', (∀ d Q, sm_W (d + 1) 118 0 [vo 10, vi x0, none] [] (sm_G0 nL) A Q = Q (vi r) (sm_G0 nL) A') ∧ (∀ d Q, sm_W (d + 2) 239 0 [vo 11, vi x0, none] [] (sm_G0 nL) B Q = Q (vi r) (sm_G0 nL) B') ∧ ((A' = A ∧ B' = B) ∨ (Fr PA_cop A A' ∧ Fr PB_cop B B' ∧ J_cop A' B')) := by
  obtain ⟨dA, y, hy, dB⟩ := hD
  obtain ⟨S, E, qn, C, e1, e2, e3, e4, Ea, Eb, e7, e8, e9, e10, hKE, hE0, hEl, hEn⟩ := hE
  obtain ⟨P, E', p1, pa, pb, p4, p5, hK⟩ := hP
  have eE : E' = E := (nI_eq (by omega) (by omega)).mp (p5.symm.trans Eb)
  subst eE
  rcases mm_sv x0 S (by omega) with h | ⟨g0, g1, g2⟩ | ⟨k, hk, rfl, k0, k1, k2⟩
  · exact ⟨-1, A, B, fun d Q => by simp only [T118, h, ↓sm_Br_d, ↓reduceIte, sm_Ck_t, mm_zb0, mm_zb1], fun d Q => by simp only [T239, h, ↓sm_Br_d, ↓reduceIte, sm_Ck_t, mm_zb0, mm_zb1], .inl ⟨rfl, rfl⟩⟩
  · exact ⟨-1, A, B, fun d Q => by simp only [T118, g0, e2, e3, g1, g2, ↓sm_Br_d, ↓reduceIte, sm_Ck_t, mm_zb0, mm_zb1], fun d Q => by simp only [T239, g0, e2, e3, g1, g2, ↓sm_Br_d, ↓reduceIte, sm_Ck_t, mm_zb0, mm_zb1], .inl ⟨rfl, rfl⟩⟩
  have k16 : nI k < (16 : Int32) := nI_lt (show k < 16 by omega) (by decide)
  have ki : sm_in (nI k) 16 = true := mm_in (by omega) (by decide)
  have kc : (nI k).toNatClampNeg = k := nI_clamp (by omega)
  have ek := hEl k hk
  have kB : ∀ d Q, sm_W (d + 2) 239 0 [vo 11, vi (nI k), none] [] (sm_G0 nL) B Q = _ := fun d Q => by
    simp only [T239, k0, e3, k2, Eb, ↓sm_Br_d, ↓reduceIte, sm_Ck_t, mm_zb0, mm_zb1]
    exact r239 nL p1 (show k < 16 by omega) pb d Q E' (by omega)
  cases hw : wle B k E' with
  | none =>
    rw [hw] at ek kB
    have m1 : (wnr none < 0) = True := eq_true mm_m1
    exact ⟨-3, A, B, fun d Q => by simp only [T118, k0, e2, k1, k16, ki, kc, ek, m1, ↓sm_Br_d, ↓reduceIte, sm_Ck_t, mm_zb0, mm_zb1], fun d Q => kB d Q, .inl ⟨rfl, rfl⟩⟩
  | some e =>
    rw [hw] at ek kB
    have he := wle_lt hw
    have m1 : ¬ wnr (some e) < 0 := nI_pos (by omega)
    by_cases hf : P = 24
    · subst hf
      have f1 : ¬ nI 24 < (24 : Int32) := by decide
      exact ⟨-4, A, B, fun d Q => by simp only [T118, k0, e2, k1, k16, ki, kc, ek, m1, pa, f1, ↓sm_Br_d, ↓reduceIte, sm_Ck_t, mm_zb0, mm_zb1], fun d Q => kB d Q, .inl ⟨rfl, rfl⟩⟩
    have f1 : nI P < (24 : Int32) := nI_lt (show P < 24 by omega) (by decide)
    have pi : sm_in (nI P) 24 = true := mm_in (by omega) (by decide)
    have pc : (nI P).toNatClampNeg = P := nI_clamp (by omega)
    have u9 : ∀ a b : Int32, sm_u (sm_u A 25 P 0 a) 25 P 1 b 10 0 9 = nI P := fun a b => pa
    refine ⟨nI P, sm_u (sm_u (sm_u A 25 P 0 (nI e)) 25 P 1 (nI y)) 10 0 9 (nI (P + 1)), sm_u (sm_u (sm_u B 87 0 P (nI e)) 88 0 P (nI y)) 11 0 52 (nI (P + 1)), fun d Q => ?_, fun d Q => ?_, .inr ⟨Fr_u (Fr_u (Fr_u (Fr_r _ _) rfl) rfl) rfl, Fr_u (Fr_u (Fr_u (Fr_r _ _) rfl) rfl) rfl, P + 1, E', by omega, rfl, rfl, p4, p5, fun c hc => ?_⟩⟩
    · simp only [T118, k0, e2, k1, k16, ki, kc, ek, m1, pa, f1, pi, pc, u9, nI_1, nI_pred, dA, dB, ↓sm_Br_d, ↓reduceIte, sm_Ck_t, mm_zb0, mm_zb1]; rfl
    · refine (kB d Q).trans ?_
      simp only [hf, ↓reduceIte, dB]
    · by_cases hcP : c = P
      · subst hcP
        have b7 : sm_u (sm_u (sm_u B 87 0 c (nI e)) 88 0 c (nI y)) 11 0 52 (nI (c + 1)) 87 0 c = nI e := by simp [sm_u]
        have b8 : sm_u (sm_u (sm_u B 87 0 c (nI e)) 88 0 c (nI y)) 11 0 52 (nI (c + 1)) 88 0 c = nI y := by simp [sm_u]
        exact ⟨by rw [b7]; simp [sm_u], by rw [b8]; simp [sm_u], ⟨e, he, b7⟩, y, hy, b8⟩
      · have a : ∀ j, sm_u (sm_u (sm_u A 25 P 0 (nI e)) 25 P 1 (nI y)) 10 0 9 (nI (P + 1)) 25 c j = A 25 c j := fun j => by simp [sm_u, hcP]
        have b : ∀ f, f ≠ 11 → sm_u (sm_u (sm_u B 87 0 P (nI e)) 88 0 P (nI y)) 11 0 52 (nI (P + 1)) f 0 c = B f 0 c := fun f hf => by simp [sm_u, hcP, hf]
        rw [a, a, b 87 (by decide), b 88 (by decide)]
        exact hK c (by omega)
/-! corrections -/
def wcn (B : sm_M) (c : Nat) : Nat → Nat
  | 0 => 0
  | j + 1 => if B 89 0 j = nI c then wcn B c j + 1 else wcn B c j
def wcb (B : sm_M) (c : Nat) (day : Int32) : Nat → Int32
  | 0 => -1
  | j + 1 => if B 89 0 j = nI c then (if day < B 91 0 j then wcb B c day j else B 90 0 j) else wcb B c day j
theorem wcn_le {B : sm_M} {c : Nat} : ∀ j, wcn B c j ≤ j
  | 0 => Nat.le_refl _
  | j + 1 => by
    have h := wcn_le (B := B) (c := c) j
    unfold wcn
    split <;> omega
theorem wcn_mono {B : sm_M} {c i : Nat} : ∀ j, i ≤ j → wcn B c i ≤ wcn B c j
  | 0, h => by rw [Nat.le_zero.mp h]; exact Nat.le_refl _
  | j + 1, h => by
    by_cases hi : i = j + 1
    · rw [hi]; exact Nat.le_refl _
    · have h1 := wcn_mono (B := B) (c := c) (i := i) j (by omega)
      show _ ≤ (if B 89 0 j = nI c then wcn B c j + 1 else wcn B c j)
      split <;> omega
def J_cor (A B : sm_M) : Prop := ∃ K, K ≤ 99 ∧ A 10 0 10 = nI K ∧ B 11 0 55 = nI K ∧ (∀ c, c < 24 → A 25 c 4 = nI (wcn B c K)) ∧ (∀ c j, c < 24 → j < K → B 89 0 j = nI c → A 47 c (wcn B c j) = B 90 0 j ∧ A 48 c (wcn B c j) = B 91 0 j)
theorem m122 {A B : sm_M} (nL : Nat) {K c : Nat} (hK : K ≤ 99) (hc : c < 24) (e4 : A 25 c 4 = nI (wcn B c K)) (hE : ∀ j, j < K → B 89 0 j = nI c → A 47 c (wcn B c j) = B 90 0 j ∧ A 48 c (wcn B c j) = B 91 0 j) (day : Int32) (d : Nat) (Q : sm_Q) (o2 o3 : Option sm_V) : sm_W d 122 0 [some (Sum.inr (Sum.inr (some (25, c)))), vi day, o2, o3] [] (sm_G0 nL) A Q = Q (vi (wcb B c day K)) (sm_G0 nL) A := by
  have hn := wcn_le (B := B) (c := c) K
  have up : ∀ j, j ≤ K → sm_W d 122 4 [some (Sum.inr (Sum.inr (some (25, c)))), vi day, vi (-1), vi 0] [] (sm_G0 nL) A Q = sm_W d 122 4 [some (Sum.inr (Sum.inr (some (25, c)))), vi day, vi (wcb B c day j), vi (nI (wcn B c j))] [] (sm_G0 nL) A Q := by
    intro j
    induction j with
    | zero => intro _; rfl
    | succ j ih =>
      intro hj
      refine (ih (by omega)).trans ?_
      have hw : wcn B c (j + 1) = if B 89 0 j = nI c then wcn B c j + 1 else wcn B c j := rfl
      have hb : wcb B c day (j + 1) = if B 89 0 j = nI c then (if day < B 91 0 j then wcb B c day j else B 90 0 j) else wcb B c day j := rfl
      by_cases h : B 89 0 j = nI c
      · have hl := wcn_mono (B := B) (c := c) (i := j + 1) K hj
        rw [if_pos h] at hw hb
        obtain ⟨h47, h48⟩ := hE j (by omega) h
        have hnj : wcn B c j < 99 := by omega
        have ni : sm_in (nI (wcn B c j)) 99 = true := mm_in hnj (by decide)
        have n99 : nI (wcn B c j) < (99 : Int32) := nI_lt hnj (by decide)
        rw [T122_4, e4, mm_bt (nI_lt (by omega) (by omega)), mm_bt n99, mm_ck ni, mm_ck ni, nI_clamp (by omega), h48, h47, hw, hb, nI_1]
        by_cases hd : day < B 91 0 j
        · rw [mm_bt hd, if_pos hd]
        · rw [mm_bf hd, if_neg hd]
      · rw [if_neg h] at hw hb
        rw [hw, hb]
  rw [T122]
  refine (up K (Nat.le_refl _)).trans ?_
  rw [T122_4, e4, mm_bf (nI_nlt (Nat.le_refl _) (by omega))]
theorem r242 {B : sm_M} (nL : Nat) {K c : Nat} (hK : K ≤ 99) (eK : B 11 0 55 = nI K) (day : Int32) (d : Nat) (Q : sm_Q) (o3 o4 : Option sm_V) : sm_W d 242 0 [vo 11, vi (nI c), vi day, o3, o4] [] (sm_G0 nL) B Q = Q (vi (wcb B c day K)) (sm_G0 nL) B := by
  have lp : ∀ j i, i + j = K → sm_W d 242 5 [vo 11, vi (nI c), vi day, vi (wcb B c day i), vi (nI i)] [] (sm_G0 nL) B Q = Q (vi (wcb B c day K)) (sm_G0 nL) B := by
    intro j
    induction j with
    | zero =>
      intro i hi
      have hi' : i = K := by omega
      subst hi'
      rw [T242_5, eK, mm_bf (nI_nlt (Nat.le_refl _) (by omega))]
    | succ j ih =>
      intro i hi
      have h3 := ih (i + 1) (by omega)
      have ii : sm_in (nI i) 99 = true := mm_in (by omega) (by decide)
      have hb : wcb B c day (i + 1) = if B 89 0 i = nI c then (if day < B 91 0 i then wcb B c day i else B 90 0 i) else wcb B c day i := rfl
      rw [hb] at h3
      rw [T242_5, eK, mm_bt (nI_lt (by omega) (by omega)), mm_ck ii, nI_clamp (by omega), nI_1]
      simp only [mm_ck ii]
      by_cases h : B 89 0 i = nI c
      · rw [if_pos h] at h3
        rw [mm_bt h]
        by_cases hd : day < B 91 0 i
        · rw [if_pos hd] at h3; rw [mm_bt hd]; exact h3
        · rw [if_neg hd] at h3; rw [mm_bf hd]; exact h3
      · rw [if_neg h] at h3; rw [mm_bf h]; exact h3
  rw [T242]; exact lp K 0 (by omega)
def PA_cor (f k : Nat) : Bool := Nat.beq f 47 || Nat.beq f 48 || (Nat.beq f 25 && Nat.beq k 4) || (Nat.beq f 10 && Nat.beq k 10)
def PB_cor (f k : Nat) : Bool := Nat.beq f 89 || Nat.beq f 90 || Nat.beq f 91 || (Nat.beq f 11 && Nat.beq k 55)
theorem wcn_c {B B' : sm_M} {c : Nat} : ∀ {n : Nat}, (∀ j, j < n → B' 89 0 j = B 89 0 j) → wcn B' c n = wcn B c n
  | 0, _ => rfl
  | n + 1, h => by
    have ih := wcn_c (B := B) (B' := B') (c := c) (n := n) (fun j hj => h j (by omega))
    show (if B' 89 0 n = nI c then _ else _) = (if B 89 0 n = nI c then _ else _)
    rw [ih, h n (Nat.lt_succ_self _)]
theorem p120 {A B : sm_M} {n e : Nat} (hD : J_day A B) (hT : J_tel e n A B) (hP : J_cop A B) (hC : J_cor A B) (x0 x1 : Int32) (nL : Nat) : ∃ r A' B', (∀ d Q, sm_W (d + 1) 120 0 [vo 10, vi x0, vi x1, none] [] (sm_G0 nL) A Q = Q (vi r) (sm_G0 nL) A') ∧ (∀ d Q, sm_W (d + 2) 240 0 [vo 11, vi x0, vi x1] [] (sm_G0 nL) B Q = Q (vi r) (sm_G0 nL) B') ∧ ((A' = A ∧ B' = B) ∨ (Fr PA_cor A A' ∧ Fr PB_cor B B' ∧ J_cor A' B')) := by
  obtain ⟨dA, y, hy, dB⟩ := hD
  obtain ⟨t, q, C, NC, t1, q1, C1, ta, tb, qa, qb, cb, -⟩ := hT
  obtain ⟨P, E, p1, pa, pb, p4, p5, -⟩ := hP
  obtain ⟨K, hK, ka, kb, hc4, hcE⟩ := hC
  rcases mm_sv x0 P (by omega) with h | ⟨g0, g1, g2⟩ | ⟨c, hc, rfl, c0, c1, c2⟩
  · exact ⟨-1, A, B, fun d Q => by simp only [T120, h, ↓sm_Br_d, ↓reduceIte, sm_Ck_t, mm_zb0, mm_zb1], fun d Q => by simp only [T240, h, ↓sm_Br_d, ↓reduceIte, sm_Ck_t, mm_zb0, mm_zb1], .inl ⟨rfl, rfl⟩⟩
  · exact ⟨-1, A, B, fun d Q => by simp only [T120, g0, pa, pb, g1, g2, ↓sm_Br_d, ↓reduceIte, sm_Ck_t, mm_zb0, mm_zb1], fun d Q => by simp only [T240, g0, pa, pb, g1, g2, ↓sm_Br_d, ↓reduceIte, sm_Ck_t, mm_zb0, mm_zb1], .inl ⟨rfl, rfl⟩⟩
  have c24 : nI c < (24 : Int32) := nI_lt (show c < 24 by omega) (by decide)
  have ci : sm_in (nI c) 24 = true := mm_in (by omega) (by decide)
  have cc : (nI c).toNatClampNeg = c := nI_clamp (by omega)
  rcases mm_sv x1 q (by omega) with h | ⟨g0, g1, g2⟩ | ⟨v, hv, rfl, v0, v1, v2⟩
  · exact ⟨-1, A, B, fun d Q => by simp only [T120, c0, pa, pb, c1, c2, c24, ci, h, ↓sm_Br_d, ↓reduceIte, sm_Ck_t, mm_zb0, mm_zb1], fun d Q => by simp only [T240, c0, pa, pb, c1, c2, c24, ci, h, ↓sm_Br_d, ↓reduceIte, sm_Ck_t, mm_zb0, mm_zb1], .inl ⟨rfl, rfl⟩⟩
  · exact ⟨-1, A, B, fun d Q => by simp only [T120, c0, pa, pb, c1, c2, c24, ci, qa, qb, g0, g1, g2, ↓sm_Br_d, ↓reduceIte, sm_Ck_t, mm_zb0, mm_zb1], fun d Q => by simp only [T240, c0, pa, pb, c1, c2, c24, ci, qa, qb, g0, g1, g2, ↓sm_Br_d, ↓reduceIte, sm_Ck_t, mm_zb0, mm_zb1], .inl ⟨rfl, rfl⟩⟩
  have kA : ∀ d Q, sm_W (d + 1) 120 0 [vo 10, vi (nI c), vi (nI v), none] [] (sm_G0 nL) A Q = sm_W (d + 1) 120 35 [vo 10, vi (nI c), vi (nI v), some (Sum.inr (Sum.inr (some (25, c))))] [Sum.inl (wcb B c (nI y) K)] (sm_G0 nL) A Q := fun d Q => by
    simp only [T120, c0, pa, c1, c24, ci, cc, qa, v0, v1, dA, dB, ↓sm_Br_d, ↓reduceIte, sm_Ck_t, mm_zb0, mm_zb1]
    rw [m122 (B := B) nL hK (show c < 24 by omega) (hc4 c (by omega)) (fun j hj h => hcE c j (by omega) hj h), sm_push_s]
  have kB : ∀ d Q, sm_W (d + 2) 240 0 [vo 11, vi (nI c), vi (nI v)] [] (sm_G0 nL) B Q = sm_W (d + 2) 240 27 [vo 11, vi (nI c), vi (nI v)] [Sum.inl (wcb B c (nI y) K)] (sm_G0 nL) B Q := fun d Q => by
    simp only [T240, c0, pb, c2, qb, v0, v2, dB, ↓sm_Br_d, ↓reduceIte, sm_Ck_t, mm_zb0, mm_zb1]
    rw [r242 nL hK kb, sm_push_s]
  by_cases hlt : wcb B c (nI y) K < nI v
  rotate_left
  · exact ⟨-3, A, B, fun d Q => by rw [kA, T120_35, mm_bf hlt], fun d Q => by rw [kB, T240_27, mm_bf hlt], .inl ⟨rfl, rfl⟩⟩
  by_cases hf : K = 99
  · subst hf
    exact ⟨-4, A, B, fun d Q => by rw [kA, T120_35, mm_bt hlt, ka, mm_bf (by decide)], fun d Q => by rw [kB, T240_27, mm_bt hlt, kb, mm_bt (by decide)], .inl ⟨rfl, rfl⟩⟩
  have hn := wcn_le (B := B) (c := c) K
  have n1 : nI K < (99 : Int32) := nI_lt (show K < 99 by omega) (by decide)
  have n2 : ¬ nI K = (99 : Int32) := fun h => hf ((nI_eq (by omega) (by decide)).mp (show nI K = nI 99 from h))
  have ki : sm_in (nI K) 99 = true := mm_in (by omega) (by decide)
  have kc : (nI K).toNatClampNeg = K := nI_clamp (by omega)
  have m1 : nI (wcn B c K) < (99 : Int32) := nI_lt (show wcn B c K < 99 by omega) (by decide)
  have mi : sm_in (nI (wcn B c K)) 99 = true := mm_in (by omega) (by decide)
  have mc : (nI (wcn B c K)).toNatClampNeg = wcn B c K := nI_clamp (by omega)
  have u10 : ∀ a b e : Int32, sm_u (sm_u (sm_u A 47 c (wcn B c K) a) 48 c (wcn B c K) b) 25 c 4 e 10 0 10 = nI K := fun a b e => ka
  have b89 : ∀ j, sm_u (sm_u (sm_u (sm_u B 89 0 K (nI c)) 90 0 K (nI v)) 91 0 K (nI y)) 11 0 55 (nI (K + 1)) 89 0 j = if j = K then nI c else B 89 0 j := fun j => by
    by_cases h : j = K <;> simp [sm_u, h]
  have b90 : ∀ j, sm_u (sm_u (sm_u (sm_u B 89 0 K (nI c)) 90 0 K (nI v)) 91 0 K (nI y)) 11 0 55 (nI (K + 1)) 90 0 j = if j = K then nI v else B 90 0 j := fun j => by
    by_cases h : j = K <;> simp [sm_u, h]
  have b91 : ∀ j, sm_u (sm_u (sm_u (sm_u B 89 0 K (nI c)) 90 0 K (nI v)) 91 0 K (nI y)) 11 0 55 (nI (K + 1)) 91 0 j = if j = K then nI y else B 91 0 j := fun j => by
    by_cases h : j = K <;> simp [sm_u, h]
  have hwn : ∀ c' j, j ≤ K → wcn (sm_u (sm_u (sm_u (sm_u B 89 0 K (nI c)) 90 0 K (nI v)) 91 0 K (nI y)) 11 0 55 (nI (K + 1))) c' j = wcn B c' j := fun c' j hj => wcn_c (fun i hi => by rw [b89, if_neg (by omega)])
  refine ⟨nI (K + 1), sm_u (sm_u (sm_u (sm_u A 47 c (wcn B c K) (nI v)) 48 c (wcn B c K) (nI y)) 25 c 4 (nI (wcn B c K + 1))) 10 0 10 (nI (K + 1)), sm_u (sm_u (sm_u (sm_u B 89 0 K (nI c)) 90 0 K (nI v)) 91 0 K (nI y)) 11 0 55 (nI (K + 1)), fun d Q => ?_, fun d Q => ?_, .inr ⟨Fr_u (Fr_u (Fr_u (Fr_u (Fr_r _ _) rfl) rfl) rfl) rfl, Fr_u (Fr_u (Fr_u (Fr_u (Fr_r _ _) rfl) rfl) rfl) rfl, K + 1, by omega, rfl, rfl, fun c' hc' => ?_, fun c' j hc' hj hjc => ?_⟩⟩
  · rw [kA, T120_35, mm_bt hlt, ka, mm_bt n1, hc4 c (by omega)]
    simp only [mm_bt m1, mm_ck mi, mc, nI_1, dA, dB, u10]
  · rw [kB, T240_27, mm_bt hlt, kb, mm_bf n2]
    simp only [mm_ck ki, kc, nI_1, dB]
  · have hs : wcn (sm_u (sm_u (sm_u (sm_u B 89 0 K (nI c)) 90 0 K (nI v)) 91 0 K (nI y)) 11 0 55 (nI (K + 1))) c' (K + 1) = if nI c = nI c' then wcn B c' K + 1 else wcn B c' K := by
      show (if _ = nI c' then _ else _) = _
      rw [b89, if_pos rfl, hwn c' K (Nat.le_refl _)]
    rw [hs]
    by_cases h : c' = c
    · subst h; rw [if_pos rfl]; simp [sm_u]
    · rw [if_neg (fun hh => h ((nI_eq (by omega) (by omega)).mp hh).symm), ← hc4 c' hc']; simp [sm_u, h]
  · rw [b89] at hjc
    rw [b90, b91, hwn c' j (by omega)]
    by_cases hjK : j = K
    · subst hjK
      rw [if_pos rfl] at hjc
      have : c' = c := ((nI_eq (by omega) (by omega)).mp hjc).symm
      subst this
      rw [if_pos rfl, if_pos rfl]
      exact ⟨by simp [sm_u], by simp [sm_u]⟩
    · rw [if_neg hjK] at hjc
      rw [if_neg hjK, if_neg hjK]
      obtain ⟨h1, h2⟩ := hcE c' j hc' (by omega) hjc
      have hne : ¬ (c' = c ∧ wcn B c' j = wcn B c K) := by
        rintro ⟨rfl, h3⟩
        have h4 := wcn_mono (B := B) (c := c') (i := j + 1) K (by omega)
        have h5 : wcn B c' (j + 1) = wcn B c' j + 1 := by
          show (if B 89 0 j = nI c' then wcn B c' j + 1 else wcn B c' j) = _
          rw [if_pos hjc]
        omega
      rw [← h1, ← h2]
      exact ⟨(mm_un (A := A) hne : sm_u A 47 c (wcn B c K) (nI v) 47 c' (wcn B c' j) = _), (mm_un (A := sm_u A 47 c (wcn B c K) (nI v)) hne : sm_u (sm_u A 47 c (wcn B c K) (nI v)) 48 c (wcn B c K) (nI y) 48 c' (wcn B c' j) = _)⟩
