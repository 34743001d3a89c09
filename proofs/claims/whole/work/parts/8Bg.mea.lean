/-! rule: the call -/
def PA_ru (f k : Nat) : Bool := (Nat.beq f 13 && (Nat.beq k 1 || Nat.beq k 4 || Nat.beq k 5)) || Nat.beq f 36
def PB_ru (f k : Nat) : Bool := (Nat.beq f 11 && (Nat.beq k 26 || Nat.beq k 27 || Nat.beq k 32)) || (Nat.beq f 70 || Nat.beq f 71 || Nat.beq f 72 || Nat.beq f 73)
theorem PA_ru_of {r : Nat} {A A' : sm_M} (h : Fi (PA_r r) A A') : Fr PA_ru A A' := fun f i k hk => h f i k (by
  simp only [PA_ru, Bool.or_eq_false_iff, Bool.and_eq_false_iff] at hk
  simp only [PA_r, Bool.or_eq_false_iff, Bool.and_eq_false_iff]
  exact ⟨hk.1.imp id (fun h => h.2), .inl hk.2⟩)
theorem PB_ru_of {r : Nat} {B B' : sm_M} (h : Fi (PB_r r) B B') : Fr PB_ru B B' := fun f i k hk => h f i k (by
  simp only [PB_ru, Bool.or_eq_false_iff, Bool.and_eq_false_iff] at hk
  simp only [PB_r, Bool.or_eq_false_iff, Bool.and_eq_false_iff]
  exact ⟨⟨⟨hk.1.imp id (fun h => h.2), .inl hk.2.1.1.2⟩, .inl hk.2.1.2⟩, .inl hk.2.2⟩)
theorem K_rul_of {r q : Nat} {A B A' B' : sm_M} (hq : q < r) (hA : Fi (PA_r r) A A') (hB : Fi (PB_r r) B B') (h : K_rul A B q) : K_rul A' B' q := by
  have a : ∀ k, A' 36 q k = A 36 q k := fun k => hA 36 q k (by
    have : ¬ q = r := by omega
    simp [PA_r, this])
  have b1 : ∀ j, j < 4 → B' 71 0 (4 * q + j) = B 71 0 (4 * q + j) := fun j hj => hB 71 0 _ (by
    have h0 : ¬ 4 * q + j = 4 * r := by omega
    have h1 : ¬ 4 * q + j = 4 * r + 1 := by omega
    have h2 : ¬ 4 * q + j = 4 * r + 2 := by omega
    have h3 : ¬ 4 * q + j = 4 * r + 3 := by omega
    simp [PB_r, h0, h1, h2, h3])
  have b2 : B' 72 0 q = B 72 0 q := hB 72 0 q (by
    have : ¬ q = r := by omega
    simp [PB_r, this])
  have b3 : B' 73 0 q = B 73 0 q := hB 73 0 q (by
    have : ¬ q = r := by omega
    simp [PB_r, this])
  have b0 : B' 70 0 q = B 70 0 q := hB 70 0 q rfl
  have c0 := b1 0 (by omega)
  have c1 := b1 1 (by omega)
  have c2 := b1 2 (by omega)
  have c3 := b1 3 (by omega)
  rw [Nat.add_zero] at c0
  unfold K_rul at h ⊢
  rw [a, a, a, a, a, a, a, a, b0, c0, c1, c2, c3, b2, b3]
  exact h
theorem p59 {A B : sm_M} (hJ : J_rul A B) (hN : J_num B) (hX : J_txt A B) (hW : J_wrd B) (x0 : Int32) (nL : Nat) : ∃ a A' B', (∀ d Q, sm_W (d + 6) 59 0 [vo 10, vi x0] [] (sm_G0 nL) A Q = Q (vi a) (sm_G0 nL) A') ∧ (∀ d Q, sm_W (d + 3) 197 0 [vo 11, vi x0, none, none] [] (sm_G0 nL) B Q = Q (vi a) (sm_G0 nL) B') ∧ J_rul A' B' ∧ J_num B' ∧ J_txt A' B' ∧ J_wrd B' ∧ Fr PA_ru A A' ∧ Fr PB_ru B B' := by
  have hz : J_rul A B ∧ J_num B ∧ J_txt A B ∧ J_wrd B ∧ Fr PA_ru A A ∧ Fr PB_ru B B := ⟨hJ, hN, hX, hW, Fr_r _ _, Fr_r _ _⟩
  have hJ0 := hJ
  obtain ⟨r, hr, ea, eb, hK, h34⟩ := hJ
  obtain ⟨n, hn, ta, tb, hv⟩ := hX
  rcases mm_rg x0 9999 (by decide) with h | ⟨h0, h1, h2⟩ | ⟨y, hy, rfl, v0, v1, -⟩
  · exact ⟨-2, A, B, fun d Q => by simp only [T59, h, ↓sm_Br_d, ↓reduceIte, sm_Ck_t, mm_zb0, mm_zb1], fun d Q => by simp only [T197, h, ↓sm_Br_d, ↓reduceIte, sm_Ck_t, mm_zb0, mm_zb1], hz⟩
  · have h1' : (9999 : Int32) < x0 := h1
    exact ⟨-2, A, B, fun d Q => by simp only [T59, h0, h1', ↓sm_Br_d, ↓reduceIte, sm_Ck_t, mm_zb0, mm_zb1], fun d Q => by simp only [T197, h0, h1', ↓sm_Br_d, ↓reduceIte, sm_Ck_t, mm_zb0, mm_zb1], hz⟩
  have v1' : ¬ (9999 : Int32) < nI y := v1
  by_cases h10 : r = 10
  · subst h10
    refine ⟨-4, A, B, fun d Q => ?_, fun d Q => ?_, hz⟩
    · rw [T59, mm_bf v0, mm_bf v1', T61, ea, mm_bf (by decide), sm_push_s, T59_18]
    · rw [T197, mm_bf v0, mm_bf v1', mm_ck mm_zb1, mm_bt (show B 11 0 27 = 10 from eb)]
  have r10 : r < 10 := by omega
  have l10 : nI r < (10 : Int32) := nI_lt r10 (by decide)
  have n10 : ¬ nI r = (10 : Int32) := fun h => by
    have := (nI_eq (by omega) (by decide)).mp (h.trans (show (10 : Int32) = nI 10 from rfl)); omega
  have i10 : sm_in (nI r) 10 = true := mm_in r10 (by decide)
  have i11 : sm_in (nI r) 11 = true := mm_in (by omega) (by decide)
  have rc : (nI r).toNatClampNeg = r := nI_clamp (by omega)
  have e0 : 4 * nI r = nI (4 * r) := by show nI 4 * nI r = _; rw [pk_mul]
  have e1 : nI (4 * r) + 1 = nI (4 * r + 1) := nI_1 _
  have e2 : nI (4 * r) + 2 = nI (4 * r + 2) := by show nI (4 * r) + nI 2 = _; rw [nI_add]
  have e3 : nI (4 * r) + 3 = nI (4 * r + 3) := by show nI (4 * r) + nI 3 = _; rw [nI_add]
  have q0 : sm_in (nI (4 * r)) 44 = true := mm_in (by omega) (by decide)
  have q1 : sm_in (nI (4 * r + 1)) 44 = true := mm_in (by omega) (by decide)
  have q2 : sm_in (nI (4 * r + 2)) 44 = true := mm_in (by omega) (by decide)
  have q3 : sm_in (nI (4 * r + 3)) 44 = true := mm_in (by omega) (by decide)
  have d0 : (nI (4 * r)).toNatClampNeg = 4 * r := nI_clamp (by omega)
  have d1 : (nI (4 * r + 1)).toNatClampNeg = 4 * r + 1 := nI_clamp (by omega)
  have d2 : (nI (4 * r + 2)).toNatClampNeg = 4 * r + 2 := nI_clamp (by omega)
  have d3 : (nI (4 * r + 3)).toNatClampNeg = 4 * r + 3 := nI_clamp (by omega)
  have fA : ∀ k, PA_r r 36 r k = true := fun k => by simp [PA_r]
  have fB : ∀ j, j < 4 → PB_r r 71 0 (4 * r + j) = true := fun j hj => by
    have h4 : j = 0 ∨ j = 1 ∨ j = 2 ∨ j = 3 := by omega
    rcases h4 with rfl | rfl | rfl | rfl <;> simp [PB_r]
  have hA0 : Fi (PA_r r) A (sm_u (sm_u (sm_u (sm_u (sm_u (sm_u (sm_u A 36 r 2 999) 36 r 3 0) 36 r 4 0) 36 r 5 999) 36 r 6 210) 36 r 7 0) 13 0 5 0) := Fi_u (Fi_u (Fi_u (Fi_u (Fi_u (Fi_u (Fi_u (Fi_r _ _) (fA 2)) (fA 3)) (fA 4)) (fA 5)) (fA 6)) (fA 7)) rfl
  have hB0 : Fi (PB_r r) B (sm_u (sm_u (sm_u (sm_u (sm_u (sm_u (sm_u B 11 0 32 0) 71 0 (4 * r) 999) 71 0 (4 * r + 1) 0) 71 0 (4 * r + 2) 0) 71 0 (4 * r + 3) 999) 72 0 r 210) 73 0 r 0) := Fi_u (Fi_u (Fi_u (Fi_u (Fi_u (Fi_u (Fi_u (Fi_r _ _) rfl) (fB 0 (by omega))) (fB 1 (by omega))) (fB 2 (by omega))) (fB 3 (by omega))) (by simp [PB_r])) (by simp [PB_r])
  have hT0 := TX_fr ⟨hn, ta, tb, hv, hW⟩ hA0 hB0
  have hR0 : RW r (sm_u (sm_u (sm_u (sm_u (sm_u (sm_u (sm_u A 36 r 2 999) 36 r 3 0) 36 r 4 0) 36 r 5 999) 36 r 6 210) 36 r 7 0) 13 0 5 0) (sm_u (sm_u (sm_u (sm_u (sm_u (sm_u (sm_u B 11 0 32 0) 71 0 (4 * r) 999) 71 0 (4 * r + 1) 0) 71 0 (4 * r + 2) 0) 71 0 (4 * r + 3) 999) 72 0 r 210) 73 0 r 0) := by
    refine ⟨fun j hj => ?_, by simp [sm_u], by simp [sm_u]⟩
    have h4 : j = 0 ∨ j = 1 ∨ j = 2 ∨ j = 3 := by omega
    rcases h4 with rfl | rfl | rfl | rfl
    · exact ⟨by simp [sm_u], 999, by omega, by simp [sm_u]; rfl⟩
    · exact ⟨by simp [sm_u], 0, by omega, by simp [sm_u]; rfl⟩
    · exact ⟨by simp [sm_u], 0, by omega, by simp [sm_u]; rfl⟩
    · exact ⟨by simp [sm_u], 999, by omega, by simp [sm_u]; rfl⟩
  obtain ⟨ok, p', A', B', g1, g2, g3, g4, g5, g6⟩ := p62 r (by omega) nL 7 1 0 _ _ (by omega) (by omega) hT0 ⟨rfl, rfl, by omega⟩ hR0 eb
  have gA := Fi_t hA0 g3
  have gB := Fi_t hB0 g4
  have ea' : A' 13 0 1 = nI r := (gA 13 0 1 rfl).trans ea
  have hA : ∀ d Q, sm_W (d + 6) 59 0 [vo 10, vi (nI y)] [] (sm_G0 nL) A Q = sm_W (d + 5) 61 31 [vo 13, vi (nI y), vr r, none] [Sum.inl (mb ok)] (sm_G0 nL) A' (fun r1 G1 M1 => sm_W (d + 6) 59 18 [vo 10, vi (nI y)] (sm_push r1 []) G1 M1 Q) := fun d Q => by
    rw [T59, mm_bf v0, mm_bf v1', T61, ea, mm_bt l10, mm_ck i10, rc, T62]
    refine (g1 d _).trans ?_
    rw [sm_push_s]
  have hB : ∀ d Q, sm_W (d + 3) 197 0 [vo 11, vi (nI y), none, none] [] (sm_G0 nL) B Q = wfin ok r (nI y) p' nL B' Q := fun d Q => by
    rw [T197, mm_bf v0, mm_bf v1', mm_ck mm_zb1, eb, mm_bf n10, e0, e1, e2, e3, mm_ck q0, mm_ck q1, mm_ck q2, mm_ck q3, mm_ck i11, mm_ck i11, d0, d1, d2, d3, rc]
    refine Eq.trans ?_ (g2 d Q (nI y) (fun r1 G1 M1 => sm_W (d + 3) 197 45 [vo 11, vi (nI y), vi 1, none] (sm_push r1 []) G1 M1 Q) (fun s M1 => by rw [sm_push_s, T197_45]; rfl))
    have e27 : (sm_u (sm_u (sm_u (sm_u (sm_u (sm_u (sm_u B 11 0 32 0) 71 0 (4 * r) 999) 71 0 (4 * r + 1) 0) 71 0 (4 * r + 2) 0) 71 0 (4 * r + 3) 999) 72 0 r 210) 73 0 r 0) 11 0 27 = nI r := eb
    rw [e27]
  have hW' : J_wrd B' := fun k hk => (gB 74 0 k rfl).trans (hW k hk)
  have FA := PA_ru_of gA
  have FB := PB_ru_of gB
  cases ok with
  | false =>
    refine ⟨-10 - nI p', sm_u A' 13 0 4 0, sm_u B' 11 0 26 0, fun d Q => ?_, fun d Q => hB d Q, ⟨r, hr, ea', (gB 11 0 27 rfl).trans eb, fun q hq => (show K_rul A' B' q from K_rul_of hq gA gB (hK q hq)), ?_⟩, ?_, ⟨0, by omega, rfl, rfl, fun i hi => absurd hi (Nat.not_lt_zero i)⟩, hW', Fr_u FA rfl, Fr_u FB rfl⟩
    · rw [hA, T61_31, mm_bt (show mb false = 0 from rfl), sm_push_s, T59_18]
      show Q (vi (-10 - A' 13 0 5)) _ _ = _
      rw [g5.1]
    · obtain ⟨k0, k2, k3, k4, k5, k6, k7⟩ := h34
      exact ⟨(gA 34 0 0 rfl).trans k0, (gA 34 0 2 rfl).trans k2, (gA 34 0 3 rfl).trans k3, (gA 34 0 4 rfl).trans k4, (gA 34 0 5 rfl).trans k5, (gA 34 0 6 rfl).trans k6, (gA 34 0 7 rfl).trans k7⟩
    · obtain ⟨m, hm, em, hvm⟩ := hN
      have e : m = r := (nI_eq (by omega) (by omega)).mp (em.symm.trans eb)
      subst e
      refine ⟨m, hm, (gB 11 0 27 rfl).trans eb, fun k hk => ?_⟩
      obtain ⟨v, hv1, hv2⟩ := hvm k hk
      refine ⟨v, hv1, Eq.trans (gB 71 0 k ?_) hv2⟩
      have h0 : ¬ k = 4 * m := by omega
      have h1 : ¬ k = 4 * m + 1 := by omega
      have h2 : ¬ k = 4 * m + 2 := by omega
      have h3 : ¬ k = 4 * m + 3 := by omega
      simp [PB_r, h0, h1, h2, h3]
  | true =>
    obtain ⟨w1, w2, w3⟩ := g6 rfl
    refine ⟨nI r, sm_u (sm_u (sm_u (sm_u A' 13 0 4 0) 36 r 1 (nI y)) 36 r 0 (nI r)) 13 0 1 (nI (r + 1)), sm_u (sm_u (sm_u B' 11 0 26 0) 70 0 r (nI y)) 11 0 27 (nI (r + 1)), fun d Q => ?_, fun d Q => hB d Q, ⟨r + 1, by omega, rfl, rfl, fun q hq => ?_, ?_⟩, ?_, ⟨0, by omega, rfl, rfl, fun i hi => absurd hi (Nat.not_lt_zero i)⟩, hW', Fr_u (Fr_u (Fr_u (Fr_u FA rfl) rfl) rfl) rfl, Fr_u (Fr_u (Fr_u FB rfl) rfl) rfl⟩
    · rw [hA, T61_31, mm_bf (show ¬ mb true = 0 by decide), sm_push_s, T59_18, mm_up]
      show Q (vi (A' 13 0 1)) (sm_G0 nL) (sm_u (sm_u (sm_u (sm_u A' 13 0 4 0) 36 r 1 (nI y)) 36 r 0 (A' 13 0 1)) 13 0 1 (A' 13 0 1 + 1)) = _
      rw [ea', nI_1]
    · by_cases h : q = r
      · subst h
        have z0 := w1 0 (by omega)
        have z1 := w1 1 (by omega)
        have z2 := w1 2 (by omega)
        have z3 := w1 3 (by omega)
        refine ⟨mm_up, Eq.trans (mm_un (by omega)) (Eq.trans mm_up mm_up.symm), ?_, ?_, ?_, ?_, ?_, ?_, y, hy, mm_up⟩
        · exact (mm_un (by omega)).trans ((mm_un (by omega)).trans z0.1)
        · exact (mm_un (by omega)).trans ((mm_un (by omega)).trans z1.1)
        · exact (mm_un (by omega)).trans ((mm_un (by omega)).trans z2.1)
        · exact (mm_un (by omega)).trans ((mm_un (by omega)).trans z3.1)
        · exact (mm_un (by omega)).trans ((mm_un (by omega)).trans w2)
        · exact (mm_un (by omega)).trans ((mm_un (by omega)).trans w3)
      · have hk := K_rul_of (show q < r by omega) gA gB (hK q (by omega))
        have a : ∀ k, sm_u (sm_u (sm_u (sm_u A' 13 0 4 0) 36 r 1 (nI y)) 36 r 0 (nI r)) 13 0 1 (nI (r + 1)) 36 q k = A' 36 q k := fun k => (mm_un (fun hh => h hh.1)).trans (mm_un (fun hh => h hh.1))
        have b : sm_u (sm_u (sm_u B' 11 0 26 0) 70 0 r (nI y)) 11 0 27 (nI (r + 1)) 70 0 q = B' 70 0 q := mm_un (fun hh => h hh.2)
        unfold K_rul at hk ⊢
        rw [a, a, a, a, a, a, a, a, b]
        exact hk
    · obtain ⟨k0, k2, k3, k4, k5, k6, k7⟩ := h34
      exact ⟨(gA 34 0 0 rfl).trans k0, (gA 34 0 2 rfl).trans k2, (gA 34 0 3 rfl).trans k3, (gA 34 0 4 rfl).trans k4, (gA 34 0 5 rfl).trans k5, (gA 34 0 6 rfl).trans k6, (gA 34 0 7 rfl).trans k7⟩
    · obtain ⟨m, hm, em, hvm⟩ := hN
      have e : m = r := (nI_eq (by omega) (by omega)).mp (em.symm.trans eb)
      subst e
      refine ⟨m + 1, by omega, rfl, fun k hk => ?_⟩
      by_cases hk4 : k < 4 * m
      · obtain ⟨v, hv1, hv2⟩ := hvm k hk4
        refine ⟨v, hv1, Eq.trans (gB 71 0 k ?_) hv2⟩
        have h0 : ¬ k = 4 * m := by omega
        have h1 : ¬ k = 4 * m + 1 := by omega
        have h2 : ¬ k = 4 * m + 2 := by omega
        have h3 : ¬ k = 4 * m + 3 := by omega
        simp [PB_r, h0, h1, h2, h3]
      · obtain ⟨-, v, hv1, hv2⟩ := w1 (k - 4 * m) (by omega)
        rw [show 4 * m + (k - 4 * m) = k by omega] at hv2
        exact ⟨v, hv1, hv2⟩
