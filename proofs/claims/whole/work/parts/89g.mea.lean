/-! late -/
def wl1 (B : sm_M) (n i : Nat) : Bool := !decide (B 67 0 i < 0) && decide (wcl B (wrule B (B 86 0 (cl (B 67 0 i))) n) 3 < B 86 0 (cl (B 67 0 i)) - B 63 0 i)
def wlt (B : sm_M) (n : Nat) : Nat → Nat
  | 0 => 0
  | i + 1 => if wl1 B n i = true then wlt B n i + 1 else wlt B n i
theorem wlt_s {B : sm_M} {n i : Nat} : wlt B n (i + 1) = if wl1 B n i = true then wlt B n i + 1 else wlt B n i := rfl
theorem m117 {A B : sm_M} (d nL : Nat) {t q n : Nat} (ht : t ≤ 90) (hq : q ≤ 60) (hn : n ≤ 10) (ta : A 14 0 3 = nI t) (eq : A 14 0 5 = nI q) (er : A 13 0 1 = nI n) (hK : ∀ r, r < n → K_rul A B r) (hw : ∀ x, wA A (wrule B x n) 5 = wcl B (wrule B x n) 3) (hT : ∀ i, i < t → A 42 i 9 = B 67 0 i ∧ A 42 i 5 = B 63 0 i ∧ (B 67 0 i = -1 ∨ ∃ j, j < q ∧ B 67 0 i = nI j)) (hD : ∀ j, j < q → A 39 0 j = B 86 0 j) (Q : sm_Q) : ∀ (j i : Nat) (o2 o3 : Option sm_V), i + j = t → sm_W (d + 1) 117 4 [vo 14, vo 13, vi (nI (wlt B n i)), vi (nI i), o2, o3] [] (sm_G0 nL) A Q = Q (vi (nI (wlt B n t))) (sm_G0 nL) A := by
  intro j
  induction j with
  | zero =>
    intro i o2 o3 hi
    have hi' : i = t := by omega
    subst hi'
    rw [T117_4, ta, mm_bf (nI_nlt (Nat.le_refl _) (by omega))]
  | succ j ih =>
    intro i o2 o3 hi
    obtain ⟨k1, k2, k3⟩ := hT i (by omega)
    have h3 := fun o2 o3 => ih (i + 1) o2 o3 (by omega)
    rw [T117_4, ta, mm_bt (nI_lt (by omega) (by omega)), m42s ta ht (by omega), sm_push_s, T117_17, k1, nI_1, eq]
    rcases k3 with e | ⟨k, hk, e⟩
    · have hl : wl1 B n i = false := by unfold wl1; rw [e]; rfl
      rw [wlt_s, hl] at h3
      rw [e, mm_bt (by decide)]
      exact h3 _ _
    · have k0 : ¬ nI k < 0 := nI_pos (by omega)
      have k6 : nI k < (60 : Int32) := nI_lt (show k < 60 by omega) (by decide)
      have ki : sm_in (nI k) 60 = true := mm_in (by omega) (by decide)
      have kc : (nI k).toNatClampNeg = k := nI_clamp (by omega)
      have hl : wl1 B n i = decide (wcl B (wrule B (B 86 0 k) n) 3 < B 86 0 k - B 63 0 i) := by
        unfold wl1 cl; rw [e, kc, decide_eq_false k0]; rfl
      rw [e, mm_bf k0, mm_bt (nI_lt hk (by omega)), mm_bt k6, mm_ck ki, mm_ck ki, kc, hD k hk, m48e d nL _ none none hn er hK, k2]
      have f : ∀ (f4 i5 : Nat), Nat.beq (sm_fc f4) 4 = true → A f4 i5 5 = wcl B (wrule B (B 86 0 k) n) 3 → sm_W (d + 1) 117 80 [vo 14, vo 13, vi (nI (wlt B n i)), vi (nI i), some (Sum.inr (Sum.inr (some (42, i)))), vi (nI k)] [Sum.inr (Sum.inr (some (f4, i5))), Sum.inl (B 86 0 k - B 63 0 i)] (sm_G0 nL) A Q = Q (vi (nI (wlt B n t))) (sm_G0 nL) A := by
        intro f4 i5 hf hv
        rw [T117_80, mm_ck hf, hv, nI_1, nI_1]
        by_cases hc : wcl B (wrule B (B 86 0 k) n) 3 < B 86 0 k - B 63 0 i
        · rw [wlt_s, hl, decide_eq_true hc] at h3
          rw [mm_bt hc]; exact h3 _ _
        · rw [wlt_s, hl, decide_eq_false hc] at h3
          rw [mm_bf hc]; exact h3 _ _
      have hw' := hw (B 86 0 k)
      generalize wrule B (B 86 0 k) n = o at hw' f ⊢
      cases o with
      | none => exact f 34 0 rfl hw'
      | some k' => exact f 36 k' rfl hw'
theorem r238 {B : sm_M} (d nL : Nat) {t q n : Nat} (ht : t ≤ 90) (hq : q ≤ 60) (hn : n ≤ 10) (tb : B 11 0 13 = nI t) (er : B 11 0 27 = nI n) (hT : ∀ i, i < t → (B 67 0 i = -1 ∨ ∃ j, j < q ∧ B 67 0 i = nI j)) (Q : sm_Q) : ∀ (j i : Nat), i + j = t → sm_W (d + 2) 238 4 [vo 11, vi (nI (wlt B n i)), vi (nI i)] [] (sm_G0 nL) B Q = Q (vi (nI (wlt B n t))) (sm_G0 nL) B := by
  intro j
  induction j with
  | zero =>
    intro i hi
    have hi' : i = t := by omega
    subst hi'
    rw [T238_4, tb, mm_bf (nI_nlt (Nat.le_refl _) (by omega))]
  | succ j ih =>
    intro i hi
    have k3 := hT i (by omega)
    have h3 := ih (i + 1) (by omega)
    have ei : sm_in (nI i) 90 = true := mm_in (by omega) (by decide)
    rw [T238_4, tb, mm_bt (nI_lt (by omega) (by omega)), nI_clamp (by omega), nI_1]
    simp only [mm_ck ei]
    rcases k3 with e | ⟨k, hk, e⟩
    · have hl : wl1 B n i = false := by unfold wl1; rw [e]; rfl
      rw [wlt_s, hl] at h3
      rw [e, mm_bt (by decide)]
      exact h3
    · have k0 : ¬ nI k < 0 := nI_pos (by omega)
      have ki : sm_in (nI k) 60 = true := mm_in (by omega) (by decide)
      have kc : (nI k).toNatClampNeg = k := nI_clamp (by omega)
      have hl : wl1 B n i = decide (wcl B (wrule B (B 86 0 k) n) 3 < B 86 0 k - B 63 0 i) := by
        unfold wl1 cl; rw [e, kc, decide_eq_false k0]; rfl
      rw [e, mm_bf k0, kc]
      simp only [mm_ck ki]
      rw [show (3 : Int32) = nI 3 from rfl, r191 d nL _ (by decide) none hn er, sm_push_s, T238_55, nI_1, nI_1]
      by_cases hc : wcl B (wrule B (B 86 0 k) n) 3 < B 86 0 k - B 63 0 i
      · rw [wlt_s, hl, decide_eq_true hc] at h3
        rw [mm_bt hc]; exact h3
      · rw [wlt_s, hl, decide_eq_false hc] at h3
        rw [mm_bf hc]; exact h3
