/-! shift: the reference's loops -/
theorem mm_bo {v : Int32} (h : v = 0 ∨ v = 1) : vp_nar .boolean v = v := by
  rcases h with rfl | rfl <;> rfl
theorem r275a (d nL : Nat) {t a c n : Nat} (t2 b : Nat) (B : sm_M) (ht : t < 6) (hn : n ≤ 60) (hac : a + c ≤ n) (hB : ∀ k, k < c → B 99 0 (60 * t + a + k) = 0 ∨ B 99 0 (60 * t + a + k) = 1) (Q : sm_Q) : ∀ j i : Nat, i + j = c → sm_W (d + 2) 275 102 [vo 11, vi (nI t), vi (nI a), vi (nI t2), vi (nI b), vi (nI c), vi (nI i)] [] (sm_G0 nL) (s1 B (60 * t + a) i) Q = sm_W (d + 2) 275 160 [vo 11, vi (nI t), vi (nI a), vi (nI t2), vi (nI b), vi (nI c), vi (nI 0)] [] (sm_G0 nL) (s1 B (60 * t + a) c) Q := by
  intro j
  induction j with
  | zero =>
    intro i hi
    have hi' : i = c := by omega
    subst hi'
    rw [T275_102, mm_bf (nI_nlt (Nat.le_refl _) (by omega))]; rfl
  | succ j ih =>
    intro i hi
    have q : (60 : Int32) * nI t + nI a + nI i = nI (60 * t + a + i) := by show nI 60 * nI t + nI a + nI i = _; rw [pk_mul, nI_add, nI_add]
    have qi : sm_in (nI (60 * t + a + i)) 360 = true := mm_in (by omega) (by decide)
    have qc : (nI (60 * t + a + i)).toNatClampNeg = 60 * t + a + i := nI_clamp (by omega)
    have ii : sm_in (nI i) 60 = true := mm_in (by omega) (by decide)
    have ic : (nI i).toNatClampNeg = i := nI_clamp (by omega)
    have e1 : s1 B (60 * t + a) i 98 0 (60 * t + a + i) = B 98 0 (60 * t + a + i) := rfl
    have e2 : s1 B (60 * t + a) i 99 0 (60 * t + a + i) = B 99 0 (60 * t + a + i) := rfl
    rw [T275_102, mm_bt (nI_lt (by omega) (by omega)), q]
    simp only [mm_ck qi, mm_ck ii, qc, ic, e1, e2, mm_bo (hB i (by omega)), s1_s, nI_1]
    exact ih (i + 1) (by omega)
theorem r275b (d nL : Nat) {t2 b c n : Nat} (o0 o1 : Option sm_V) (B : sm_M) (ht : t2 < 6) (hn : n ≤ 60) (hbc : b + c ≤ n) (hB : ∀ k, k < c → B 101 0 k = 0 ∨ B 101 0 k = 1) (Q : sm_Q) : ∀ j i : Nat, i + j = c → sm_W (d + 2) 275 160 [vo 11, o0, o1, vi (nI t2), vi (nI b), vi (nI c), vi (nI i)] [] (sm_G0 nL) (s2 B (60 * t2 + b) (60 * t2 + b) i) Q = Q (vi (nI c)) (sm_G0 nL) (s2 B (60 * t2 + b) (60 * t2 + b) c) := by
  intro j
  induction j with
  | zero =>
    intro i hi
    have hi' : i = c := by omega
    subst hi'
    rw [T275_160, mm_bf (nI_nlt (Nat.le_refl _) (by omega))]
  | succ j ih =>
    intro i hi
    have q : (60 : Int32) * nI t2 + nI b + nI i = nI (60 * t2 + b + i) := by show nI 60 * nI t2 + nI b + nI i = _; rw [pk_mul, nI_add, nI_add]
    have qi : sm_in (nI (60 * t2 + b + i)) 360 = true := mm_in (by omega) (by decide)
    have qc : (nI (60 * t2 + b + i)).toNatClampNeg = 60 * t2 + b + i := nI_clamp (by omega)
    have ii : sm_in (nI i) 60 = true := mm_in (by omega) (by decide)
    have ic : (nI i).toNatClampNeg = i := nI_clamp (by omega)
    have e1 : s2 B (60 * t2 + b) (60 * t2 + b) i 100 0 i = B 100 0 i := rfl
    have e2 : s2 B (60 * t2 + b) (60 * t2 + b) i 101 0 i = B 101 0 i := rfl
    rw [T275_160, mm_bt (nI_lt (by omega) (by omega)), q]
    simp only [mm_ck qi, mm_ck ii, qc, ic, e1, e2, mm_bo (hB i (by omega)), s2_s, nI_1]
    exact ih (i + 1) (by omega)
