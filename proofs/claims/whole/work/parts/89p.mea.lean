/-! tapes: laid anew (loops) -/
def zA (A : sm_M) (t n : Nat) : sm_M := fun f i k => if f = 49 ∧ i = t ∧ k < n then 0 else A f i k
def zB (B : sm_M) (t n : Nat) : sm_M := fun f i k => if (f = 98 ∨ f = 99) ∧ i = 0 ∧ 60 * t ≤ k ∧ k < 60 * t + n then 0 else B f i k
theorem zA_s (A : sm_M) (t n : Nat) : sm_u (zA A t n) 49 t n 0 = zA A t (n + 1) := by
  funext f i k
  simp only [sm_u, zA]
  by_cases h : f = 49 ∧ i = t
  · obtain ⟨rfl, rfl⟩ := h
    by_cases h1 : k = n
    · subst h1; simp
    · by_cases h2 : k < n
      · simp [h1, h2, Nat.lt_succ_of_lt h2]
      · have h3 : ¬ k < n + 1 := by omega
        simp [h1, h2, h3]
  · rw [if_neg (fun hh => h ⟨hh.1, hh.2.1⟩), if_neg (fun hh => h ⟨hh.1, hh.2.1⟩), if_neg (fun hh => h ⟨hh.1, hh.2.1⟩)]
theorem zB_s (B : sm_M) (t n : Nat) : sm_u (sm_u (zB B t n) 98 0 (60 * t + n) 0) 99 0 (60 * t + n) 0 = zB B t (n + 1) := by
  funext f i k
  simp only [sm_u, zB]
  by_cases h : (f = 98 ∨ f = 99) ∧ i = 0
  · obtain ⟨hf, rfl⟩ := h
    by_cases h1 : k = 60 * t + n
    · subst h1
      have h4 : 60 * t + n < 60 * t + (n + 1) := by omega
      rcases hf with rfl | rfl <;> simp
    · have h5 : (60 * t ≤ k ∧ k < 60 * t + n) ↔ (60 * t ≤ k ∧ k < 60 * t + (n + 1)) := by omega
      rcases hf with rfl | rfl <;> simp [h1, h5]
  · rw [if_neg (fun hh => h ⟨.inr hh.1, hh.2.1⟩), if_neg (fun hh => h ⟨.inl hh.1, hh.2.1⟩), if_neg (fun hh => h ⟨hh.1, hh.2.1⟩), if_neg (fun hh => h ⟨hh.1, hh.2.1⟩)]
theorem m158 (d nL t : Nat) (A : sm_M) (o1 o2 : Option sm_V) (Q : sm_Q) : ∀ j i : Nat, i + j = 60 → sm_W d 158 12 [some (Sum.inr (Sum.inr (some (26, t)))), o1, o2, vi (nI i)] [] (sm_G0 nL) (zA A t i) Q = Q none (sm_G0 nL) (zA A t 60) := by
  intro j
  induction j with
  | zero =>
    intro i hi
    have hi' : i = 60 := by omega
    subst hi'
    rw [T158_12, mm_bf (by decide)]
  | succ j ih =>
    intro i hi
    have i1 : nI i < (60 : Int32) := nI_lt (show i < 60 by omega) (by decide)
    rw [T158_12, mm_bt i1, mm_ck (mm_in (by omega) (by decide)), nI_clamp (by omega), zA_s, nI_1]
    exact ih (i + 1) (by omega)
theorem r270 (d nL t : Nat) (ht : t < 6) (B : sm_M) (o1 o2 : Option sm_V) (Q : sm_Q) : ∀ j i : Nat, i + j = 60 → sm_W (d + 2) 270 70 [vo 11, vi (nI t), o1, o2, vi (nI (60 * t + i))] [] (sm_G0 nL) (zB B t i) Q = Q (vi 1) (sm_G0 nL) (zB B t 60) := by
  intro j
  have e : (60 : Int32) * nI t + 60 = nI (60 * t + 60) := by show nI 60 * nI t + nI 60 = _; rw [pk_mul, nI_add]
  induction j with
  | zero =>
    intro i hi
    have hi' : i = 60 := by omega
    subst hi'
    rw [T270_70, e, mm_bf (nI_nlt (Nat.le_refl _) (by omega))]
  | succ j ih =>
    intro i hi
    have ii : sm_in (nI (60 * t + i)) 360 = true := mm_in (by omega) (by decide)
    rw [T270_70, e, mm_bt (nI_lt (by omega) (by omega)), mm_ck ii, mm_ck ii, nI_clamp (by omega), show vp_nar .boolean 0 = 0 from rfl, zB_s, nI_1]
    exact ih (i + 1) (by omega)
