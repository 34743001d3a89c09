/-! shift -/
theorem mm_fit {n c a : Nat} (hn : n ≤ 60) (hc : c < 2 ^ 31) (ha : a < 2 ^ 31) (h : ¬ nI n - nI c < nI a) : a + c ≤ n := by
  by_cases hcn : c ≤ n
  · rw [pk_sub hcn, nI_ltI (by omega) ha] at h; omega
  · exfalso
    apply h
    rw [Int32.lt_iff_toInt_lt, Int32.toInt_sub, nI_toInt (by omega), nI_toInt hc, nI_toInt ha, Int.bmod_eq_of_le (by omega) (by omega)]
    omega
def s1 (B : sm_M) (p n : Nat) : sm_M := fun f i k => if f = 100 ∧ i = 0 ∧ k < n then B 98 0 (p + k) else if f = 101 ∧ i = 0 ∧ k < n then B 99 0 (p + k) else B f i k
def s2 (B : sm_M) (p r n : Nat) : sm_M := fun f i k => if f = 98 ∧ i = 0 ∧ r ≤ k ∧ k < r + n then B 100 0 (k - r) else if f = 99 ∧ i = 0 ∧ r ≤ k ∧ k < r + n then B 101 0 (k - r) else B f i k
theorem s1_0 (B : sm_M) (p : Nat) : s1 B p 0 = B := by
  funext f i k
  exact (if_neg (fun h => absurd h.2.2 (Nat.not_lt_zero _))).trans (if_neg (fun h => absurd h.2.2 (Nat.not_lt_zero _)))
theorem s2_0 (B : sm_M) (p r : Nat) : s2 B p r 0 = B := by
  funext f i k
  exact (if_neg (fun h => by omega)).trans (if_neg (fun h => by omega))
theorem s1_s (B : sm_M) (p n : Nat) : sm_u (sm_u (s1 B p n) 100 0 n (B 98 0 (p + n))) 101 0 n (B 99 0 (p + n)) = s1 B p (n + 1) := by
  funext f i k
  simp only [sm_u, s1]
  by_cases hi : i = 0
  · subst hi
    by_cases h1 : k = n
    · subst h1
      by_cases h2 : f = 100
      · subst h2; simp
      · by_cases h3 : f = 101
        · subst h3; simp
        · simp [h2, h3]
    · have h5 : (k < n + 1) ↔ k < n := by omega
      simp [h1, h5]
  · simp [hi]
theorem s2_s (B : sm_M) (p r n : Nat) : sm_u (sm_u (s2 B p r n) 98 0 (r + n) (B 100 0 n)) 99 0 (r + n) (B 101 0 n) = s2 B p r (n + 1) := by
  funext f i k
  simp only [sm_u, s2]
  by_cases hi : i = 0
  · subst hi
    by_cases h1 : k = r + n
    · subst h1
      have e : r + n - r = n := by omega
      have h4 : r + n < r + (n + 1) := by omega
      by_cases h2 : f = 98
      · subst h2; simp [e]
      · by_cases h3 : f = 99
        · subst h3; simp [e]
        · simp [h2, h3]
    · have h5 : (r ≤ k ∧ k < r + (n + 1)) ↔ (r ≤ k ∧ k < r + n) := by omega
      simp only [h1, h5]; simp
  · simp [hi]
