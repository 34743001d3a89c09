/-! notice: is there anything to tell -/
abbrev wbt (K kd : Int32) : Int32 := (K >>> (kd &&& 31)) &&& 1
theorem wbt_01 (K kd : Int32) : wbt K kd = 0 ∨ wbt K kd = 1 := by
  obtain ⟨j, hj, e⟩ := pk_andE (K >>> (kd &&& 31)) (m := 1) 1 (by decide)
  show (K >>> (kd &&& 31)) &&& 1 = 0 ∨ (K >>> (kd &&& 31)) &&& 1 = 1
  rw [e]
  have h2 : j = 0 ∨ j = 1 := by omega
  rcases h2 with rfl | rfl
  · exact .inl rfl
  · exact .inr rfl
theorem mm_us {M : sm_M} {f i k : Nat} : sm_u M f i k (M f i k) = M := by
  funext f' i' k'
  by_cases h : f' = f ∧ i' = i ∧ k' = k
  · obtain ⟨rfl, rfl, rfl⟩ := h; exact mm_up
  · exact if_neg h
def wun (A : sm_M) (K q : Int32) (i : Nat) : Bool := decide (wbt K (A 42 i 1) = 1) && (decide (A 42 i 7 = q) || decide (A 42 i 8 = q))
def wuc (A : sm_M) (K q : Int32) : Nat → Nat
  | 0 => 0
  | i + 1 => if wun A K q i = true then wuc A K q i + 1 else wuc A K q i
def wfl (n : Nat) : Nat := if n = 0 then 0 else 1
theorem wuc_le {A : sm_M} {K q : Int32} : ∀ i, wuc A K q i ≤ i
  | 0 => Nat.le_refl _
  | i + 1 => by
    have h := wuc_le (A := A) (K := K) (q := q) i
    unfold wuc
    split <;> omega
theorem m113 {A : sm_M} (d nL : Nat) {t : Nat} (ht : t ≤ 90) (ta : A 14 0 3 = nI t) (K q : Int32) (eq : A 14 0 5 = q) (Q : sm_Q) : ∀ (j i : Nat) (o3 : Option sm_V), i + j = t → sm_W (d + 1) 113 4 [vo 14, vi K, vi (nI (wuc A K q i)), vi (nI i), o3] [] (sm_G0 nL) A Q = Q (vi (nI (wuc A K q t))) (sm_G0 nL) A := by
  intro j
  induction j with
  | zero =>
    intro i o3 hi
    have hi' : i = t := by omega
    subst hi'
    rw [T113_4, ta, mm_bf (nI_nlt (Nat.le_refl _) (by omega))]
  | succ j ih =>
    intro i o3 hi
    have h3 := fun o => ih (i + 1) o (by omega)
    rw [T113_4, ta, mm_bt (nI_lt (by omega) (by omega)), m42s ta ht (by omega), sm_push_s, T113_17, eq]
    simp only [nI_1]
    by_cases b : wbt K (A 42 i 1) = 1
    · by_cases c7 : A 42 i 7 = q
      · have e : wuc A K q (i + 1) = wuc A K q i + 1 := by simp [wuc, wun, b, c7]
        rw [e] at h3
        rw [mm_bt b, mm_bt c7]; exact h3 _
      · by_cases c8 : A 42 i 8 = q
        · have e : wuc A K q (i + 1) = wuc A K q i + 1 := by simp [wuc, wun, b, c8]
          rw [e] at h3
          rw [mm_bt b, mm_bf c7, mm_bt c8]; exact h3 _
        · have e : wuc A K q (i + 1) = wuc A K q i := by simp [wuc, wun, b, c7, c8]
          rw [e] at h3
          rw [mm_bt b, mm_bf c7, mm_bf c8]; exact h3 _
    · have e : wuc A K q (i + 1) = wuc A K q i := by simp [wuc, wun, b]
      rw [e] at h3
      rw [mm_bf b]; exact h3 _
/-- what a thing's row must say for both sides to find it alike -/
def K_unt (A B : sm_M) (q F : Int32) (i : Nat) : Prop := A 42 i 1 = B 59 0 i ∧ (A 42 i 7 = q ↔ F < B 65 0 i) ∧ (A 42 i 7 = q → B 67 0 i < 0) ∧ (A 42 i 8 = q ↔ (¬ B 64 0 i < 0 ∧ F < B 66 0 i)) ∧ (A 42 i 8 = q → B 68 0 i < 0)
theorem r233a {A B : sm_M} (d nL : Nat) {t : Nat} (ht : t ≤ 90) (tb : B 11 0 13 = nI t) (K q F : Int32) (hU : ∀ i, i < t → K_unt A B q F i) (Q : sm_Q) : ∀ (j i : Nat), i + j = t → sm_W (d + 2) 233 37 [vo 11, vi K, vi F, vi (nI (wfl (wuc A K q i))), vi (nI i)] [] (sm_G0 nL) B Q = sm_Br (decide (nI (wfl (wuc A K q t)) = 0)) (Q (vi (-3)) (sm_G0 nL) B) (sm_Br (decide (B 11 0 49 = 60)) (Q (vi (-4)) (sm_G0 nL) B) (sm_W (d + 2) 233 129 [vo 11, vi K, vi F, vi (nI (wfl (wuc A K q t))), vi 0] [] (sm_G0 nL) (sm_u B 11 0 2 (B 11 0 2 + 1)) Q)) := by
  intro j
  induction j with
  | zero =>
    intro i hi
    have hi' : i = t := by omega
    subst hi'
    rw [T233_37, tb, mm_bf (nI_nlt (Nat.le_refl _) (by omega))]
  | succ j ih =>
    intro i hi
    have h3 := ih (i + 1) (by omega)
    obtain ⟨u1, u7, u7', u8, u8'⟩ := hU i (by omega)
    have ei : sm_in (nI i) 90 = true := mm_in (by omega) (by decide)
    have ec : (nI i).toNatClampNeg = i := nI_clamp (by omega)
    have il : nI i < nI t := nI_lt (by omega) (by omega)
    rw [T233_37]
    simp only [tb, il, ei, ec, sm_Ck_t, nI_1, ↓sm_Br_d, ↓reduceIte]
    simp only [sm_Br_d] at h3
    by_cases hz : wuc A K q i = 0
    · have z : nI (wfl (wuc A K q i)) = 0 := by rw [hz]; rfl
      by_cases b : wbt K (A 42 i 1) = 1
      · have b' : (K >>> (B 59 0 i &&& 31)) &&& 1 = 1 := by rw [← u1]; exact b
        by_cases c7 : A 42 i 7 = q
        · have e : wfl (wuc A K q (i + 1)) = 1 := by simp [wfl, wuc, wun, b, c7]
          rw [e] at h3
          simp only [z, b', u7.mp c7, u7' c7, ↓reduceIte]; exact h3
        · have c7' : ¬ F < B 65 0 i := fun h => c7 (u7.mpr h)
          by_cases c8 : A 42 i 8 = q
          · have e : wfl (wuc A K q (i + 1)) = 1 := by simp [wfl, wuc, wun, b, c8]
            rw [e] at h3
            simp only [z, b', c7', (u8.mp c8).1, (u8.mp c8).2, u8' c8, ↓reduceIte]; exact h3
          · have e : wfl (wuc A K q (i + 1)) = 0 := by simp [wfl, wuc, wun, b, c7, c8, hz]
            rw [e] at h3
            by_cases c64 : B 64 0 i < 0
            · simp only [z, b', c7', c64, ↓reduceIte]; exact h3
            · have c8' : ¬ F < B 66 0 i := fun h => c8 (u8.mpr ⟨c64, h⟩)
              simp only [z, b', c7', c64, c8', ↓reduceIte]; exact h3
      · have b' : ¬ (K >>> (B 59 0 i &&& 31)) &&& 1 = 1 := by rw [← u1]; exact b
        have e : wfl (wuc A K q (i + 1)) = 0 := by simp [wfl, wuc, wun, b, hz]
        rw [e] at h3
        simp only [z, b', ↓reduceIte]; exact h3
    · have z : ¬ nI (wfl (wuc A K q i)) = 0 := by simp only [wfl, hz, ↓reduceIte]; decide
      have e : wfl (wuc A K q (i + 1)) = 1 := by
        have : wuc A K q (i + 1) ≠ 0 := by unfold wuc; split <;> omega
        simp only [wfl, this, ↓reduceIte]
      rw [e] at h3
      simp only [z, ↓reduceIte]; exact h3
