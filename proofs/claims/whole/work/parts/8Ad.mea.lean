/-! what stands in a cell on a day -/
def wst (B : sm_M) (y : Int32) (i : Nat) : Bool := !decide (y < B 63 0 i) && (decide (B 64 0 i < 0) || decide (y < B 64 0 i))
def wone (B : sm_M) (kd c y : Int32) (i : Nat) : Bool := decide (B 59 0 i = kd) && decide (B 60 0 i = c) && wst B y i
theorem m53 {A B : sm_M} (d nL : Nat) {i : Nat} (e5 : A 42 i 5 = B 63 0 i) (e6 : A 42 i 6 = B 64 0 i) (y : Int32) (Q : sm_Q) : sm_W d 53 0 [some (Sum.inr (Sum.inr (some (42, i)))), vi y] [] (sm_G0 nL) A Q = Q (vi (mb (wst B y i))) (sm_G0 nL) A := by
  rw [T53, e5, e6]
  unfold wst
  by_cases h1 : y < B 63 0 i
  · rw [mm_bt h1, decide_eq_true h1]; rfl
  · rw [mm_bf h1, decide_eq_false h1]
    by_cases h2 : B 64 0 i < 0
    · rw [mm_bt h2, decide_eq_true h2]; rfl
    · rw [mm_bf h2, decide_eq_false h2]
      by_cases h3 : y < B 64 0 i
      · rw [mm_bt h3, decide_eq_true h3]; rfl
      · rw [mm_bf h3, decide_eq_false h3]; rfl
theorem r193 {B : sm_M} (d nL : Nat) {i : Nat} (hi : i < 90) (y : Int32) (Q : sm_Q) : sm_W d 193 0 [vo 11, vi (nI i), vi y] [] (sm_G0 nL) B Q = Q (vi (mb (wst B y i))) (sm_G0 nL) B := by
  have ei : sm_in (nI i) 90 = true := mm_in (by omega) (by decide)
  rw [T193, nI_clamp (by omega)]
  simp only [mm_ck ei]
  unfold wst
  by_cases h1 : y < B 63 0 i
  · rw [mm_bt h1, decide_eq_true h1]; rfl
  · rw [mm_bf h1, decide_eq_false h1]
    by_cases h2 : B 64 0 i < 0
    · rw [mm_bt h2, decide_eq_true h2]; rfl
    · rw [mm_bf h2, decide_eq_false h2]
      by_cases h3 : y < B 64 0 i
      · rw [mm_bt h3, decide_eq_true h3]; rfl
      · rw [mm_bf h3, decide_eq_false h3]; rfl
theorem m52 {A B : sm_M} (d nL : Nat) {i s : Nat} (hK : K_thg A B s i) (kd c y : Int32) (Q : sm_Q) : sm_W (d + 1) 52 0 [some (Sum.inr (Sum.inr (some (42, i)))), vi kd, vi c, vi y] [] (sm_G0 nL) A Q = Q (vi (mb (wone B kd c y i))) (sm_G0 nL) A := by
  obtain ⟨k1, k2, k3, k4, k5, k6, -⟩ := hK
  rw [T52a, k1, k2]
  unfold wone
  by_cases h1 : B 59 0 i = kd
  · rw [mm_bt h1, decide_eq_true h1]
    by_cases h2 : B 60 0 i = c
    · rw [mm_bt h2, decide_eq_true h2, m53 d nL k5 k6, sm_push_s, T52_25]
      cases wst B y i
      · rw [mm_bt (by decide)]; rfl
      · rw [mm_bf (by decide)]; rfl
    · rw [mm_bf h2, decide_eq_false h2]; simp [mb]
  · rw [mm_bf h1, decide_eq_false h1]; simp [mb]
theorem m54 {A B : sm_M} (d nL : Nat) {s v : Nat} (hs : s ≤ 12) (hv : v < s) (es : A 14 0 1 = nI s) (e2 : A 41 v 2 = B 52 0 v) (o1 : Option sm_V) (Q : sm_Q) : sm_W (d + 1) 54 0 [vo 14, vi (nI v), o1] [] (sm_G0 nL) A Q = Q (vi (B 52 0 v)) (sm_G0 nL) A := by
  obtain ⟨p0, p1, p2, p3, p4, -⟩ := mm_six hv hs
  rw [T54, mm_bf p0, es, mm_bt p1, mm_bt p2, mm_ck p3, p4, e2]
/-! is a cell covered -/
def wcv (B : sm_M) (w f c y : Int32) : Nat → Nat → Bool
  | 0, _ => false
  | j + 1, i => if (wone B 1 c y i && decide (f + w < B 62 0 i) && !decide (w < B 52 0 (cl (B 61 0 i)))) = true then true else wcv B w f c y j (i + 1)
theorem m51 {A B : sm_M} (d nL : Nat) {t s n : Nat} {w f c y : Int32} (ht : t ≤ 90) (hs : s ≤ 12) (ta : A 14 0 3 = nI t) (es : A 14 0 1 = nI s) (hT : ∀ i, i < t → K_thg A B s i) (hK : K_srv A B s) (ef : A 42 n 4 = f) (Q : sm_Q) : ∀ (j i : Nat) (o5 : Option sm_V), i + j = t → sm_W (d + 2) 51 8 [vo 14, some (Sum.inr (Sum.inr (some (42, n)))), vi c, vi w, vi y, vi (nI i), o5] [] (sm_G0 nL) A Q = Q (vi (mb (wcv B w f c y j i))) (sm_G0 nL) A := by
  intro j
  induction j with
  | zero =>
    intro i o5 hi
    have hi' : i = t := by omega
    subst hi'
    rw [T51_8, ta, mm_bf (nI_nlt (Nat.le_refl _) (by omega))]; rfl
  | succ j ih =>
    intro i o5 hi
    have h3 := fun o => ih (i + 1) o (by omega)
    have hTi := hT i (by omega)
    obtain ⟨k1, k2, k3, k4, k5, k6, k7, k8, ⟨v, hv, ev⟩, -⟩ := hTi
    rw [T51_8, ta, mm_bt (nI_lt (by omega) (by omega)), m42s ta ht (by omega), sm_push_s, T51_23, m52 d nL (hT i (by omega)), sm_push_s, T51_34a, nI_1, ef, k4, k3, ev]
    show _ = Q (vi (mb (if (wone B 1 c y i && decide (f + w < B 62 0 i) && !decide (w < B 52 0 (cl (B 61 0 i)))) = true then true else wcv B w f c y j (i + 1)))) _ _
    have ecl : cl (B 61 0 i) = v := by unfold cl; rw [ev, nI_clamp (by omega)]
    rw [ecl]
    cases h1 : wone B 1 c y i with
    | false => rw [mm_bt (by decide)]; simp only [Bool.false_and, Bool.false_eq_true, ↓reduceIte]; exact h3 _
    | true =>
      rw [mm_bf (by decide)]
      by_cases h2 : f + w < B 62 0 i
      · rw [mm_bt h2, m54 d nL hs hv es (hK v hv).1.2.2, sm_push_s, T51_60, nI_1]
        by_cases h4 : w < B 52 0 v
        · rw [mm_bt h4, decide_eq_true h4]; simp only [Bool.not_true, Bool.and_false, Bool.false_eq_true, ↓reduceIte]; exact h3 _
        · rw [mm_bf h4, decide_eq_true h2, decide_eq_false h4]; simp [mb]
      · rw [mm_bf h2, decide_eq_false h2]; simp only [Bool.and_false, Bool.false_and, Bool.false_eq_true, ↓reduceIte]; exact h3 _
theorem r190 {B : sm_M} (d nL : Nat) {t s n : Nat} {w c y : Int32} (ht : t ≤ 90) (hs : s ≤ 12) (hn : n < 90) (tb : B 11 0 13 = nI t) (ey : B 11 0 1 = y) (hT : ∀ i, i < t → ∃ v, v < s ∧ B 61 0 i = nI v) (Q : sm_Q) : ∀ (j i : Nat), i + j = t → sm_W (d + 2) 190 15 [vo 11, vi (nI n), vi c, vi w, vi (nI i)] [] (sm_G0 nL) B Q = Q (vi (mb (wcv B w (B 62 0 n) c y j i))) (sm_G0 nL) B := by
  intro j
  induction j with
  | zero =>
    intro i hi
    have hi' : i = t := by omega
    subst hi'
    rw [T190_15, tb, mm_bf (nI_nlt (Nat.le_refl _) (by omega))]; rfl
  | succ j ih =>
    intro i hi
    have h3 := ih (i + 1) (by omega)
    obtain ⟨v, hv, ev⟩ := hT i (by omega)
    have ei : sm_in (nI i) 90 = true := mm_in (by omega) (by decide)
    have ec : (nI i).toNatClampNeg = i := nI_clamp (by omega)
    have en : sm_in (nI n) 90 = true := mm_in (by omega) (by decide)
    have nc : (nI n).toNatClampNeg = n := nI_clamp (by omega)
    have vc : (nI v).toNatClampNeg = v := nI_clamp (by omega)
    have evi : sm_in (nI v) 12 = true := mm_in (by omega) (by decide)
    rw [T190_15, tb, mm_bt (nI_lt (by omega) (by omega)), mm_ck ei, ec, nI_1]
    show _ = Q (vi (mb (if (wone B 1 c y i && decide (B 62 0 n + w < B 62 0 i) && !decide (w < B 52 0 (cl (B 61 0 i)))) = true then true else wcv B w (B 62 0 n) c y j (i + 1)))) _ _
    have ecl : cl (B 61 0 i) = v := by unfold cl; rw [ev, vc]
    rw [ecl]
    unfold wone
    by_cases h1 : B 59 0 i = 1
    · rw [mm_bt h1, mm_ck ei, decide_eq_true h1]
      by_cases h2 : B 60 0 i = c
      · rw [mm_bt h2, decide_eq_true h2, ey, r193 (d + 1) nL (show i < 90 by omega), sm_push_s, T190_56]
        simp only [mm_ck ei, ec, mm_ck en, nc, ev, mm_ck evi, vc, nI_1]
        cases h5 : wst B y i with
        | false => rw [mm_bt (by decide)]; simp only [Bool.and_false, Bool.false_and, Bool.false_eq_true, ↓reduceIte]; exact h3
        | true =>
          rw [mm_bf (by decide)]
          by_cases h4 : w < B 52 0 v
          · rw [mm_bt h4, decide_eq_true h4]; simp only [Bool.not_true, Bool.and_false, Bool.false_eq_true, ↓reduceIte]; exact h3
          · rw [mm_bf h4, decide_eq_false h4]
            by_cases h6 : B 62 0 n + w < B 62 0 i
            · rw [mm_bt h6, decide_eq_true h6]; simp [mb]
            · rw [mm_bf h6, decide_eq_false h6]; simp only [Bool.and_false, Bool.false_and, Bool.false_eq_true, ↓reduceIte]; exact h3
      · rw [mm_bf h2, decide_eq_false h2]; simp only [Bool.and_false, Bool.false_and, Bool.false_eq_true, ↓reduceIte]; exact h3
    · rw [mm_bf h1, decide_eq_false h1]; simp only [Bool.and_false, Bool.false_and, Bool.false_eq_true, ↓reduceIte]; exact h3
