/-! rules: which rule stands on a day -/
def wrule (B : sm_M) (x : Int32) : Nat → Option Nat
  | 0 => none
  | n + 1 => if x < B 70 0 n then wrule B x n else match wrule B x n with
    | none => some n
    | some k => if B 70 0 n < B 70 0 k then some k else some n
def wob : Option Nat → Option sm_V
  | none => vo 34
  | some k => some (Sum.inr (Sum.inr (some (36, k))))
def wnr : Option Nat → Int32
  | none => -1
  | some k => nI k
def K_rul (A B : sm_M) (r : Nat) : Prop := A 36 r 0 = nI r ∧ A 36 r 1 = B 70 0 r ∧ A 36 r 2 = B 71 0 (4 * r) ∧ A 36 r 3 = B 71 0 (4 * r + 1) ∧ A 36 r 4 = B 71 0 (4 * r + 2) ∧ A 36 r 5 = B 71 0 (4 * r + 3) ∧ A 36 r 6 = B 72 0 r ∧ A 36 r 7 = B 73 0 r ∧ ∃ y, y ≤ 9999 ∧ B 70 0 r = nI y
def J_rul (A B : sm_M) : Prop := ∃ n, n ≤ 10 ∧ A 13 0 1 = nI n ∧ B 11 0 27 = nI n ∧ (∀ r, r < n → K_rul A B r) ∧ A 34 0 0 = -1 ∧ A 34 0 2 = 999 ∧ A 34 0 3 = 0 ∧ A 34 0 4 = 0 ∧ A 34 0 5 = 999 ∧ A 34 0 6 = 210 ∧ A 34 0 7 = 0
theorem wrule_lt {B : sm_M} {x : Int32} : ∀ {n k : Nat}, wrule B x n = some k → k < n := by
  intro n
  induction n with
  | zero => intro k h; cases h
  | succ n ih =>
    intro k h
    unfold wrule at h
    split at h
    · exact Nat.lt_succ_of_lt (ih h)
    · split at h
      · cases h; exact Nat.lt_succ_self n
      · split at h
        · cases h; rename_i h2 _; exact Nat.lt_succ_of_lt (ih h2)
        · cases h; exact Nat.lt_succ_self n
theorem m48 {A B : sm_M} (d nL : Nat) (x : Int32) {n : Nat} (hn : n ≤ 10) (ea : A 13 0 1 = nI n) (hK : ∀ r, r < n → K_rul A B r) (Q : sm_Q) : ∀ j i : Nat, i + j = n → sm_W d 48 7 [vo 13, vi x, wob (wrule B x i), vi (nI i)] [] (sm_G0 nL) A Q = Q (wob (wrule B x n)) (sm_G0 nL) A := by
  intro j
  induction j with
  | zero =>
    intro i hi
    have hi' : i = n := by omega
    subst hi'
    cases h : wrule B x i with
    | none => show sm_W d 48 7 [vo 13, vi x, vo 34, vi (nI i)] [] (sm_G0 nL) A Q = _; rw [T48_7, ea, mm_bf (nI_nlt (Nat.le_refl _) (by omega))]; rfl
    | some k => show sm_W d 48 7 [vo 13, vi x, some (Sum.inr (Sum.inr (some (36, k)))), vi (nI i)] [] (sm_G0 nL) A Q = _; rw [T48_7a, ea, mm_bf (nI_nlt (Nat.le_refl _) (by omega))]; rfl
  | succ j ih =>
    intro i hi
    have h3 := ih (i + 1) (by omega)
    have i1 : nI i < nI n := nI_lt (by omega) (by omega)
    have i2 : nI i < (10 : Int32) := nI_lt (show i < 10 by omega) (by decide)
    have i3 : sm_in (nI i) 10 = true := mm_in (by omega) (by decide)
    have ic : (nI i).toNatClampNeg = i := nI_clamp (by omega)
    have ed := (hK i (by omega)).2.1
    cases h : wrule B x i with
    | none =>
      show sm_W d 48 7 [vo 13, vi x, vo 34, vi (nI i)] [] (sm_G0 nL) A Q = _
      rw [T48_7, ea, mm_bt i1, mm_bt i2, mm_ck i3, ic, ed, nI_1]
      by_cases hx : x < B 70 0 i
      · have e : wrule B x (i + 1) = none := by show (if x < B 70 0 i then _ else _) = _; rw [if_pos hx, h]
        rw [e] at h3
        rw [mm_bt hx]; exact h3
      · have e : wrule B x (i + 1) = some i := by show (if x < B 70 0 i then _ else _) = _; rw [if_neg hx, h]
        rw [e] at h3
        rw [mm_bf hx, show (Nat.beq 34 34 && Nat.beq 0 0) = true from rfl, sm_Br_t, mm_ck i3]; exact h3
    | some k =>
      have hk := wrule_lt h
      have edk := (hK k (by omega)).2.1
      show sm_W d 48 7 [vo 13, vi x, some (Sum.inr (Sum.inr (some (36, k)))), vi (nI i)] [] (sm_G0 nL) A Q = _
      rw [T48_7a, ea, mm_bt i1, mm_bt i2, mm_ck i3, ic, ed, nI_1, edk, show (Nat.beq 34 36 && Nat.beq 0 k) = false from rfl, sm_Br_f]
      by_cases hx : x < B 70 0 i
      · have e : wrule B x (i + 1) = some k := by show (if x < B 70 0 i then _ else _) = _; rw [if_pos hx, h]
        rw [e] at h3
        rw [mm_bt hx]; exact h3
      · by_cases hy : B 70 0 i < B 70 0 k
        · have e : wrule B x (i + 1) = some k := by show (if x < B 70 0 i then _ else _) = _; rw [if_neg hx, h]; exact if_pos hy
          rw [e] at h3
          rw [mm_bf hx, mm_ck i3, mm_bt hy]; exact h3
        · have e : wrule B x (i + 1) = some i := by show (if x < B 70 0 i then _ else _) = _; rw [if_neg hx, h]; exact if_neg hy
          rw [e] at h3
          rw [mm_bf hx, mm_ck i3, mm_bf hy, mm_ck i3]; exact h3
theorem m48e {A B : sm_M} (d nL : Nat) (x : Int32) (o1 o2 : Option sm_V) {n : Nat} (hn : n ≤ 10) (ea : A 13 0 1 = nI n) (hK : ∀ r, r < n → K_rul A B r) (Q : sm_Q) : sm_W d 48 0 [vo 13, vi x, o1, o2] [] (sm_G0 nL) A Q = Q (wob (wrule B x n)) (sm_G0 nL) A := by
  rw [T48]; exact m48 d nL x hn ea hK Q n 0 (by omega)
theorem r192 {B : sm_M} (d nL : Nat) (x : Int32) {n : Nat} (hn : n ≤ 10) (eb : B 11 0 27 = nI n) (Q : sm_Q) : ∀ j i : Nat, i + j = n → sm_W d 192 4 [vo 11, vi x, vi (wnr (wrule B x i)), vi (nI i)] [] (sm_G0 nL) B Q = Q (vi (wnr (wrule B x n))) (sm_G0 nL) B := by
  intro j
  induction j with
  | zero =>
    intro i hi
    have hi' : i = n := by omega
    subst hi'
    rw [T192_4, eb, mm_bf (nI_nlt (Nat.le_refl _) (by omega))]
  | succ j ih =>
    intro i hi
    have h3 := ih (i + 1) (by omega)
    have i1 : nI i < nI n := nI_lt (by omega) (by omega)
    have i3 : sm_in (nI i) 11 = true := mm_in (by omega) (by decide)
    have ic : (nI i).toNatClampNeg = i := nI_clamp (by omega)
    rw [T192_4, eb, mm_bt i1, mm_ck i3, ic, nI_1]
    by_cases hx : x < B 70 0 i
    · have e : wrule B x (i + 1) = wrule B x i := by show (if x < B 70 0 i then _ else _) = _; rw [if_pos hx]
      rw [e] at h3
      rw [mm_bt hx]; exact h3
    cases h : wrule B x i with
    | none =>
      have e : wrule B x (i + 1) = some i := by show (if x < B 70 0 i then _ else _) = _; rw [if_neg hx, h]
      rw [e] at h3
      rw [mm_bf hx, mm_bt (show wnr none < 0 from by decide)]; exact h3
    | some k =>
      have hk := wrule_lt h
      have k0 : ¬ wnr (some k) < 0 := nI_pos (show k < 2 ^ 31 by omega)
      have k3 : sm_in (wnr (some k)) 11 = true := mm_in (show k < 11 by omega) (by decide)
      have kc : (wnr (some k)).toNatClampNeg = k := nI_clamp (show k < 2 ^ 31 by omega)
      by_cases hy : B 70 0 i < B 70 0 k
      · have e : wrule B x (i + 1) = some k := by show (if x < B 70 0 i then _ else _) = _; rw [if_neg hx, h]; exact if_pos hy
        rw [e] at h3
        rw [mm_bf hx, mm_bf k0, mm_ck i3, mm_ck k3, kc, mm_bt hy]; exact h3
      · have e : wrule B x (i + 1) = some i := by show (if x < B 70 0 i then _ else _) = _; rw [if_neg hx, h]; exact if_neg hy
        rw [e] at h3
        rw [mm_bf hx, mm_bf k0, mm_ck i3, mm_ck k3, kc, mm_bf hy]; exact h3
theorem r192e {B : sm_M} (d nL : Nat) (x : Int32) (o1 o2 : Option sm_V) {n : Nat} (hn : n ≤ 10) (eb : B 11 0 27 = nI n) (Q : sm_Q) : sm_W d 192 0 [vo 11, vi x, o1, o2] [] (sm_G0 nL) B Q = Q (vi (wnr (wrule B x n))) (sm_G0 nL) B := by
  rw [T192]; exact r192 d nL x hn eb Q n 0 (by omega)
