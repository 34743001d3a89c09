/-! what a set lacks: the class -/
theorem wsm_z (f : Nat → Bool) (n x : Nat) : (wsm f n &&& x = 0) ↔ wex (fun j => f j && x.testBit j) n = false := by
  rw [Bool.eq_false_iff, ne_eq, wex_t]
  constructor
  · rintro h ⟨k, hk, hb⟩
    have h1 : (wsm f n &&& x).testBit k = true := by
      rw [Nat.testBit_and, wsm_tb]
      rw [Bool.and_eq_true] at hb
      simp [hk, hb.1, hb.2]
    rw [h] at h1; simp at h1
  · intro h
    apply Nat.eq_of_testBit_eq
    intro i
    rw [Nat.testBit_and, wsm_tb, Nat.zero_testBit]
    by_cases hi : i < n
    · cases hb : (f i && x.testBit i) with
      | true => exact absurd ⟨i, hi, hb⟩ h
      | false => simp [hi, hb]
    · simp [hi]
theorem mm_nand {a x : Nat} (ha : a < 2 ^ 31) : (nI a &&& nI x = 0) = (a &&& x = 0) := by
  rw [nI_and]
  apply propext
  have h : a &&& x < 2 ^ 31 := Nat.lt_of_le_of_lt Nat.and_le_left ha
  exact nI_eq (a := a &&& x) (b := 0) h (by decide)
theorem m101 {A B : sm_M} {k c r q z x : Nat} (nL : Nat) (N : Int32) (hS : SA A k c r q z) (hZ : SZ c r q z) (G : Nat → Int32) (hL : LK A B k c r q z N G) (hx : x < 2 ^ 31) (d : Nat) (Q : sm_Q) : ∀ j i o3, i + j = r * q → sm_W (d + 2) 101 2 [some (Sum.inr (Sum.inr (some (23, k)))), vi (nI x), vi (nI i), o3] [] (sm_G0 nL) A Q = Q (vi (wfa (wam G c q z (r * q) N x) j i)) (sm_G0 nL) A := by
  obtain ⟨hm, h12, hq1, hq0⟩ := SZ_f hZ
  obtain ⟨z1, z2, z3, z4, z5, z6, z7, z8, z9⟩ := id hZ
  obtain ⟨s0, s1, s2, s3⟩ := hS
  obtain ⟨l1, l2, l3⟩ := hL
  have hK : wsm (wkn G) (r * q) < 2 ^ 31 := Nat.lt_of_lt_of_le (wsm_lt _ _) (Nat.pow_le_pow_right (by decide) (by omega))
  intro j
  induction j with
  | zero =>
    intro i o3 hi
    have hi' : i = r * q := by omega
    subst hi'
    rw [T101_2, s1, s2, hm, mm_bf h12, mm_bf (nI_nlt (Nat.le_refl _) (by omega))]; rfl
  | succ j ih =>
    intro i o3 hi
    have h3 := fun o => ih (i + 1) o (by omega)
    have ii : sm_in (nI i) 12 = true := mm_in (by omega) (by decide)
    have ic : (nI i).toNatClampNeg = i := nI_clamp (by omega)
    have hw : wfa (wam G c q z (r * q) N x) (j + 1) i = if wam G c q z (r * q) N x i = true then nI i else wfa (wam G c q z (r * q) N x) j (i + 1) := rfl
    have hkb : ((nI (wsm (wkn G) (r * q)) >>> (nI i &&& 31)) &&& 1 = 1) = (wkn G i = true) := by
      refine (wbt_tb hK (by omega)).trans ?_
      rw [wsm_tb]; simp [show i < r * q by omega]
    have hxb : ((nI x >>> (nI i &&& 31)) &&& 1 = 1) = (x.testBit i = true) := wbt_tb hx (by omega)
    have hl : wsm (wsw G c q z N i) (r * q) < 2 ^ 31 := Nat.lt_of_lt_of_le (wsm_lt _ _) (Nat.pow_le_pow_right (by decide) (by omega))
    rw [T101_2, s1, s2, hm, mm_bf h12, mm_bt (nI_lt (by omega) (by omega)), l2, hw]
    simp only [ii, ic, l3 i (by omega), sm_Ck_t, hkb, hxb, nI_1, mm_nand hl, wsm_z, sm_Br_d]
    unfold wam wkn
    by_cases hn : G i = -1000000
    · simp only [hn, decide_true, Bool.not_true, Bool.false_eq_true, ↓reduceIte]
      by_cases hb : x.testBit i = true
      · rw [if_pos hb, if_pos hb]
      · rw [if_neg hb, if_neg hb]; exact h3 _
    · simp only [hn, decide_false, Bool.not_false, ↓reduceIte]
      cases hb : wex (fun j => wsw G c q z N i j && x.testBit j) (r * q) with
      | false => simp only [Bool.not_false, ↓reduceIte]
      | true => simp only [Bool.not_true, Bool.true_eq_false, Bool.false_eq_true, ↓reduceIte]; exact h3 _
/-! the fewest -/
def wvl (G : Nat → Int32) (c q z m : Nat) (N : Int32) (x : Nat) : Bool := decide (wfa (wam G c q z m N x) m 0 < 0)
def wsc (P : Nat → Bool) : Nat → Option Nat
  | 0 => none
  | x + 1 => if P x = true then (match wsc P x with
    | none => some x
    | some g => if wpb x 12 < wpb g 12 then some x else some g) else wsc P x
theorem wfa_n {P : Nat → Bool} : ∀ {j i : Nat}, (∀ k, i ≤ k → k < i + j → P k = false) → wfa P j i = -1
  | 0, _, _ => rfl
  | j + 1, i, h => by
    unfold wfa
    rw [if_neg (by rw [h i (Nat.le_refl _) (by omega)]; decide)]
    exact wfa_n (fun k hk hk2 => h k (by omega) (by omega))
theorem wfa_p {P : Nat → Bool} : ∀ {j i : Nat}, i + j < 2 ^ 20 → wfa P j i < 0 → ∀ k, i ≤ k → k < i + j → P k = false
  | 0, i, _, _ => fun k h1 h2 => absurd h2 (by omega)
  | j + 1, i, hb, h => by
    intro k h1 h2
    unfold wfa at h
    by_cases hp : P i = true
    · rw [if_pos hp] at h; exact absurd h (nI_pos (by omega))
    · rw [if_neg hp] at h
      by_cases hk : k = i
      · subst hk; simpa using hp
      · exact wfa_p (by omega) h k (by omega) (by omega)
theorem wvl_sub {G : Nat → Int32} {c q z m : Nat} {N : Int32} {x : Nat} (hm : m ≤ 12) (hx : x < 2 ^ m) (hv : wvl G c q z m N x = true) (i : Nat) (hb : x.testBit i = true) : (wsm (wkn G) m).testBit i = true := by
  have him : i < m := by
    rcases Nat.lt_or_ge i m with h | h
    · exact h
    · rw [Nat.testBit_lt_two_pow (Nat.lt_of_lt_of_le hx (Nat.pow_le_pow_right (by decide) h))] at hb; exact absurd hb (by decide)
  have h1 := wfa_p (show 0 + m < 2 ^ 20 by omega) (of_decide_eq_true hv) i (Nat.zero_le _) (by omega)
  rw [wsm_tb]
  unfold wam at h1
  by_cases hn : G i = -1000000
  · rw [if_pos hn, hb] at h1; exact absurd h1 (by decide)
  · simp [him, wkn, hn]
theorem wvl_le {G : Nat → Int32} {c q z m : Nat} {N : Int32} {x : Nat} (hm : m ≤ 12) (hx : x < 2 ^ m) (hv : wvl G c q z m N x = true) : x ≤ wsm (wkn G) m := by
  have h : x &&& wsm (wkn G) m = x := Nat.eq_of_testBit_eq (fun i => by
    rw [Nat.testBit_and]
    cases hb : x.testBit i with
    | false => rfl
    | true => rw [wvl_sub hm hx hv i hb]; rfl)
  rw [← h]; exact Nat.and_le_right
theorem wvl_K {G : Nat → Int32} {c q z m : Nat} {N : Int32} : wvl G c q z m N (wsm (wkn G) m) = true := by
  refine decide_eq_true ?_
  rw [wfa_n]
  · decide
  · intro k _ hk
    have hk' : k < m := by omega
    unfold wam
    by_cases hn : G k = -1000000
    · rw [if_pos hn, wsm_tb]; simp [wkn, hn]
    · rw [if_neg hn]
      have : wex (fun j => wsw G c q z N k j && (wsm (wkn G) m).testBit j) m = true := wex_t.mpr ⟨k, hk', by rw [wsm_tb]; simp [wsw, wkn, hn, hk']⟩
      rw [this]; rfl
theorem wsc_step {G : Nat → Int32} {c q z m : Nat} {N : Int32} {x : Nat} (hm : m ≤ 12) (hx : x < 2 ^ m) : (wsc (wvl G c q z m N) (x + 1)).getD (wsm (wkn G) m) = if wpb x 12 < wpb ((wsc (wvl G c q z m N) x).getD (wsm (wkn G) m)) 12 then (if wvl G c q z m N x = true then x else (wsc (wvl G c q z m N) x).getD (wsm (wkn G) m)) else (wsc (wvl G c q z m N) x).getD (wsm (wkn G) m) := by
  have hw : wsc (wvl G c q z m N) (x + 1) = if wvl G c q z m N x = true then (match wsc (wvl G c q z m N) x with
    | none => some x
    | some g => if wpb x 12 < wpb g 12 then some x else some g) else wsc (wvl G c q z m N) x := rfl
  rw [hw]
  by_cases hv : wvl G c q z m N x = true
  · rw [if_pos hv]
    cases hs : wsc (wvl G c q z m N) x with
    | none =>
      simp only [Option.getD_none, Option.getD_some, hv, ↓reduceIte]
      by_cases hc : wpb x 12 < wpb (wsm (wkn G) m) 12
      · rw [if_pos hc]
      · rw [if_neg hc]
        obtain ⟨h1, h2⟩ := wpb_sub (x := x) (k := wsm (wkn G) m) 12 (fun i _ hb => wvl_sub hm hx hv i hb)
        have h3 := h2 (by omega)
        apply Nat.eq_of_testBit_eq
        intro i
        rcases Nat.lt_or_ge i 12 with h | h
        · exact h3 i h
        · have p1 : 2 ^ m ≤ 2 ^ i := Nat.pow_le_pow_right (by decide) (by omega)
          rw [Nat.testBit_lt_two_pow (Nat.lt_of_lt_of_le hx p1), Nat.testBit_lt_two_pow (Nat.lt_of_lt_of_le (wsm_lt _ _) p1)]
    | some g =>
      simp only [Option.getD_some, hv, ↓reduceIte]
      by_cases hc : wpb x 12 < wpb g 12
      · rw [if_pos hc, if_pos hc]; rfl
      · rw [if_neg hc, if_neg hc]; rfl
  · rw [if_neg hv]
    split <;> simp [hv]
theorem wsc_end {G : Nat → Int32} {c q z m : Nat} {N : Int32} (hm : m ≤ 12) : ∀ j, wsm (wkn G) m + 1 + j ≤ 2 ^ m → wsc (wvl G c q z m N) (wsm (wkn G) m + 1 + j) = wsc (wvl G c q z m N) (wsm (wkn G) m + 1)
  | 0, _ => rfl
  | j + 1, h => by
    have ih := wsc_end (G := G) (c := c) (q := q) (z := z) (N := N) hm j (by omega)
    have hv : ¬ wvl G c q z m N (wsm (wkn G) m + 1 + j) = true := fun hv => by
      have := wvl_le hm (show wsm (wkn G) m + 1 + j < 2 ^ m by omega) hv
      omega
    show (if wvl G c q z m N (wsm (wkn G) m + 1 + j) = true then _ else wsc (wvl G c q z m N) (wsm (wkn G) m + 1 + j)) = _
    rw [if_neg hv, ih]
/-- what is shown -/
def wfw (G : Nat → Int32) (c q z m : Nat) (N : Int32) : Nat := (wsc (wvl G c q z m N) (wsm (wkn G) m + 1)).getD (wsm (wkn G) m)
theorem wsc_v {G : Nat → Int32} {c q z m : Nat} {N : Int32} (hm : m ≤ 12) : wsc (wvl G c q z m N) (2 ^ m) = some (wfw G c q z m N) := by
  have hK := wsm_lt (wkn G) m
  have h := wsc_end (G := G) (c := c) (q := q) (z := z) (N := N) hm (2 ^ m - (wsm (wkn G) m + 1)) (by omega)
  rw [show wsm (wkn G) m + 1 + (2 ^ m - (wsm (wkn G) m + 1)) = 2 ^ m from by omega] at h
  rw [h]
  unfold wfw
  cases hs : wsc (wvl G c q z m N) (wsm (wkn G) m + 1) with
  | some g => rfl
  | none =>
    exfalso
    have hw : wsc (wvl G c q z m N) (wsm (wkn G) m + 1) = if wvl G c q z m N (wsm (wkn G) m) = true then (match wsc (wvl G c q z m N) (wsm (wkn G) m) with
      | none => some (wsm (wkn G) m)
      | some g => if wpb (wsm (wkn G) m) 12 < wpb g 12 then some (wsm (wkn G) m) else some g) else wsc (wvl G c q z m N) (wsm (wkn G) m) := rfl
    rw [hw, if_pos wvl_K] at hs
    cases h2 : wsc (wvl G c q z m N) (wsm (wkn G) m) with
    | none => rw [h2] at hs; cases hs
    | some g =>
      rw [h2] at hs
      simp only at hs
      split at hs <;> cases hs
theorem wsc_lt {P : Nat → Bool} : ∀ {n g : Nat}, wsc P n = some g → g < n
  | 0, g, h => by cases h
  | n + 1, g, h => by
    unfold wsc at h
    split at h
    · cases hs : wsc P n with
      | none => rw [hs] at h; cases h; exact Nat.lt_succ_self _
      | some g' =>
        rw [hs] at h
        simp only at h
        split at h
        · cases h; exact Nat.lt_succ_self _
        · cases h; exact Nat.lt_succ_of_lt (wsc_lt hs)
    · exact Nat.lt_succ_of_lt (wsc_lt h)
theorem wfw_lt {G : Nat → Int32} {c q z m : Nat} {N : Int32} (hm : m ≤ 12) : wfw G c q z m N < 2 ^ m := wsc_lt (wsc_v hm)
theorem m99 {A B : sm_M} {k c r q z : Nat} (nL : Nat) (N : Int32) (hS : SA A k c r q z) (hZ : SZ c r q z) (G : Nat → Int32) (hL : LK A B k c r q z N G) (d : Nat) (Q : sm_Q) (o1 o2 o3 : Option sm_V) : sm_W (d + 3) 99 0 [some (Sum.inr (Sum.inr (some (23, k)))), o1, o2, o3] [] (sm_G0 nL) A Q = Q (vi (nI (wfw G c q z (r * q) N))) (sm_G0 nL) A := by
  obtain ⟨z1, z2, z3, z4, z5, z6, z7, z8, z9⟩ := id hZ
  have hp12 : 2 ^ (r * q) ≤ 4096 := Nat.pow_le_pow_right (n := 2) (by decide) z5
  have hK := wsm_lt (wkn G) (r * q)
  have l2 := hL.2.1
  have lp : ∀ j x, x + j = wsm (wkn G) (r * q) + 1 → sm_W (d + 3) 99 15 [some (Sum.inr (Sum.inr (some (23, k)))), vi (nI ((wsc (wvl G c q z (r * q) N) x).getD (wsm (wkn G) (r * q)))), vi (nI (wpb ((wsc (wvl G c q z (r * q) N) x).getD (wsm (wkn G) (r * q))) 12)), vi (nI x)] [] (sm_G0 nL) A Q = Q (vi (nI (wfw G c q z (r * q) N))) (sm_G0 nL) A := by
    intro j
    induction j with
    | zero =>
      intro x hx
      have hx' : x = wsm (wkn G) (r * q) + 1 := by omega
      subst hx'
      rw [T99_15, l2, mm_bt (nI_lt (Nat.lt_succ_self _) (by omega))]; rfl
    | succ j ih =>
      intro x hx
      have h3 := ih (x + 1) (by omega)
      have hst := wsc_step (G := G) (c := c) (q := q) (z := z) (m := r * q) (N := N) (x := x) z5 (by omega)
      have x4 : nI x < (4096 : Int32) := nI_lt (show x < 4096 by omega) (by decide)
      have hb := wpb_le x 12
      have hb2 := wpb_le ((wsc (wvl G c q z (r * q) N) x).getD (wsm (wkn G) (r * q))) 12
      generalize (wsc (wvl G c q z (r * q) N) x).getD (wsm (wkn G) (r * q)) = f at hst hb2 ⊢
      have hlt : (nI (wpb x 12) < nI (wpb f 12)) = (wpb x 12 < wpb f 12) := propext (nI_ltI (by omega) (by omega))
      rw [T99_15, l2, mm_bf (nI_nlt (by omega) (by omega)), mm_bt x4, pcw_e (show x < 4096 by omega), nI_1]
      by_cases hc : wpb x 12 < wpb f 12
      · rw [mm_bt (hlt.mpr hc), T101]
        refine (m101 nL N hS hZ G hL (show x < 2 ^ 31 by omega) d _ (r * q) 0 none (by omega)).trans ?_
        rw [sm_push_s, T99_43, pcw_e (show x < 4096 by omega), nI_1]
        rw [if_pos hc] at hst
        cases hv : wvl G c q z (r * q) N x with
        | true =>
          rw [hv] at hst
          simp only [↓reduceIte] at hst
          rw [hst] at h3
          rw [mm_bt (of_decide_eq_true hv)]; exact h3
        | false =>
          rw [hv] at hst
          simp only [Bool.false_eq_true, ↓reduceIte] at hst
          rw [hst] at h3
          rw [mm_bf (of_decide_eq_false hv)]; exact h3
      · rw [if_neg hc] at hst
        rw [hst] at h3
        rw [mm_bf (fun h => hc (hlt.mp h))]; exact h3
  rw [T99, l2, pcw_e (show wsm (wkn G) (r * q) < 4096 by omega)]
  exact lp (wsm (wkn G) (r * q) + 1) 0 (by omega)
