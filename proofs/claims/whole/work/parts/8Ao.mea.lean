/-! looking at a sheet: the class -/
def wD (c q z i j : Nat) : Bool := !decide (z < wdist (wce c q i) (wce c q j))
def wsw (G : Nat → Int32) (c q z : Nat) (N : Int32) (i j : Nat) : Bool := (decide (i = j) || (wD c q z i j && !decide (G i + N < G j))) && !decide (G j = -1000000)
def wkn (G : Nat → Int32) (u : Nat) : Bool := !decide (G u = -1000000)
def wex (f : Nat → Bool) : Nat → Bool
  | 0 => false
  | k + 1 => wex f k || f k
def wam (G : Nat → Int32) (c q z m : Nat) (N : Int32) (x i : Nat) : Bool := if G i = -1000000 then x.testBit i else !(wex (fun j => wsw G c q z N i j && x.testBit j) m)
def wfa (P : Nat → Bool) : Nat → Nat → Int32
  | 0, _ => -1
  | j + 1, i => if P i = true then nI i else wfa P j (i + 1)
theorem wex_t {f : Nat → Bool} : ∀ {n : Nat}, wex f n = true ↔ ∃ k, k < n ∧ f k = true
  | 0 => ⟨fun h => absurd h (by simp [wex]), fun ⟨k, hk, _⟩ => absurd hk (Nat.not_lt_zero _)⟩
  | n + 1 => by
    have ih := wex_t (f := f) (n := n)
    unfold wex
    rw [Bool.or_eq_true, ih]
    constructor
    · rintro (⟨k, h1, h2⟩ | h)
      · exact ⟨k, by omega, h2⟩
      · exact ⟨n, by omega, h⟩
    · rintro ⟨k, h1, h2⟩
      by_cases h : k = n
      · subst h; exact .inr h2
      · exact .inl ⟨k, by omega, h2⟩
/-- the sheet's numbers, on the class's side -/
def SA (A : sm_M) (k c r q z : Nat) : Prop := A 23 k 0 = nI c ∧ A 23 k 1 = nI r ∧ A 23 k 2 = nI q ∧ A 23 k 3 = nI z
def SZ (c r q z : Nat) : Prop := 1 ≤ r ∧ r ≤ 4 ∧ 1 ≤ q ∧ q ≤ 4 ∧ r * q ≤ 12 ∧ z ≤ 3 ∧ c < 48 ∧ c % 8 + q ≤ 8 ∧ c / 8 + r ≤ 6
theorem SA_s2 {A A1 : sm_M} {k c r q z : Nat} (h : SA A k c r q z) (hA : Fr sA2 A A1) : SA A1 k c r q z := by
  obtain ⟨h0, h1, h2, h3⟩ := h
  exact ⟨(hA 23 k 0 rfl).trans h0, (hA 23 k 1 rfl).trans h1, (hA 23 k 2 rfl).trans h2, (hA 23 k 3 rfl).trans h3⟩
theorem SZ_f {c r q z : Nat} (h : SZ c r q z) : nI r * nI q = nI (r * q) ∧ ¬ (12 : Int32) < nI (r * q) ∧ ¬ nI q < 1 ∧ ¬ nI q = 0 := by
  obtain ⟨h1, h2, h3, h4, h5, h6⟩ := h
  exact ⟨pk_mul r q, nI_nlt (a := 12) h5 (by decide), nI_nlt (b := 1) h3 (by omega), nI_ne0 (by omega) (by omega)⟩
theorem m95a {A B : sm_M} {t s k c r q z f f0 : Nat} {o : Option Nat} (nL : Nat) (y : Int32) (hV : VW A B t s) (hR : RO A B o f f0) (hS : SA A k c r q z) (hZ : SZ c r q z) (G : Nat → Int32) (hG : ∀ u, u < r * q → G u = LW B o (nI (wce c q u)) y t s) : ∀ j i A1, i + j = r * q → Fr sA2 A A1 → (∀ u, u < i → A1 44 k u = G u) → A1 23 k 7 = nI (wsm (wkn G) i) → ∃ A2, (∀ d Q, sm_W (d + 5) 95 8 [some (Sum.inr (Sum.inr (some (23, k)))), vo 14, vi y, some (Sum.inr (Sum.inr (some (f, f0)))), vi (nI i)] [] (sm_G0 nL) A1 Q = sm_W (d + 5) 95 74 [some (Sum.inr (Sum.inr (some (23, k)))), vo 14, vi y, some (Sum.inr (Sum.inr (some (f, f0)))), vi 0] [] (sm_G0 nL) A2 Q) ∧ Fr sA2 A A2 ∧ (∀ u, u < r * q → A2 44 k u = G u) ∧ A2 23 k 7 = nI (wsm (wkn G) (r * q)) := by
  obtain ⟨hm, h12, hq1, hq0⟩ := SZ_f hZ
  obtain ⟨z1, z2, z3, z4, z5, z6, z7, z8, z9⟩ := id hZ
  intro j
  induction j with
  | zero =>
    intro i A1 hi hA h44 h7
    have hi' : i = r * q := by omega
    subst hi'
    obtain ⟨s0, s1, s2, s3⟩ := SA_s2 hS hA
    exact ⟨A1, fun d Q => by rw [T95_8, s1, s2, hm, mm_bf h12, mm_bf (nI_nlt (Nat.le_refl _) (by omega))], hA, h44, h7⟩
  | succ j ih =>
    intro i A1 hi hA h44 h7
    have hA1 := hA
    obtain ⟨s0, s1, s2, s3⟩ := SA_s2 hS hA
    obtain ⟨A2, g1, g2⟩ := m79 (A := A1) (B := B) nL (nI (wce c q i)) y (VW_s2 hV hA (Fr_r _ _)) (RO_s2 hR hA)
    have hA2 : Fr sA2 A A2 := Fr_t hA (sA2_w g2)
    have i12 : sm_in (nI i) 12 = true := mm_in (by omega) (by decide)
    have ic : (nI i).toNatClampNeg = i := nI_clamp (by omega)
    have e7 : A2 23 k 7 = nI (wsm (wkn G) i) := (g2 23 k 7 rfl).trans h7
    have hd : ∀ d Q, sm_W (d + 5) 95 8 [some (Sum.inr (Sum.inr (some (23, k)))), vo 14, vi y, some (Sum.inr (Sum.inr (some (f, f0)))), vi (nI i)] [] (sm_G0 nL) A1 Q = sm_Br (decide (G i = -1000000)) (sm_W (d + 5) 95 8 [some (Sum.inr (Sum.inr (some (23, k)))), vo 14, vi y, some (Sum.inr (Sum.inr (some (f, f0)))), vi (nI (i + 1))] [] (sm_G0 nL) (sm_u (sm_u A2 44 k i (G i)) 23 k 7 (nI (wsm (wkn G) i))) Q) (sm_W (d + 5) 95 8 [some (Sum.inr (Sum.inr (some (23, k)))), vo 14, vi y, some (Sum.inr (Sum.inr (some (f, f0)))), vi (nI (i + 1))] [] (sm_G0 nL) (sm_u (sm_u A2 44 k i (G i)) 23 k 7 (nI (wsm (wkn G) i ||| 2 ^ i))) Q) := fun d Q => by
      rw [T95_8, s0, s1, s2, hm, mm_bf h12, mm_bt (nI_lt (by omega) (by omega)), mm_bf hq1, mm_cn hq0, mm_cn hq0, wce_e z3 z4 (by omega), g1, ← hG i (by omega), sm_push_s, T95_35, mm_ck i12, mm_ck i12, ic, mm_up, e7, Int32.or_zero, mm_bit (by omega), nI_or, nI_1]
    have h44' : ∀ v, ∀ u, u < i + 1 → sm_u (sm_u A2 44 k i (G i)) 23 k 7 v 44 k u = G u := fun v u hu => by
      by_cases h : u = i
      · subst h; exact (mm_up (A := A2) : sm_u A2 44 k u (G u) 44 k u = G u)
      · exact (mm_un (A := A2) (fun hh => h hh.2) : sm_u A2 44 k i (G i) 44 k u = A2 44 k u).trans ((g2 44 k u rfl).trans (h44 u (by omega)))
    by_cases hn : G i = -1000000
    · have e : wsm (wkn G) (i + 1) = wsm (wkn G) i := by simp [wsm, wkn, hn]
      obtain ⟨A3, q1, q2⟩ := ih (i + 1) (sm_u (sm_u A2 44 k i (G i)) 23 k 7 (nI (wsm (wkn G) i))) (by omega) (Fr_u (Fr_u hA2 rfl) rfl) (h44' _) (by rw [e]; exact mm_up)
      exact ⟨A3, fun d Q => by rw [hd, mm_bt hn, q1], q2⟩
    · have e : wsm (wkn G) (i + 1) = wsm (wkn G) i ||| 2 ^ i := by simp [wsm, wkn, hn]
      obtain ⟨A3, q1, q2⟩ := ih (i + 1) (sm_u (sm_u A2 44 k i (G i)) 23 k 7 (nI (wsm (wkn G) i ||| 2 ^ i))) (by omega) (Fr_u (Fr_u hA2 rfl) rfl) (h44' _) (by rw [e]; exact mm_up)
      exact ⟨A3, fun d Q => by rw [hd, mm_bf hn, q1], q2⟩
theorem m98 {A : sm_M} {k c r q z i : Nat} (nL : Nat) (N : Int32) (hS : SA A k c r q z) (hZ : SZ c r q z) (G : Nat → Int32) (hi : i < r * q) (h44 : ∀ u, u < r * q → A 44 k u = G u) (d : Nat) (Q : sm_Q) : ∀ j u o5, u + j = r * q → sm_W (d + 2) 98 5 [some (Sum.inr (Sum.inr (some (23, k)))), vi (nI i), vi N, vi (nI (wsm (wsw G c q z N i) u)), vi (nI u), o5] [] (sm_G0 nL) A Q = Q (vi (nI (wsm (wsw G c q z N i) (r * q)))) (sm_G0 nL) A := by
  obtain ⟨hm, h12, hq1, hq0⟩ := SZ_f hZ
  obtain ⟨z1, z2, z3, z4, z5, z6, z7, z8, z9⟩ := id hZ
  obtain ⟨s0, s1, s2, s3⟩ := hS
  intro j
  induction j with
  | zero =>
    intro u o5 hu
    have hu' : u = r * q := by omega
    subst hu'
    rw [T98_5, s1, s2, hm, mm_bf h12, mm_bf (nI_nlt (Nat.le_refl _) (by omega))]
  | succ j ih =>
    intro u o5 hu
    have h3 := fun o => ih (u + 1) o (by omega)
    have ui : sm_in (nI u) 12 = true := mm_in (by omega) (by decide)
    have uc : (nI u).toNatClampNeg = u := nI_clamp (by omega)
    have ii : sm_in (nI i) 12 = true := mm_in (by omega) (by decide)
    have ic : (nI i).toNatClampNeg = i := nI_clamp (by omega)
    have hiu : (nI i = nI u) = (i = u) := propext (nI_eq (by omega) (by omega))
    have hw : wsm (wsw G c q z N i) (u + 1) = if wsw G c q z N i u = true then wsm (wsw G c q z N i) u ||| 2 ^ u else wsm (wsw G c q z N i) u := rfl
    have hb : nI (wsm (wsw G c q z N i) u) ||| ((1 : Int32) <<< (nI u &&& 31)) = nI (wsm (wsw G c q z N i) u ||| 2 ^ u) := by rw [mm_bit (by omega), nI_or]
    have l1 := wce_lt z3 z8 z9 hi
    have l2 := wce_lt z3 z8 z9 (show u < r * q by omega)
    have hd1 := wdist_lt (show wce c q i < 2 ^ 20 by omega) (show wce c q u < 2 ^ 20 by omega)
    have hzd : (nI z < nI (wdist (wce c q i) (wce c q u))) = (z < wdist (wce c q i) (wce c q u)) := propext (nI_ltI (by omega) (by omega))
    have hwv : wsw G c q z N i u = ((decide (i = u) || (wD c q z i u && !decide (G i + N < G u))) && !decide (G u = -1000000)) := rfl
    have hD : wD c q z i u = !decide (z < wdist (wce c q i) (wce c q u)) := rfl
    rw [hw, hwv, hD] at h3
    rw [T98_5, s0, s1, s2, hm, mm_bf h12, mm_bt (nI_lt (by omega) (by omega))]
    simp only [ui, uc, h44 u (by omega), hq1, hq0, decide_false, Bool.not_false, hb, nI_1, sm_Ck_t, ↓sm_Br_d, ↓reduceIte]
    by_cases hiu' : i = u
    · rw [if_pos (hiu.mpr hiu')]
      by_cases hn : G u = -1000000
      · rw [if_pos hn]
        simp only [eq_true hiu', decide_true, Bool.true_or, Bool.true_and, eq_true hn, Bool.not_true, Bool.false_eq_true, ↓reduceIte] at h3
        exact h3 _
      · rw [if_neg hn]
        simp only [eq_true hiu', decide_true, Bool.true_or, Bool.true_and, hn, decide_false, Bool.not_false, ↓reduceIte] at h3
        exact h3 _
    · have hiu2 : ¬ nI i = nI u := fun h => hiu' (hiu.mp h)
      simp only [hiu', decide_false, Bool.false_or] at h3
      rw [if_neg hiu2]
      rw [wce_e z3 z4 (by omega), wce_e z3 z4 (by omega), m49 d (by omega) (by omega), sm_push_s, T98_34, s3, nI_1]
      simp only [ui, uc, ii, ic, h44 u (by omega), h44 i hi, hb, sm_Ck_t, hzd, sm_Br_d]
      by_cases hz : z < wdist (wce c q i) (wce c q u)
      · rw [if_pos hz]
        simp only [hz, decide_true, Bool.not_true, Bool.false_and, Bool.false_eq_true, ↓reduceIte] at h3
        exact h3 _
      · rw [if_neg hz]
        by_cases hg : G i + N < G u
        · rw [if_pos hg]
          simp only [hg, decide_true, Bool.not_true, Bool.and_false, Bool.false_and, Bool.false_eq_true, ↓reduceIte] at h3
          exact h3 _
        · rw [if_neg hg]
          by_cases hn : G u = -1000000
          · rw [if_pos hn]
            simp only [eq_true hn, decide_true, Bool.not_true, Bool.and_false, Bool.false_eq_true, ↓reduceIte] at h3
            exact h3 _
          · rw [if_neg hn]
            simp only [hz, hg, hn, decide_false, Bool.not_false, Bool.and_self, ↓reduceIte] at h3
            exact h3 _
theorem m95b {A B : sm_M} {k c r q z f f0 : Nat} {o : Option Nat} (nL : Nat) (hR : RO A B o f f0) (hS : SA A k c r q z) (hZ : SZ c r q z) (G : Nat → Int32) : ∀ j i A1, i + j = r * q → Fr sA2 A A1 → (∀ u, u < r * q → A1 44 k u = G u) → A1 23 k 7 = nI (wsm (wkn G) (r * q)) → (∀ u, u < i → A1 45 k u = nI (wsm (wsw G c q z (wcl B o 1) u) (r * q))) → ∃ A2, (∀ d Q o1 o2, sm_W (d + 5) 95 74 [some (Sum.inr (Sum.inr (some (23, k)))), o1, o2, some (Sum.inr (Sum.inr (some (f, f0)))), vi (nI i)] [] (sm_G0 nL) A1 Q = Q none (sm_G0 nL) A2) ∧ Fr sA2 A A2 ∧ (∀ u, u < r * q → A2 44 k u = G u) ∧ A2 23 k 7 = nI (wsm (wkn G) (r * q)) ∧ (∀ u, u < r * q → A2 45 k u = nI (wsm (wsw G c q z (wcl B o 1) u) (r * q))) := by
  obtain ⟨hm, h12, hq1, hq0⟩ := SZ_f hZ
  obtain ⟨z1, z2, z3, z4, z5, z6, z7, z8, z9⟩ := id hZ
  intro j
  induction j with
  | zero =>
    intro i A1 hi hA h44 h7 h45
    have hi' : i = r * q := by omega
    subst hi'
    obtain ⟨s0, s1, s2, s3⟩ := SA_s2 hS hA
    exact ⟨A1, fun d Q o1 o2 => by rw [T95_74, s1, s2, hm, mm_bf h12, mm_bf (nI_nlt (Nat.le_refl _) (by omega))], hA, h44, h7, h45⟩
  | succ j ih =>
    intro i A1 hi hA h44 h7 h45
    have hS1 := SA_s2 hS hA
    obtain ⟨s0, s1, s2, s3⟩ := id hS1
    obtain ⟨r1, r2, r3, r4, -⟩ := RO_s2 hR hA
    have i12 : sm_in (nI i) 12 = true := mm_in (by omega) (by decide)
    have ic : (nI i).toNatClampNeg = i := nI_clamp (by omega)
    obtain ⟨A2, g1, g2⟩ := ih (i + 1) (sm_u A1 45 k i (nI (wsm (wsw G c q z (wcl B o 1) i) (r * q)))) (by omega) (Fr_u hA rfl) h44 h7 (fun u hu => by
      by_cases h : u = i
      · subst h; exact mm_up
      · exact (mm_un (fun hh => h hh.2)).trans (h45 u (by omega)))
    refine ⟨A2, fun d Q o1 o2 => ?_, g2⟩
    rw [T95_74, s1, s2, hm, mm_bf h12, mm_bt (nI_lt (by omega) (by omega)), mm_ck r1, r4, T98]
    refine (m98 nL (wcl B o 1) hS1 hZ G (show i < r * q by omega) h44 (d + 2) _ (r * q) 0 none (by omega)).trans ?_
    rw [sm_push_s, T95_99, mm_ck i12, ic, nI_1, g1]
/-- what looking leaves -/
def LK (A B : sm_M) (k c r q z : Nat) (N : Int32) (G : Nat → Int32) : Prop := (∀ u, u < r * q → A 44 k u = G u) ∧ A 23 k 7 = nI (wsm (wkn G) (r * q)) ∧ (∀ u, u < r * q → A 45 k u = nI (wsm (wsw G c q z N u) (r * q)))
theorem m95 {A B : sm_M} {t s k c r q z f f0 : Nat} {o : Option Nat} (nL : Nat) (y : Int32) (hV : VW A B t s) (hR : RO A B o f f0) (hS : SA A k c r q z) (hZ : SZ c r q z) : ∃ A2, (∀ d Q o4, sm_W (d + 5) 95 0 [some (Sum.inr (Sum.inr (some (23, k)))), vo 14, vi y, some (Sum.inr (Sum.inr (some (f, f0)))), o4] [] (sm_G0 nL) A Q = Q none (sm_G0 nL) A2) ∧ Fr sA2 A A2 ∧ LK A2 B k c r q z (wcl B o 1) (fun u => LW B o (nI (wce c q u)) y t s) := by
  obtain ⟨A1, a1, a2, a3, a4⟩ := m95a (A := A) nL y hV hR hS hZ (fun u => LW B o (nI (wce c q u)) y t s) (fun u _ => rfl) (r * q) 0 (sm_u A 23 k 7 0) (by omega) (Fr_u (Fr_r _ _) rfl) (fun u hu => absurd hu (Nat.not_lt_zero _)) mm_up
  obtain ⟨A2, b1, b2, b3, b4, b5⟩ := m95b (A := A) nL hR hS hZ (fun u => LW B o (nI (wce c q u)) y t s) (r * q) 0 A1 (by omega) a2 a3 a4 (fun u hu => absurd hu (Nat.not_lt_zero _))
  exact ⟨A2, fun d Q o4 => by rw [T95]; exact (a1 d Q).trans (b1 d Q _ _), b2, b3, b4, b5⟩
