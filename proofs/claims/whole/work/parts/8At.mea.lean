/-! edition: lights, rows -/
def wlc (B : sm_M) (c r q : Nat) (y : Int32) : Nat → Nat
  | 0 => 0
  | i + 1 => if (decide (B 59 0 i = 4) && (wpo c r q (cl (B 60 0 i))).isSome && wst B y i) = true then wlc B c r q y i + 1 else wlc B c r q y i
theorem wlc_le {B : sm_M} {c r q : Nat} {y : Int32} : ∀ i, wlc B c r q y i ≤ i
  | 0 => Nat.le_refl _
  | i + 1 => by
    have h := wlc_le (B := B) (c := c) (r := r) (q := q) (y := y) i
    unfold wlc
    split <;> omega
theorem wnr_lt0 (o : Option Nat) (h : ∀ p, o = some p → p < 2 ^ 31) : (wnr o < 0) = (o.isSome = false) := by
  cases o with
  | none => simp [wnr, mm_m1]
  | some p => simp [wnr, nI_pos (h p rfl)]
theorem m104 {A B : sm_M} {t s k c r q z : Nat} (nL : Nat) (y : Int32) (hV : VW A B t s) (hS : SA A k c r q z) (hZ : SZ c r q z) (d : Nat) (Q : sm_Q) : ∀ j i o4, i + j = t → sm_W (d + 2) 104 5 [vo 14, some (Sum.inr (Sum.inr (some (23, k)))), vi y, vi (nI (wlc B c r q y i)), vi (nI i), o4] [] (sm_G0 nL) A Q = Q (vi (nI (wlc B c r q y t))) (sm_G0 nL) A := by
  obtain ⟨ht, hs, ta, sa, tb, sb, hT, hSv⟩ := hV
  intro j
  induction j with
  | zero =>
    intro i o4 hi
    have hi' : i = t := by omega
    subst hi'
    rw [T104_5, ta, mm_bf (nI_nlt (Nat.le_refl _) (by omega))]
  | succ j ih =>
    intro i o4 hi
    have h3 := fun o => ih (i + 1) o (by omega)
    obtain ⟨k1, k2, k3, k4, k5, k6, k7, ⟨cc, hcc, ecc⟩, -⟩ := hT i (by omega)
    have hw : wlc B c r q y (i + 1) = if (decide (B 59 0 i = 4) && (wpo c r q (cl (B 60 0 i))).isSome && wst B y i) = true then wlc B c r q y i + 1 else wlc B c r q y i := rfl
    have ecl : cl (B 60 0 i) = cc := by unfold cl; rw [ecc, nI_clamp (by omega)]
    rw [ecl] at hw
    have hz := wnr_lt0 (wpo c r q cc) (fun p hp => by have := wpo_lt hp; have := hZ.2.2.2.2.1; omega)
    rw [T104_5, ta, mm_bt (nI_lt (by omega) (by omega)), m42s ta ht (by omega), sm_push_s, T104_20, k1, k2, ecc]
    simp only [nI_1]
    by_cases h1 : B 59 0 i = 4
    · rw [mm_bt h1, m105 nL hS hZ hcc d, sm_push_s, T104_45, nI_1]
      rw [decide_eq_true h1, Bool.true_and] at hw
      cases h2 : (wpo c r q cc).isSome with
      | false =>
        rw [h2] at hw hz
        simp only [Bool.false_and, Bool.false_eq_true, ↓reduceIte] at hw
        rw [hw] at h3
        rw [mm_bt (hz.mpr rfl)]; exact h3 _
      | true =>
        rw [h2] at hw hz
        have hz' : ¬ wnr (wpo c r q cc) < 0 := fun h => absurd (hz.mp h) (by decide)
        rw [mm_bf hz', m53 (d + 1) nL k5 k6, sm_push_s, T104_54]
        simp only [nI_1]
        cases h4 : wst B y i with
        | false => rw [h4] at hw; simp only [Bool.and_false, Bool.false_eq_true, ↓reduceIte] at hw; rw [hw] at h3; rw [mm_bt (by decide)]; exact h3 _
        | true => rw [h4] at hw; simp only [Bool.and_true, ↓reduceIte] at hw; rw [hw] at h3; rw [mm_bf (by decide)]; exact h3 _
    · rw [decide_eq_false h1] at hw
      simp only [Bool.false_and, Bool.false_eq_true, ↓reduceIte] at hw
      rw [hw] at h3
      rw [mm_bf h1]; exact h3 _
theorem mm_uu {M : sm_M} {f i k : Nat} {v w : Int32} : sm_u (sm_u M f i k v) f i k w = sm_u M f i k w := by
  funext f' i' k'
  by_cases h : f' = f ∧ i' = i ∧ k' = k
  · exact (if_pos h).trans (if_pos h).symm
  · exact (if_neg h).trans ((if_neg h).trans (if_neg h).symm)
theorem r228b {A B M : sm_M} {t s k c r q z E : Nat} (nL : Nat) (y : Int32) (hV : VW A B t s) (hk : k < 16) (hE : E < 60) (hZ : SZ c r q z) (s0 : M 76 0 k = nI c) (s1 : M 77 0 k = nI r) (s2 : M 78 0 k = nI q) (ey : M 11 0 1 = y) (et : M 11 0 13 = nI t) (hM : ∀ f, 50 ≤ f → f ≤ 73 → ∀ i, M f 0 i = B f 0 i) (d : Nat) (Q : sm_Q) (o2 : Option sm_V) : ∀ j i, i + j = t → sm_W (d + 7) 228 117 [vo 11, vi (nI k), vi (nI E), o2, vi (nI i)] [] (sm_G0 nL) (sm_u M 83 0 E (nI (wlc B c r q y i))) Q = Q (vi (nI E)) (sm_G0 nL) (sm_u (sm_u M 83 0 E (nI (wlc B c r q y t))) 11 0 44 (M 11 0 44 + 1)) := by
  obtain ⟨ht, hs, ta, sa, tb, sb, hT, hSv⟩ := hV
  have Ei : sm_in (nI E) 60 = true := mm_in hE (by decide)
  have Ec : (nI E).toNatClampNeg = E := nI_clamp (by omega)
  intro j
  induction j with
  | zero =>
    intro i hi
    have hi' : i = t := by omega
    subst hi'
    rw [T228_117, show sm_u M 83 0 E (nI (wlc B c r q y i)) 11 0 13 = nI i from et, mm_bf (nI_nlt (Nat.le_refl _) (by omega))]; rfl
  | succ j ih =>
    intro i hi
    have h3 := ih (i + 1) (by omega)
    obtain ⟨k1, k2, k3, k4, k5, k6, k7, ⟨cc, hcc, ecc⟩, -⟩ := hT i (by omega)
    have ei : sm_in (nI i) 90 = true := mm_in (by omega) (by decide)
    have ec : (nI i).toNatClampNeg = i := nI_clamp (by omega)
    have hw : wlc B c r q y (i + 1) = if (decide (B 59 0 i = 4) && (wpo c r q (cl (B 60 0 i))).isSome && wst B y i) = true then wlc B c r q y i + 1 else wlc B c r q y i := rfl
    have ecl : cl (B 60 0 i) = cc := by unfold cl; rw [ecc, nI_clamp (by omega)]
    rw [ecl] at hw
    have hz := wnr_lt0 (wpo c r q cc) (fun p hp => by have := wpo_lt hp; have := hZ.2.2.2.2.1; omega)
    generalize hl : wlc B c r q y i = l at hw h3 ⊢
    have e59 : sm_u M 83 0 E (nI l) 59 0 i = B 59 0 i := hM 59 (by omega) (by omega) i
    have e60 : sm_u M 83 0 E (nI l) 60 0 i = nI cc := (hM 60 (by omega) (by omega) i).trans ecc
    have e13 : sm_u M 83 0 E (nI l) 11 0 13 = nI t := et
    have e1 : sm_u M 83 0 E (nI l) 11 0 1 = y := ey
    have e83 : sm_u M 83 0 E (nI l) 83 0 E = nI l := mm_up
    have est : wst (sm_u M 83 0 E (nI l)) y i = wst B y i := by
      unfold wst
      rw [show sm_u M 83 0 E (nI l) 63 0 i = B 63 0 i from hM 63 (by omega) (by omega) i, show sm_u M 83 0 E (nI l) 64 0 i = B 64 0 i from hM 64 (by omega) (by omega) i]
    have us : sm_u (sm_u M 83 0 E (nI l)) 83 0 E (nI l) = sm_u M 83 0 E (nI l) := mm_uu
    have us1 : sm_u (sm_u M 83 0 E (nI l)) 83 0 E (nI (l + 1)) = sm_u M 83 0 E (nI (l + 1)) := mm_uu
    rw [T228_117, e13, mm_bt (nI_lt (by omega) (by omega))]
    simp only [Ei, Ec, ei, ec, sm_Ck_t, e59, e83, e1, Int32.add_zero, us, nI_1]
    by_cases h1 : B 59 0 i = 4
    · rw [decide_eq_true h1, Bool.true_and] at hw
      rw [mm_bt h1, r193 (d + 6) nL (show i < 90 by omega), est, sm_push_s, T228_154]
      simp only [Ei, Ec, ei, ec, sm_Ck_t, e60, Int32.add_zero, us, nI_1]
      cases h4 : wst B y i with
      | false => rw [h4] at hw; simp only [Bool.and_false, Bool.false_eq_true, ↓reduceIte] at hw; rw [hw] at h3; rw [mm_bt (by decide)]; exact h3
      | true =>
        rw [h4] at hw
        rw [mm_bf (by decide), r229e (d := d + 5) nL hk (show sm_u M 83 0 E (nI l) 76 0 k = nI c from s0) (show sm_u M 83 0 E (nI l) 77 0 k = nI r from s1) (show sm_u M 83 0 E (nI l) 78 0 k = nI q from s2) hZ hcc, sm_push_s, T228_169]
        simp only [Ei, Ec, sm_Ck_t, Int32.add_zero, us, us1, nI_1]
        cases h2 : (wpo c r q cc).isSome with
        | false =>
          rw [h2] at hw hz
          simp only [Bool.false_and, Bool.false_eq_true, ↓reduceIte] at hw
          rw [hw] at h3
          rw [mm_bt (hz.mpr rfl)]; exact h3
        | true =>
          rw [h2] at hw hz
          have hz' : ¬ wnr (wpo c r q cc) < 0 := fun h => absurd (hz.mp h) (by decide)
          simp only [Bool.and_self, ↓reduceIte] at hw
          rw [hw] at h3
          rw [mm_bf hz']; exact h3
    · rw [decide_eq_false h1] at hw
      simp only [Bool.false_and, Bool.false_eq_true, ↓reduceIte] at hw
      rw [hw] at h3
      rw [mm_bf h1]; exact h3
def r46 (A : sm_M) (E : Nat) (g : Nat → Int32) (n : Nat) : sm_M := fun f i k => if f = 46 ∧ i = E ∧ k < n then g k else A f i k
def r84 (B : sm_M) (E : Nat) (g : Nat → Int32) (n : Nat) : sm_M := fun f i k => if f = 84 ∧ i = 0 ∧ 12 * E ≤ k ∧ k < 12 * E + n then g (k - 12 * E) else B f i k
theorem r46_s (A : sm_M) (E : Nat) (g : Nat → Int32) (n : Nat) : sm_u (r46 A E g n) 46 E n (g n) = r46 A E g (n + 1) := by
  funext f i k
  simp only [sm_u, r46]
  by_cases h : f = 46 ∧ i = E
  · obtain ⟨rfl, rfl⟩ := h
    by_cases h1 : k = n
    · subst h1; simp
    · have h2 : (k < n + 1) = (k < n) := propext (by omega)
      simp [h1, h2]
  · rw [if_neg (fun hh => h ⟨hh.1, hh.2.1⟩), if_neg (fun hh => h ⟨hh.1, hh.2.1⟩), if_neg (fun hh => h ⟨hh.1, hh.2.1⟩)]
theorem r84_s (B : sm_M) (E : Nat) (g : Nat → Int32) (n : Nat) : sm_u (r84 B E g n) 84 0 (12 * E + n) (g n) = r84 B E g (n + 1) := by
  funext f i k
  simp only [sm_u, r84]
  by_cases h : f = 84 ∧ i = 0
  · obtain ⟨rfl, rfl⟩ := h
    by_cases h1 : k = 12 * E + n
    · subst h1
      have e : 12 * E + n - 12 * E = n := by omega
      have h4 : 12 * E + n < 12 * E + (n + 1) := by omega
      simp [e]
    · have h2 : (12 * E ≤ k ∧ k < 12 * E + (n + 1)) = (12 * E ≤ k ∧ k < 12 * E + n) := propext (by omega)
      simp only [h1, h2]; simp
  · rw [if_neg (fun hh => h ⟨hh.1, hh.2.1⟩), if_neg (fun hh => h ⟨hh.1, hh.2.1⟩), if_neg (fun hh => h ⟨hh.1, hh.2.1⟩)]
theorem r46_0 (A : sm_M) (E : Nat) (g : Nat → Int32) : r46 A E g 0 = A := by
  funext f i k
  exact if_neg (fun h => absurd h.2.2 (Nat.not_lt_zero _))
theorem r84_0 (B : sm_M) (E : Nat) (g : Nat → Int32) : r84 B E g 0 = B := by
  funext f i k
  exact if_neg (fun h => by omega)
def wrow (G : Nat → Int32) (w i : Nat) : Int32 := if w.testBit i = true then G i else -1000000
theorem m106 {A : sm_M} {E k : Nat} (nL : Nat) (G : Nat → Int32) {w : Nat} (hw : w < 2 ^ 31) (hG : ∀ i, i < 12 → w.testBit i = true → A 44 k i = G i) (d : Nat) (Q : sm_Q) (o1 : Option sm_V) (x3 x4 : Int32) : ∀ j i, i + j = 12 → sm_W (d + 4) 106 14 [some (Sum.inr (Sum.inr (some (24, E)))), o1, some (Sum.inr (Sum.inr (some (23, k)))), vi x3, vi x4, vi (nI w), vi (nI i)] [] (sm_G0 nL) (r46 A E (wrow G w) i) Q = Q none (sm_G0 nL) (sm_u (sm_u (r46 A E (wrow G w) 12) 24 E 2 x3) 24 E 3 x4) := by
  intro j
  induction j with
  | zero =>
    intro i hi
    have hi' : i = 12 := by omega
    subst hi'
    rw [T106_14, mm_bf (by decide)]
  | succ j ih =>
    intro i hi
    have h3 := ih (i + 1) (by omega)
    have ii : sm_in (nI i) 12 = true := mm_in (by omega) (by decide)
    have ic : (nI i).toNatClampNeg = i := nI_clamp (by omega)
    have i12 : nI i < (12 : Int32) := nI_lt (show i < 12 by omega) (by decide)
    have hwb : ((nI w >>> (nI i &&& 31)) &&& 1 = 1) = (w.testBit i = true) := wbt_tb hw (by omega)
    have e44 : r46 A E (wrow G w) i 44 k i = A 44 k i := rfl
    rw [T106_14, mm_bt i12]
    simp only [ii, ic, sm_Ck_t, hwb, e44, nI_1]
    rw [← r46_s] at h3
    unfold wrow at h3 ⊢
    by_cases hb : w.testBit i = true
    · rw [if_pos hb] at h3
      rw [mm_bt hb, hG i (by omega) hb]; exact h3
    · rw [if_neg hb] at h3
      rw [mm_bf hb]; exact h3
theorem r228a {B : sm_M} {E k : Nat} (nL : Nat) (G : Nat → Int32) {w : Nat} (hE : E < 60) (hw : w < 2 ^ 31) (hG : ∀ i, i < 12 → w.testBit i = true → B 80 0 i = G i) (d : Nat) (Q : sm_Q) : ∀ j i, i + j = 12 → sm_W (d + 7) 228 67 [vo 11, vi (nI k), vi (nI E), vi (nI w), vi (nI i)] [] (sm_G0 nL) (r84 B E (wrow G w) i) Q = sm_W (d + 7) 228 117 [vo 11, vi (nI k), vi (nI E), vi (nI w), vi 0] [] (sm_G0 nL) (r84 B E (wrow G w) 12) Q := by
  intro j
  induction j with
  | zero =>
    intro i hi
    have hi' : i = 12 := by omega
    subst hi'
    rw [T228_67, mm_bf (by decide)]
  | succ j ih =>
    intro i hi
    have h3 := ih (i + 1) (by omega)
    have ii : sm_in (nI i) 12 = true := mm_in (by omega) (by decide)
    have ic : (nI i).toNatClampNeg = i := nI_clamp (by omega)
    have i12 : nI i < (12 : Int32) := nI_lt (show i < 12 by omega) (by decide)
    have q : (12 : Int32) * nI E + nI i = nI (12 * E + i) := by show nI 12 * nI E + nI i = _; rw [pk_mul, nI_add]
    have qi : sm_in (nI (12 * E + i)) 720 = true := mm_in (by omega) (by decide)
    have qc : (nI (12 * E + i)).toNatClampNeg = 12 * E + i := nI_clamp (by omega)
    have hwb : ((nI w >>> (nI i &&& 31)) &&& 1 = 1) = (w.testBit i = true) := wbt_tb hw (by omega)
    have e80 : r84 B E (wrow G w) i 80 0 i = B 80 0 i := rfl
    rw [T228_67, mm_bt i12]
    simp only [ii, ic, q, qi, qc, sm_Ck_t, hwb, e80, nI_1]
    rw [← r84_s] at h3
    unfold wrow at h3 ⊢
    by_cases hb : w.testBit i = true
    · rw [if_pos hb] at h3
      rw [mm_bt hb, hG i (by omega) hb]; exact h3
    · rw [if_neg hb] at h3
      rw [mm_bf hb]; exact h3
