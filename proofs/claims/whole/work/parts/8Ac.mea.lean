/-! outranks -/
theorem mm_zz : ((0 : Int32) < 0) = False ∧ ((0 : Int32) < 1) = True ∧ ((0 : Int32) < 2) = True ∧ ((1 : Int32) < 0) = False ∧ ((1 : Int32) < 1) = False ∧ ((1 : Int32) < 2) = True ∧ ((2 : Int32) < 0) = False ∧ ((2 : Int32) < 1) = False ∧ ((2 : Int32) < 2) = False := by decide
def mb (b : Bool) : Int32 := if b = true then 1 else 0
theorem mb_z (b : Bool) : sm_zb (mb b) = true := by cases b <;> decide
theorem mb_0 (b : Bool) : (mb b = 0) = (b = false) := by cases b <;> simp [mb]
def wab2 (B : sm_M) (o : Option Nat) (p q : Nat) : Bool :=
  if B 50 0 p = B 50 0 q then (if B 51 0 p = B 51 0 q then decide (q < p) else decide (B 51 0 q < B 51 0 p))
  else if B 50 0 p = wrk B o / 100 then true else if B 50 0 q = wrk B o / 100 then false
  else decide (B 50 0 p = wrk B o / 10 - wrk B o / 10 / 10 * 10)
def wab (B : sm_M) (o : Option Nat) (p q : Nat) : Bool :=
  if B 51 0 q < B 51 0 p ∧ ¬ (B 51 0 p - B 51 0 q < wcl B o 0) then true
  else if B 51 0 p < B 51 0 q ∧ ¬ (B 51 0 q - B 51 0 p < wcl B o 0) then false
  else wab2 B o p q
theorem mm_six {p s : Nat} (hp : p < s) (hs : s ≤ 12) : ¬ nI p < 0 ∧ nI p < nI s ∧ nI p < (12 : Int32) ∧ sm_in (nI p) 12 = true ∧ (nI p).toNatClampNeg = p ∧ ¬ nI s - 1 < nI p := by
  refine ⟨nI_pos (by omega), nI_lt hp (by omega), nI_lt (show p < 12 by omega) (by decide), mm_in (by omega) (by decide), nI_clamp (by omega), ?_⟩
  rw [show (1 : Int32) = nI 1 from rfl, pk_sub (by omega)]; exact nI_nlt (by omega) (by omega)
def K_srv (A B : sm_M) (s : Nat) : Prop := ∀ i, i < s → (A 41 i 0 = B 50 0 i ∧ A 41 i 1 = B 51 0 i ∧ A 41 i 2 = B 52 0 i) ∧ (∃ w, w ≤ 2 ∧ B 50 0 i = nI w) ∧ (∃ y, y ≤ 999 ∧ B 51 0 i = nI y) ∧ (∃ s, s ≤ 9 ∧ B 52 0 i = nI s)
theorem mm_ord {a b : Nat} (ha : a ≤ 999) (hb : b ≤ 999) : (a < b ∧ ¬ nI a - nI b = 0 ∧ nI a - nI b < 0 ∧ -(nI a - nI b) = nI b - nI a ∧ ¬ nI b < nI a ∧ nI a < nI b ∧ ¬ nI a = nI b ∧ ¬ 0 < nI a - nI b) ∨ (a = b ∧ nI a - nI b = 0 ∧ ¬ nI b < nI a ∧ ¬ nI a < nI b ∧ nI a = nI b ∧ ¬ nI a - nI b < 0 ∧ ¬ 0 < nI a - nI b) ∨ (b < a ∧ ¬ nI a - nI b = 0 ∧ ¬ nI a - nI b < 0 ∧ nI b < nI a ∧ ¬ nI a < nI b ∧ ¬ nI a = nI b ∧ 0 < nI a - nI b) := by
  rcases Nat.lt_trichotomy a b with h | h | h
  · have h1 : nI a - nI b < 0 := pk_sneg (by omega) h
    exact .inl ⟨h, fun e => absurd h1 (by rw [e]; decide), h1, Int32.neg_sub, nI_nlt (by omega) (by omega), nI_lt h (by omega), fun e => absurd ((nI_eq (by omega) (by omega)).mp e) (by omega), fun e => absurd (Int32.lt_trans e h1) (by decide)⟩
  · subst h
    have e : nI a - nI a = 0 := by rw [pk_sub (Nat.le_refl _), Nat.sub_self]; rfl
    exact .inr (.inl ⟨rfl, e, nI_nlt (Nat.le_refl _) (by omega), nI_nlt (Nat.le_refl _) (by omega), rfl, by rw [e]; decide, by rw [e]; decide⟩)
  · have e : nI a - nI b = nI (a - b) := pk_sub (by omega)
    exact .inr (.inr ⟨h, by rw [e]; exact nI_ne0 (by omega) (by omega), by rw [e]; exact nI_pos (by omega), nI_lt h (by omega), nI_nlt (by omega) (by omega), fun e => absurd ((nI_eq (by omega) (by omega)).mp e) (by omega), by rw [e]; exact nI_lt (show 0 < a - b by omega) (by omega)⟩)
theorem m76 {A B : sm_M} (d nL : Nat) {s p q f i : Nat} {o : Option Nat} (hs : s ≤ 12) (hp : p < s) (hq : q < s) (es : A 14 0 1 = nI s) (hK : K_srv A B s) (hf : Nat.beq (sm_fc f) 4 = true) (h2 : A f i 2 = wcl B o 0) (h6 : A f i 6 = wrk B o) (o4 o5 o6 : Option sm_V) (Q : sm_Q) : sm_W (d + 1) 76 0 [vo 14, vi (nI p), vi (nI q), some (Sum.inr (Sum.inr (some (f, i)))), o4, o5, o6] [] (sm_G0 nL) A Q = Q (vi (mb (wab B o p q))) (sm_G0 nL) A := by
  obtain ⟨p0, p1, p2, p3, p4, -⟩ := mm_six hp hs
  obtain ⟨q0, q1, q2, q3, q4, -⟩ := mm_six hq hs
  obtain ⟨⟨a1, a2, -⟩, -, ⟨a, ha, ea⟩, -⟩ := hK p hp
  obtain ⟨⟨b1, b2, -⟩, -, ⟨b, hb, eb⟩, -⟩ := hK q hq
  have hqp : (nI q < nI p) = (q < p) := propext (nI_ltI (by omega) (by omega))
  rw [T76]
  simp only [p0, p1, p2, p3, p4, q0, q1, q2, q3, q4, es, a1, a2, b1, b2, hf, h2, h6, ea, eb, wab, wab2, mb, sm_Ck_t, mm_zb0, mm_zb1, ↓sm_Br_d, ↓reduceIte]
  rcases mm_ord ha hb with ⟨-, e1, e2, e3, e4, e5, e6, e7⟩ | ⟨-, e1, e2, e3, e4, e5, e6⟩ | ⟨-, e1, e2, e3, e4, e5, e6⟩
  · by_cases g : nI b - nI a < wcl B o 0
    · by_cases w : B 50 0 p = B 50 0 q
      · simp only [e1, e2, e3, e4, e5, e6, e7, g, eq_true w, sm_Br_d, sm_Br_t, sm_Br_f, ↓reduceIte, Bool.false_eq_true, decide_true, decide_false, decide_eq_true_eq, not_true_eq_false, not_false_eq_true, and_true, and_false, true_and, false_and]
      · by_cases w1 : B 50 0 p = wrk B o / 100
        · simp only [e1, e2, e3, e4, e5, e6, e7, g, w, eq_true w1, sm_Br_d, sm_Br_t, sm_Br_f, ↓reduceIte, Bool.false_eq_true, decide_true, decide_false, decide_eq_true_eq, not_true_eq_false, not_false_eq_true, and_true, and_false, true_and, false_and]
        · by_cases w2 : B 50 0 q = wrk B o / 100
          · simp only [e1, e2, e3, e4, e5, e6, e7, g, w, w1, eq_true w2, sm_Br_d, sm_Br_t, sm_Br_f, ↓reduceIte, Bool.false_eq_true, decide_true, decide_false, decide_eq_true_eq, not_true_eq_false, not_false_eq_true, and_true, and_false, true_and, false_and]
          · by_cases w3 : B 50 0 p = wrk B o / 10 - wrk B o / 10 / 10 * 10
            · simp only [e1, e2, e3, e4, e5, e6, e7, g, w, w1, w2, eq_true w3, sm_Br_d, sm_Br_t, sm_Br_f, ↓reduceIte, Bool.false_eq_true, decide_true, decide_false, decide_eq_true_eq, not_true_eq_false, not_false_eq_true, and_true, and_false, true_and, false_and]
            · simp only [e1, e2, e3, e4, e5, e6, e7, g, w, w1, w2, w3, sm_Br_d, sm_Br_t, sm_Br_f, ↓reduceIte, Bool.false_eq_true, decide_true, decide_false, decide_eq_true_eq, not_true_eq_false, not_false_eq_true, and_true, and_false, true_and, false_and]
    · simp only [e1, e2, e3, e4, e5, e6, e7, g, sm_Br_d, sm_Br_t, sm_Br_f, ↓reduceIte, Bool.false_eq_true, decide_true, decide_false, decide_eq_true_eq, not_true_eq_false, not_false_eq_true, and_true, and_false, true_and, false_and]
  · by_cases w : B 50 0 p = B 50 0 q
    · by_cases hh : q < p
      · simp only [eq_true e1, e2, e3, eq_true e4, e5, e6, eq_true w, hqp, hh, sm_Br_d, sm_Br_t, sm_Br_f, ↓reduceIte, Bool.false_eq_true, decide_true, decide_false, decide_eq_true_eq, not_true_eq_false, not_false_eq_true, and_true, and_false, true_and, false_and]
      · simp only [eq_true e1, e2, e3, eq_true e4, e5, e6, eq_true w, hqp, hh, sm_Br_d, sm_Br_t, sm_Br_f, ↓reduceIte, Bool.false_eq_true, decide_true, decide_false, decide_eq_true_eq, not_true_eq_false, not_false_eq_true, and_true, and_false, true_and, false_and]
    · by_cases w1 : B 50 0 p = wrk B o / 100
      · simp only [eq_true e1, e2, e3, eq_true e4, e5, e6, w, eq_true w1, sm_Br_d, sm_Br_t, sm_Br_f, ↓reduceIte, Bool.false_eq_true, decide_true, decide_false, decide_eq_true_eq, not_true_eq_false, not_false_eq_true, and_true, and_false, true_and, false_and]
      · by_cases w2 : B 50 0 q = wrk B o / 100
        · simp only [eq_true e1, e2, e3, eq_true e4, e5, e6, w, w1, eq_true w2, sm_Br_d, sm_Br_t, sm_Br_f, ↓reduceIte, Bool.false_eq_true, decide_true, decide_false, decide_eq_true_eq, not_true_eq_false, not_false_eq_true, and_true, and_false, true_and, false_and]
        · by_cases w3 : B 50 0 p = wrk B o / 10 - wrk B o / 10 / 10 * 10
          · simp only [eq_true e1, e2, e3, eq_true e4, e5, e6, w, w1, w2, eq_true w3, sm_Br_d, sm_Br_t, sm_Br_f, ↓reduceIte, Bool.false_eq_true, decide_true, decide_false, decide_eq_true_eq, not_true_eq_false, not_false_eq_true, and_true, and_false, true_and, false_and]
          · simp only [eq_true e1, e2, e3, eq_true e4, e5, e6, w, w1, w2, w3, sm_Br_d, sm_Br_t, sm_Br_f, ↓reduceIte, Bool.false_eq_true, decide_true, decide_false, decide_eq_true_eq, not_true_eq_false, not_false_eq_true, and_true, and_false, true_and, false_and]
  · by_cases g : nI a - nI b < wcl B o 0
    · by_cases w : B 50 0 p = B 50 0 q
      · simp only [e1, e2, e3, e4, e5, e6, g, eq_true w, sm_Br_d, sm_Br_t, sm_Br_f, ↓reduceIte, Bool.false_eq_true, decide_true, decide_false, decide_eq_true_eq, not_true_eq_false, not_false_eq_true, and_true, and_false, true_and, false_and]
      · by_cases w1 : B 50 0 p = wrk B o / 100
        · simp only [e1, e2, e3, e4, e5, e6, g, w, eq_true w1, sm_Br_d, sm_Br_t, sm_Br_f, ↓reduceIte, Bool.false_eq_true, decide_true, decide_false, decide_eq_true_eq, not_true_eq_false, not_false_eq_true, and_true, and_false, true_and, false_and]
        · by_cases w2 : B 50 0 q = wrk B o / 100
          · simp only [e1, e2, e3, e4, e5, e6, g, w, w1, eq_true w2, sm_Br_d, sm_Br_t, sm_Br_f, ↓reduceIte, Bool.false_eq_true, decide_true, decide_false, decide_eq_true_eq, not_true_eq_false, not_false_eq_true, and_true, and_false, true_and, false_and]
          · by_cases w3 : B 50 0 p = wrk B o / 10 - wrk B o / 10 / 10 * 10
            · simp only [e1, e2, e3, e4, e5, e6, g, w, w1, w2, eq_true w3, sm_Br_d, sm_Br_t, sm_Br_f, ↓reduceIte, Bool.false_eq_true, decide_true, decide_false, decide_eq_true_eq, not_true_eq_false, not_false_eq_true, and_true, and_false, true_and, false_and]
            · simp only [e1, e2, e3, e4, e5, e6, g, w, w1, w2, w3, sm_Br_d, sm_Br_t, sm_Br_f, ↓reduceIte, Bool.false_eq_true, decide_true, decide_false, decide_eq_true_eq, not_true_eq_false, not_false_eq_true, and_true, and_false, true_and, false_and]
    · simp only [e1, e2, e3, e4, e5, e6, g, sm_Br_d, sm_Br_t, sm_Br_f, ↓reduceIte, Bool.false_eq_true, decide_true, decide_false, decide_eq_true_eq, not_true_eq_false, not_false_eq_true, and_true, and_false, true_and, false_and]
theorem r212 {B : sm_M} (d nL : Nat) {s p q n : Nat} {x : Int32} (hs : s ≤ 12) (hp : p < s) (hq : q < s) (hy : ∀ i, i < s → ∃ y, y ≤ 999 ∧ B 51 0 i = nI y) (hn : n ≤ 10) (eb : B 11 0 27 = nI n) (o3 o4 : Option sm_V) (Q : sm_Q) : sm_W (d + 2) 212 0 [vo 11, vi (nI p), vi (nI q), vi x, o3, o4] [] (sm_G0 nL) B Q = Q (vi (mb (wab B (wrule B x n) p q))) (sm_G0 nL) B := by
  obtain ⟨p0, p1, p2, p3, p4, -⟩ := mm_six hp hs
  obtain ⟨q0, q1, q2, q3, q4, -⟩ := mm_six hq hs
  obtain ⟨a, ha, ea⟩ := hy p hp
  obtain ⟨b, hb, eb'⟩ := hy q hq
  have hqp : (nI q < nI p) = (q < p) := propext (nI_ltI (by omega) (by omega))
  have k : ∀ (v : Option sm_V), sm_W (d + 1) 209 0 [vo 11, vi x] [] (sm_G0 nL) B (fun r G1 M1 => sm_W (d + 2) 212 83 [vo 11, vi (nI p), vi (nI q), vi x, v, o4] (sm_push r []) G1 M1 Q) = Q (vi (mb (wab2 B (wrule B x n) p q))) (sm_G0 nL) B := fun v => by
    rw [r209 d nL x hn eb, sm_push_s, T212_83]
    generalize wrule B x n = o
    simp only [p3, p4, q3, q4, ea, eb', wab2, mb, sm_Ck_t]
    by_cases w : B 50 0 p = B 50 0 q
    · rcases mm_ord ha hb with ⟨-, e1, e2, e3, e4, e5, e6, e7⟩ | ⟨-, e1, e2, e3, e4, e5, e6⟩ | ⟨-, e1, e2, e3, e4, e5, e6⟩
      · simp only [eq_true w, e4, e6, mm_zz, sm_Br_d, sm_Br_t, sm_Br_f, ↓reduceIte, Bool.false_eq_true, decide_true, decide_false, decide_eq_true_eq, not_true_eq_false, not_false_eq_true, and_true, and_false, true_and, false_and]
      · by_cases hh : q < p
        · simp only [eq_true w, eq_true e4, hqp, hh, mm_zz, sm_Br_d, sm_Br_t, sm_Br_f, ↓reduceIte, Bool.false_eq_true, decide_true, decide_false, decide_eq_true_eq, not_true_eq_false, not_false_eq_true, and_true, and_false, true_and, false_and]
        · simp only [eq_true w, eq_true e4, hqp, hh, mm_zz, sm_Br_d, sm_Br_t, sm_Br_f, ↓reduceIte, Bool.false_eq_true, decide_true, decide_false, decide_eq_true_eq, not_true_eq_false, not_false_eq_true, and_true, and_false, true_and, false_and]
      · simp only [eq_true w, e3, e5, mm_zz, sm_Br_d, sm_Br_t, sm_Br_f, ↓reduceIte, Bool.false_eq_true, decide_true, decide_false, decide_eq_true_eq, not_true_eq_false, not_false_eq_true, and_true, and_false, true_and, false_and]
    · by_cases w1 : B 50 0 p = wrk B o / 100
      · have w1' : ¬ B 50 0 q = wrk B o / 100 := fun h => w (w1.trans h.symm)
        have v1' : ¬ wrk B o / 100 = B 50 0 q := fun h => w1' h.symm
        by_cases w3 : wrk B o / 10 - wrk B o / 10 / 10 * 10 = B 50 0 q
        · simp only [w, v1', eq_true w1, eq_true w1.symm, eq_true w3, mm_zz, sm_Br_d, sm_Br_t, sm_Br_f, ↓reduceIte, Bool.false_eq_true, decide_true, decide_false, decide_eq_true_eq, not_true_eq_false, not_false_eq_true, and_true, and_false, true_and, false_and]
        · simp only [w, v1', eq_true w1, eq_true w1.symm, w3, mm_zz, sm_Br_d, sm_Br_t, sm_Br_f, ↓reduceIte, Bool.false_eq_true, decide_true, decide_false, decide_eq_true_eq, not_true_eq_false, not_false_eq_true, and_true, and_false, true_and, false_and]
      · have v1 : ¬ wrk B o / 100 = B 50 0 p := fun h => w1 h.symm
        by_cases w2 : B 50 0 q = wrk B o / 100
        · by_cases w3 : wrk B o / 10 - wrk B o / 10 / 10 * 10 = B 50 0 p
          · simp only [w, v1, w1, eq_true w2, eq_true w2.symm, eq_true w3, mm_zz, sm_Br_d, sm_Br_t, sm_Br_f, ↓reduceIte, Bool.false_eq_true, decide_true, decide_false, decide_eq_true_eq, not_true_eq_false, not_false_eq_true, and_true, and_false, true_and, false_and]
          · simp only [w, v1, w1, eq_true w2, eq_true w2.symm, w3, mm_zz, sm_Br_d, sm_Br_t, sm_Br_f, ↓reduceIte, Bool.false_eq_true, decide_true, decide_false, decide_eq_true_eq, not_true_eq_false, not_false_eq_true, and_true, and_false, true_and, false_and]
        · have v2 : ¬ wrk B o / 100 = B 50 0 q := fun h => w2 h.symm
          by_cases w3 : wrk B o / 10 - wrk B o / 10 / 10 * 10 = B 50 0 p
          · have w4 : ¬ wrk B o / 10 - wrk B o / 10 / 10 * 10 = B 50 0 q := fun h => w (w3.symm.trans h)
            simp only [w, v1, v2, w1, w2, eq_true w3, eq_true w3.symm, w4, mm_zz, sm_Br_d, sm_Br_t, sm_Br_f, ↓reduceIte, Bool.false_eq_true, decide_true, decide_false, decide_eq_true_eq, not_true_eq_false, not_false_eq_true, and_true, and_false, true_and, false_and]
          · have w3' : ¬ B 50 0 p = wrk B o / 10 - wrk B o / 10 / 10 * 10 := fun h => w3 h.symm
            by_cases w4 : wrk B o / 10 - wrk B o / 10 / 10 * 10 = B 50 0 q
            · simp only [w, v1, v2, w1, w2, w3, w3', eq_true w4, mm_zz, sm_Br_d, sm_Br_t, sm_Br_f, ↓reduceIte, Bool.false_eq_true, decide_true, decide_false, decide_eq_true_eq, not_true_eq_false, not_false_eq_true, and_true, and_false, true_and, false_and]
            · simp only [w, v1, v2, w1, w2, w3, w3', w4, mm_zz, sm_Br_d, sm_Br_t, sm_Br_f, ↓reduceIte, Bool.false_eq_true, decide_true, decide_false, decide_eq_true_eq, not_true_eq_false, not_false_eq_true, and_true, and_false, true_and, false_and]
  rw [T212]
  refine (r191 d nL x (j := 0) (by decide) none hn eb _).trans ?_
  rw [sm_push_s, T212_6]
  simp only [p3, p4, q3, q4, ea, eb', sm_Ck_t, wab]
  rcases mm_ord ha hb with ⟨-, e1, e2, e3, e4, e5, e6, e7⟩ | ⟨-, e1, e2, e3, e4, e5, e6⟩ | ⟨-, e1, e2, e3, e4, e5, e6⟩
  · by_cases g : nI b - nI a < wcl B (wrule B x n) 0
    · simp only [e4, e5, g, k, sm_Br_d, ↓reduceIte, not_true_eq_false, false_and, and_false]
    · simp only [e4, e5, g, sm_Br_d, ↓reduceIte, not_false_eq_true, false_and, and_self]; rfl
  · simp only [e2, e3, k, sm_Br_d, ↓reduceIte, false_and]
  · by_cases g : nI a - nI b < wcl B (wrule B x n) 0
    · simp only [e3, e4, g, k, sm_Br_d, ↓reduceIte, not_true_eq_false, false_and, and_false]
    · simp only [e3, g, sm_Br_d, ↓reduceIte, not_false_eq_true, and_self]; rfl
/-! outranks, the call -/
theorem p75 {A B : sm_M} (hS : J_srv A B) (hR : J_rul A B) (x0 x1 x2 : Int32) (nL : Nat) : ∃ r, (∀ d Q, sm_W (d + 2) 75 0 [vo 10, vi x0, vi x1, vi x2] [] (sm_G0 nL) A Q = Q (vi r) (sm_G0 nL) A) ∧ (∀ d Q, sm_W (d + 3) 211 0 [vo 11, vi x0, vi x1, vi x2] [] (sm_G0 nL) B Q = Q (vi r) (sm_G0 nL) B) := by
  obtain ⟨se, s, hs, es, hK⟩ := hS
  have sa : A 14 0 1 = nI s := se.trans es
  obtain ⟨n, hn, ea, eb, hKr, h0⟩ := hR
  rcases mm_sv x0 s (by omega) with h | ⟨h0, h1, h2⟩ | ⟨p, hp, rfl, v0, v1, v2⟩
  · exact ⟨-1, fun d Q => by simp only [T75, h, ↓sm_Br_d, ↓reduceIte, sm_Ck_t, mm_zb0, mm_zb1], fun d Q => by simp only [T211, h, ↓sm_Br_d, ↓reduceIte, sm_Ck_t, mm_zb0, mm_zb1]⟩
  · exact ⟨-1, fun d Q => by simp only [T75, h0, sa, es, h1, h2, ↓sm_Br_d, ↓reduceIte, sm_Ck_t, mm_zb0, mm_zb1], fun d Q => by simp only [T211, h0, sa, es, h1, h2, ↓sm_Br_d, ↓reduceIte, sm_Ck_t, mm_zb0, mm_zb1]⟩
  obtain ⟨p0, p1, p2, p3, p4, p5⟩ := mm_six hp hs
  rcases mm_sv x1 s (by omega) with h | ⟨g0, g1, g2⟩ | ⟨q, hq, rfl, u0, u1, u2⟩
  · exact ⟨-1, fun d Q => by simp only [T75, p0, sa, es, p1, p2, p3, p5, h, ↓sm_Br_d, ↓reduceIte, sm_Ck_t, mm_zb0, mm_zb1], fun d Q => by simp only [T211, p0, sa, es, p1, p2, p3, p5, h, ↓sm_Br_d, ↓reduceIte, sm_Ck_t, mm_zb0, mm_zb1]⟩
  · exact ⟨-1, fun d Q => by simp only [T75, p0, sa, es, p1, p2, p3, p5, g0, g1, g2, ↓sm_Br_d, ↓reduceIte, sm_Ck_t, mm_zb0, mm_zb1], fun d Q => by simp only [T211, p0, sa, es, p1, p2, p3, p5, g0, g1, g2, ↓sm_Br_d, ↓reduceIte, sm_Ck_t, mm_zb0, mm_zb1]⟩
  obtain ⟨q0, q1, q2, q3, q4, q5⟩ := mm_six hq hs
  by_cases a0 : x2 < 0
  · exact ⟨-2, fun d Q => by simp only [T75, p0, sa, es, p1, p2, p3, p5, q0, q1, q2, q3, q5, a0, ↓sm_Br_d, ↓reduceIte, sm_Ck_t, mm_zb0, mm_zb1], fun d Q => by simp only [T211, p0, sa, es, p1, p2, p3, p5, q0, q1, q2, q3, q5, a0, ↓sm_Br_d, ↓reduceIte, sm_Ck_t, mm_zb0, mm_zb1]⟩
  by_cases a1 : 9999 < x2
  · exact ⟨-2, fun d Q => by simp only [T75, p0, sa, es, p1, p2, p3, p5, q0, q1, q2, q3, q5, a0, a1, ↓sm_Br_d, ↓reduceIte, sm_Ck_t, mm_zb0, mm_zb1], fun d Q => by simp only [T211, p0, sa, es, p1, p2, p3, p5, q0, q1, q2, q3, q5, a0, a1, ↓sm_Br_d, ↓reduceIte, sm_Ck_t, mm_zb0, mm_zb1]⟩
  by_cases hpq : nI p = nI q
  · exact ⟨-2, fun d Q => by simp only [T75, p0, sa, es, p1, p2, p3, p5, q0, q1, q2, q3, q5, a0, a1, hpq, ↓sm_Br_d, ↓reduceIte, sm_Ck_t, mm_zb0, mm_zb1], fun d Q => by simp only [T211, p0, sa, es, p1, p2, p3, p5, q0, q1, q2, q3, q5, a0, a1, hpq, ↓sm_Br_d, ↓reduceIte, sm_Ck_t, mm_zb0, mm_zb1]⟩
  obtain ⟨e0, e1, e2, e3, e4, e5, e6⟩ := wA_eq hKr h0 x2
  refine ⟨mb (wab B (wrule B x2 n) p q), fun d Q => ?_, fun d Q => ?_⟩
  · simp only [T75, p0, sa, p1, p2, p3, q0, q1, q2, q3, a0, a1, hpq, ↓sm_Br_d, ↓reduceIte, sm_Ck_t, mm_zb0, mm_zb1]
    rw [m48e (d + 1) nL x2 none none hn ea hKr]
    have fin : ∀ (f4 i5 : Nat), Nat.beq (sm_fc f4) 4 = true → A f4 i5 2 = wcl B (wrule B x2 n) 0 → A f4 i5 6 = wrk B (wrule B x2 n) → sm_W (d + 2) 75 53 [vo 10, vi (nI p), vi (nI q), vi x2] [Sum.inr (Sum.inr (some (f4, i5))), Sum.inl (nI q), Sum.inl (nI p), Sum.inr (Sum.inr (some (14, 0)))] (sm_G0 nL) A Q = Q (vi (mb (wab B (wrule B x2 n) p q))) (sm_G0 nL) A := fun f4 i5 hf h2 h6 => by
      rw [T75_53, m76 d nL hs hp hq sa hK hf h2 h6, sm_push_s, T75_56]
      cases wab B (wrule B x2 n) p q
      · rw [mm_bt (by decide)]; rfl
      · rw [mm_bf (by decide)]; rfl
    generalize wrule B x2 n = o at fin e1 e5 ⊢
    cases o with
    | none => exact fin 34 0 rfl e1 e5
    | some k => exact fin 36 k rfl e1 e5
  · simp only [T211, p0, es, p5, q0, q5, a0, a1, hpq, ↓sm_Br_d, ↓reduceIte, sm_Ck_t, mm_zb0, mm_zb1]
    rw [r212 d nL hs hp hq (fun i hi => (hK i hi).2.2.1) hn eb, sm_push_s, T211_40]
    cases wab B (wrule B x2 n) p q
    · rw [mm_bt (by decide)]; rfl
    · rw [mm_bf (by decide)]; rfl
