/-! the best survey -/
def wcnt (B : sm_M) (o : Option Nat) (L : Nat → Option Nat) (p : Nat) : Nat → Nat
  | 0 => 0
  | q + 1 => if q = p then wcnt B o L p q else match L q with
    | none => wcnt B o L p q
    | some _ => if wab B o p q = true then wcnt B o L p q + 1 else wcnt B o L p q
theorem wcnt_le {B : sm_M} {o : Option Nat} {L : Nat → Option Nat} {p : Nat} : ∀ q, wcnt B o L p q ≤ q
  | 0 => Nat.le_refl _
  | q + 1 => by
    have h := wcnt_le (B := B) (o := o) (L := L) (p := p) q
    unfold wcnt
    split
    · omega
    · split
      · omega
      · split <;> omega
def wbs (B : sm_M) (o : Option Nat) (L : Nat → Option Nat) (s : Nat) : Nat → Option (Nat × Nat)
  | 0 => none
  | p + 1 => match L p with
    | none => wbs B o L s p
    | some _ => match wbs B o L s p with
      | none => some (p, wcnt B o L p s)
      | some (b, m) => if wcnt B o L p s < m then some (b, m) else some (p, wcnt B o L p s)
theorem wbs_p {B : sm_M} {o : Option Nat} {L : Nat → Option Nat} {s : Nat} : ∀ {p b m : Nat}, wbs B o L s p = some (b, m) → b < p ∧ m ≤ s ∧ ∃ k, L b = some k := by
  intro p
  induction p with
  | zero => intro b m h; cases h
  | succ p ih =>
    intro b m h
    unfold wbs at h
    cases hl : L p with
    | none => rw [hl] at h; obtain ⟨a, b⟩ := ih h; exact ⟨by omega, b⟩
    | some k =>
      rw [hl] at h
      cases hw : wbs B o L s p with
      | none => rw [hw] at h; cases h; exact ⟨Nat.lt_succ_self _, wcnt_le _, k, hl⟩
      | some bm =>
        obtain ⟨b', m'⟩ := bm
        rw [hw] at h
        simp only at h
        split at h
        · cases h; obtain ⟨a, b⟩ := ih hw; exact ⟨by omega, b⟩
        · cases h; exact ⟨Nat.lt_succ_self _, wcnt_le _, k, hl⟩
theorem wbs_n {B : sm_M} {o : Option Nat} {L : Nat → Option Nat} {s : Nat} : ∀ {p : Nat}, wbs B o L s p = none → ∀ q, q < p → L q = none := by
  intro p
  induction p with
  | zero => intro _ q hq; exact absurd hq (Nat.not_lt_zero _)
  | succ p ih =>
    intro h q hq
    unfold wbs at h
    cases hl : L p with
    | none =>
      rw [hl] at h
      by_cases hqp : q = p
      · subst hqp; exact hl
      · exact ih h q (by omega)
    | some k =>
      rw [hl] at h
      cases hw : wbs B o L s p with
      | none => rw [hw] at h; cases h
      | some bm =>
        obtain ⟨b', m'⟩ := bm
        rw [hw] at h
        simp only at h
        split at h <;> cases h
def wb1 : Option (Nat × Nat) → Int32
  | none => -1
  | some (b, _) => nI b
def wb2 : Option (Nat × Nat) → Int32
  | none => 0
  | some (_, m) => nI m
def wb3 : Option (Nat × Nat) → Int32
  | none => -1
  | some (_, m) => nI m
theorem mm_m1 : (-1 : Int32) < 0 := by decide
theorem m82b {A B : sm_M} {t s f i : Nat} {o : Option Nat} {L : Nat → Option Nat} (nL : Nat) (hV : VW A B t s) (hR : RO A B o f i) (hL : ∀ k, k < s → A 40 0 k = wnr (L k)) (hLt : ∀ k j, L k = some j → j < 90) {p : Nat} (hp : p < s) (b m : Int32) : ∀ j q, q + j = s → ∀ d Q, sm_W (d + 2) 82 35 [vo 14, some (Sum.inr (Sum.inr (some (f, i)))), vi b, vi m, vi (nI p), vi (nI (wcnt B o L p q)), vi (nI q)] [] (sm_G0 nL) A Q = sm_W (d + 2) 82 35 [vo 14, some (Sum.inr (Sum.inr (some (f, i)))), vi b, vi m, vi (nI p), vi (nI (wcnt B o L p s)), vi (nI s)] [] (sm_G0 nL) A Q := by
  obtain ⟨ht, hs, ta, sa, tb, sb, hT, hS⟩ := hV
  intro j
  induction j with
  | zero =>
    intro q hq d Q
    have hq' : q = s := by omega
    subst hq'
    rfl
  | succ j ih =>
    intro q hq d Q
    have h3 := ih (q + 1) (by omega) d Q
    obtain ⟨q0, q1, q2, q3, q4, -⟩ := mm_six (show q < s by omega) hs
    have hc := wcnt_le (B := B) (o := o) (L := L) (p := p) q
    have c0 : ¬ nI (wcnt B o L p q) < 0 := nI_pos (by omega)
    have hqp : (nI q = nI p) = (q = p) := propext (nI_eq (by omega) (by omega))
    have hw : wcnt B o L p (q + 1) = if q = p then wcnt B o L p q else match L q with
      | none => wcnt B o L p q
      | some _ => if wab B o p q = true then wcnt B o L p q + 1 else wcnt B o L p q := rfl
    rw [T82_35, sa, mm_bt q1, mm_bf c0]
    by_cases hqp' : q = p
    · rw [hw, if_pos hqp'] at h3
      rw [mm_bt (hqp.mpr hqp'), nI_1]; exact h3
    · rw [hw, if_neg hqp'] at h3
      rw [mm_bf (fun h => hqp' (hqp.mp h)), mm_bf q0, mm_bt q2, mm_ck q3, q4, hL q (by omega)]
      cases hl : L q with
      | none =>
        rw [hl] at h3
        rw [mm_bt (show wnr none < 0 from mm_m1), nI_1]; exact h3
      | some k =>
        rw [hl] at h3
        have hk := hLt q k hl
        have k0 : ¬ wnr (some k) < 0 := nI_pos (show k < 2 ^ 31 by omega)
        rw [mm_bf k0, m76 d nL hs hp (by omega) sa hS hR.1 hR.2.2.1 hR.2.2.2.2.2.1, sm_push_s, T82_74, nI_1, nI_1]
        cases hwa : wab B o p q with
        | false => rw [hwa] at h3; rw [mm_bt (by decide)]; exact h3
        | true => rw [hwa] at h3; rw [mm_bf (by decide)]; exact h3
theorem m82a {A B : sm_M} {t s f i : Nat} {o : Option Nat} {L : Nat → Option Nat} (nL : Nat) (hV : VW A B t s) (hR : RO A B o f i) (hL : ∀ k, k < s → A 40 0 k = wnr (L k)) (hLt : ∀ k j, L k = some j → j < 90) : ∀ j p, p + j = s → ∀ d Q o5 o6, sm_W (d + 2) 82 7 [vo 14, some (Sum.inr (Sum.inr (some (f, i)))), vi (wb1 (wbs B o L s p)), vi (wb2 (wbs B o L s p)), vi (nI p), o5, o6] [] (sm_G0 nL) A Q = Q (vi (wb1 (wbs B o L s s))) (sm_G0 nL) A := by
  obtain ⟨ht, hs, ta, sa, tb, sb, hT, hS⟩ := id hV
  intro j
  induction j with
  | zero =>
    intro p hp d Q o5 o6
    have hp' : p = s := by omega
    subst hp'
    rw [T82_7, sa, mm_bf (nI_nlt (Nat.le_refl _) (by omega))]
  | succ j ih =>
    intro p hp d Q o5 o6
    have h3 := fun o5 o6 => ih (p + 1) (by omega) d Q o5 o6
    obtain ⟨p0, p1, p2, p3, p4, -⟩ := mm_six (show p < s by omega) hs
    have hw : wbs B o L s (p + 1) = match L p with
      | none => wbs B o L s p
      | some _ => match wbs B o L s p with
        | none => some (p, wcnt B o L p s)
        | some (b, m) => if wcnt B o L p s < m then some (b, m) else some (p, wcnt B o L p s) := rfl
    have s0 : (0 : Int32) < nI s := nI_lt (show 0 < s by omega) (by omega)
    rw [T82_7, sa, mm_bt p1, mm_bf p0, mm_bt p2, mm_ck p3, p4, hL p (by omega)]
    cases hl : L p with
    | none =>
      rw [hl] at hw
      simp only at hw
      rw [hw] at h3
      have hlt : (-1 : Int32) < wb2 (wbs B o L s p) := by
        cases hb : wbs B o L s p with
        | none => decide
        | some bm =>
          obtain ⟨b, m⟩ := bm
          have := (wbs_p hb).2.1
          show (-1 : Int32) < nI m
          rw [Int32.lt_iff_toInt_lt, nI_toInt (by omega), show ((-1 : Int32)).toInt = -1 from by decide]; omega
      rw [mm_bt (show wnr none < 0 from mm_m1), T82_35, sa, mm_bt s0, mm_bt mm_m1, mm_bt hlt, nI_1]; exact h3 _ _
    | some k =>
      rw [hl] at hw
      simp only at hw
      have hk := hLt p k hl
      have k0 : ¬ wnr (some k) < 0 := nI_pos (show k < 2 ^ 31 by omega)
      rw [mm_bf k0]
      refine (m82b nL hV hR hL hLt (show p < s by omega) _ _ s 0 (by omega) d Q).trans ?_
      have hc := wcnt_le (B := B) (o := o) (L := L) (p := p) s
      rw [T82_35, sa, mm_bf (nI_nlt (Nat.le_refl _) (by omega)), nI_1]
      cases hb : wbs B o L s p with
      | none =>
        rw [hb] at hw
        simp only at hw
        rw [hw] at h3
        rw [mm_bf (show ¬ nI (wcnt B o L p s) < wb2 none from nI_pos (by omega))]; exact h3 _ _
      | some bm =>
        obtain ⟨b, m⟩ := bm
        rw [hb] at hw
        simp only at hw
        have hm := (wbs_p hb).2.1
        by_cases hcm : wcnt B o L p s < m
        · rw [hw, if_pos hcm] at h3
          rw [mm_bt (show nI (wcnt B o L p s) < wb2 (some (b, m)) from nI_lt hcm (by omega))]; exact h3 _ _
        · rw [hw, if_neg hcm] at h3
          rw [mm_bf (show ¬ nI (wcnt B o L p s) < wb2 (some (b, m)) from nI_nlt (by omega) (by omega))]; exact h3 _ _
theorem r216d {A B B1 : sm_M} {t s n : Nat} {y : Int32} {L : Nat → Option Nat} (nL : Nat) (hV : VW A B t s) (hn : n ≤ 10) (eb : B 11 0 27 = nI n) (hB : Fr scB B B1) (hwr : wrule B1 y n = wrule B y n) (hwa : ∀ p q, wab B1 (wrule B y n) p q = wab B (wrule B y n) p q) (hL : ∀ k, k < s → B1 75 0 k = wnr (L k)) (hLt : ∀ k j, L k = some j → j < 90) {p : Nat} (hp : p < s) (b m : Int32) (o0 : Option sm_V) : ∀ j q, q + j = s → ∀ d Q, sm_W (d + 3) 216 116 [vo 11, o0, vi y, vi b, vi m, vi (nI p), vi (nI (wcnt B (wrule B y n) L p q)), vi (nI q)] [] (sm_G0 nL) B1 Q = sm_W (d + 3) 216 116 [vo 11, o0, vi y, vi b, vi m, vi (nI p), vi (nI (wcnt B (wrule B y n) L p s)), vi (nI s)] [] (sm_G0 nL) B1 Q := by
  obtain ⟨ht, hs, ta, sa, tb, sb, hT, hS⟩ := hV
  have sb1 : B1 11 0 3 = nI s := (hB 11 0 3 rfl).trans sb
  have eb1 : B1 11 0 27 = nI n := (hB 11 0 27 rfl).trans eb
  have hy1 : ∀ i, i < s → ∃ y, y ≤ 999 ∧ B1 51 0 i = nI y := fun i hi => by
    obtain ⟨y, h1, h2⟩ := (hS i hi).2.2.1
    exact ⟨y, h1, (hB 51 0 i rfl).trans h2⟩
  intro j
  induction j with
  | zero =>
    intro q hq d Q
    have hq' : q = s := by omega
    subst hq'
    rfl
  | succ j ih =>
    intro q hq d Q
    have h3 := ih (q + 1) (by omega) d Q
    obtain ⟨q0, q1, q2, q3, q4, -⟩ := mm_six (show q < s by omega) hs
    have hqp : (nI q = nI p) = (q = p) := propext (nI_eq (by omega) (by omega))
    have hw : wcnt B (wrule B y n) L p (q + 1) = if q = p then wcnt B (wrule B y n) L p q else match L q with
      | none => wcnt B (wrule B y n) L p q
      | some _ => if wab B (wrule B y n) p q = true then wcnt B (wrule B y n) L p q + 1 else wcnt B (wrule B y n) L p q := rfl
    rw [T216_116, sb1, mm_bt q1]
    simp only [Int32.add_zero]
    by_cases hqp' : q = p
    · rw [hw, if_pos hqp'] at h3
      rw [mm_bt (hqp.mpr hqp'), nI_1]; exact h3
    · rw [hw, if_neg hqp'] at h3
      rw [mm_bf (fun h => hqp' (hqp.mp h)), mm_ck q3, q4, hL q (by omega)]
      cases hl : L q with
      | none =>
        rw [hl] at h3
        rw [mm_bt (show wnr none < 0 from mm_m1), nI_1]; exact h3
      | some k =>
        rw [hl] at h3
        have hk := hLt q k hl
        have k0 : ¬ wnr (some k) < 0 := nI_pos (show k < 2 ^ 31 by omega)
        rw [mm_bf k0, r212 d nL hs hp (by omega) hy1 hn eb1, sm_push_s, T216_153, hwr, hwa]
        simp only [Int32.add_zero, nI_1]
        cases hwa : wab B (wrule B y n) p q with
        | false => rw [hwa] at h3; rw [mm_bt (by decide)]; exact h3
        | true => rw [hwa] at h3; rw [mm_bf (by decide)]; exact h3
theorem r216c {A B B1 : sm_M} {t s n : Nat} {y : Int32} {L : Nat → Option Nat} (nL : Nat) (hV : VW A B t s) (hn : n ≤ 10) (eb : B 11 0 27 = nI n) (hB : Fr scB B B1) (hwr : wrule B1 y n = wrule B y n) (hwa : ∀ p q, wab B1 (wrule B y n) p q = wab B (wrule B y n) p q) (hL : ∀ k, k < s → B1 75 0 k = wnr (L k)) (hLt : ∀ k j, L k = some j → j < 90) (o0 : Option sm_V) : ∀ j p, p + j = s → ∀ d Q o5 o6, ∃ o5' o6', sm_W (d + 3) 216 88 [vo 11, o0, vi y, vi (wb1 (wbs B (wrule B y n) L s p)), vi (wb3 (wbs B (wrule B y n) L s p)), vi (nI p), o5, o6] [] (sm_G0 nL) B1 Q = sm_W (d + 3) 216 88 [vo 11, o0, vi y, vi (wb1 (wbs B (wrule B y n) L s s)), vi (wb3 (wbs B (wrule B y n) L s s)), vi (nI s), o5', o6'] [] (sm_G0 nL) B1 Q := by
  obtain ⟨ht, hs, ta, sa, tb, sb, hT, hS⟩ := id hV
  have sb1 : B1 11 0 3 = nI s := (hB 11 0 3 rfl).trans sb
  intro j
  induction j with
  | zero =>
    intro p hp d Q o5 o6
    have hp' : p = s := by omega
    subst hp'
    exact ⟨o5, o6, rfl⟩
  | succ j ih =>
    intro p hp d Q o5 o6
    have h3 := fun o5 o6 => ih (p + 1) (by omega) d Q o5 o6
    obtain ⟨p0, p1, p2, p3, p4, -⟩ := mm_six (show p < s by omega) hs
    have hw : wbs B (wrule B y n) L s (p + 1) = match L p with
      | none => wbs B (wrule B y n) L s p
      | some _ => match wbs B (wrule B y n) L s p with
        | none => some (p, wcnt B (wrule B y n) L p s)
        | some (b, m) => if wcnt B (wrule B y n) L p s < m then some (b, m) else some (p, wcnt B (wrule B y n) L p s) := rfl
    rw [T216_88, sb1, mm_bt p1, mm_ck p3, p4, hL p (by omega)]
    cases hl : L p with
    | none =>
      rw [hl] at hw
      simp only at hw
      rw [hw] at h3
      rw [mm_bt (show wnr none < 0 from mm_m1), nI_1]; exact h3 _ _
    | some k =>
      rw [hl] at hw
      simp only at hw
      have hk := hLt p k hl
      have k0 : ¬ wnr (some k) < 0 := nI_pos (show k < 2 ^ 31 by omega)
      have h4 := r216d nL hV hn eb hB hwr hwa hL hLt (show p < s by omega) (wb1 (wbs B (wrule B y n) L s p)) (wb3 (wbs B (wrule B y n) L s p)) o0 s 0 (by omega) d Q
      have hc := wcnt_le (B := B) (o := wrule B y n) (L := L) (p := p) s
      have key : sm_W (d + 3) 216 116 [vo 11, o0, vi y, vi (wb1 (wbs B (wrule B y n) L s p)), vi (wb3 (wbs B (wrule B y n) L s p)), vi (nI p), vi 0, vi 0] [] (sm_G0 nL) B1 Q = sm_Br (decide (nI (wcnt B (wrule B y n) L p s) < wb3 (wbs B (wrule B y n) L s p))) (sm_W (d + 3) 216 88 [vo 11, o0, vi y, vi (wb1 (wbs B (wrule B y n) L s p)), vi (wb3 (wbs B (wrule B y n) L s p)), vi (nI (p + 1)), vi (nI (wcnt B (wrule B y n) L p s)), vi (nI s)] [] (sm_G0 nL) B1 Q) (sm_W (d + 3) 216 88 [vo 11, o0, vi y, vi (nI p), vi (nI (wcnt B (wrule B y n) L p s)), vi (nI (p + 1)), vi (nI (wcnt B (wrule B y n) L p s)), vi (nI s)] [] (sm_G0 nL) B1 Q) := h4.trans (by rw [T216_116, sb1, mm_bf (nI_nlt (Nat.le_refl s) (by omega)), nI_1])
      rw [mm_bf k0]
      cases hb : wbs B (wrule B y n) L s p with
      | none =>
        rw [hb] at hw key
        simp only at hw
        rw [hw] at h3
        obtain ⟨o5', o6', h5⟩ := h3 (vi (nI (wcnt B (wrule B y n) L p s))) (vi (nI s))
        exact ⟨o5', o6', key.trans ((mm_bf (show ¬ nI (wcnt B (wrule B y n) L p s) < wb3 none from fun h => absurd (Int32.lt_trans h mm_m1) (nI_pos (by omega)))).trans h5)⟩
      | some bm =>
        obtain ⟨b, m⟩ := bm
        rw [hb] at hw key
        simp only at hw
        have hm := (wbs_p hb).2.1
        by_cases hcm : wcnt B (wrule B y n) L p s < m
        · rw [hw, if_pos hcm] at h3
          obtain ⟨o5', o6', h5⟩ := h3 (vi (nI (wcnt B (wrule B y n) L p s))) (vi (nI s))
          exact ⟨o5', o6', key.trans ((mm_bt (show nI (wcnt B (wrule B y n) L p s) < wb3 (some (b, m)) from nI_lt hcm (by omega))).trans h5)⟩
        · rw [hw, if_neg hcm] at h3
          obtain ⟨o5', o6', h5⟩ := h3 (vi (nI (wcnt B (wrule B y n) L p s))) (vi (nI s))
          exact ⟨o5', o6', key.trans ((mm_bf (show ¬ nI (wcnt B (wrule B y n) L p s) < wb3 (some (b, m)) from nI_nlt (by omega) (by omega))).trans h5)⟩
