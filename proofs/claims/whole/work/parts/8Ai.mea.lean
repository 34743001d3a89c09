/-! the water of a cell -/
def WL (B : sm_M) (c y : Int32) (t : Nat) : Nat → Option Nat := fun k => wlat B c y k t
def WW (B : sm_M) (o : Option Nat) (c y : Int32) (t s : Nat) : Option (Nat × Nat × Nat) := match wbs B o (WL B c y t) s s with
  | none => none
  | some (b, _) => match WL B c y t b with
    | none => none
    | some bt => some (bt, wqs B (WL B c y t) bt b s)
theorem WL_p {B : sm_M} {c y : Int32} {t k j : Nat} (h : WL B c y t k = some j) : j < t ∧ B 61 0 j = nI k := ⟨(wlat_p h).1, (wlat_p h).2.2⟩
theorem WW_p {B : sm_M} {o : Option Nat} {c y : Int32} {t s bt w q : Nat} (h : WW B o c y t s = some (bt, w, q)) : bt < t ∧ w < t ∧ q ≤ s ∧ ∃ b m, wbs B o (WL B c y t) s s = some (b, m) ∧ b < s ∧ WL B c y t b = some bt ∧ (w, q) = wqs B (WL B c y t) bt b s := by
  unfold WW at h
  cases hb : wbs B o (WL B c y t) s s with
  | none => rw [hb] at h; cases h
  | some bm =>
    obtain ⟨b, m⟩ := bm
    rw [hb] at h
    simp only at h
    cases hl : WL B c y t b with
    | none => rw [hl] at h; cases h
    | some bt' =>
      rw [hl] at h
      simp only [Option.some.injEq, Prod.mk.injEq] at h
      obtain ⟨rfl, h2⟩ := h
      have hp := wqs_p (B := B) (b := b) (WL_p hl).1 (fun k j h => (WL_p (B := B) (c := c) (y := y) (t := t) (k := k) h).1) s
      rw [h2] at hp
      exact ⟨(WL_p hl).1, hp.1, hp.2, b, m, rfl, (wbs_p hb).1, hl, h2.symm⟩
theorem WW_n {B : sm_M} {o : Option Nat} {c y : Int32} {t s : Nat} (h : WW B o c y t s = none) : wbs B o (WL B c y t) s s = none := by
  unfold WW at h
  cases hb : wbs B o (WL B c y t) s s with
  | none => rfl
  | some bm =>
    obtain ⟨b, m⟩ := bm
    rw [hb] at h
    simp only at h
    obtain ⟨k, hk⟩ := (wbs_p hb).2.2
    rw [hk] at h; cases h
/-- what weigh leaves -/
def AW (A2 : sm_M) : Option (Nat × Nat × Nat) → Prop
  | none => True
  | some (bt, w, q) => A2 14 0 7 = nI bt ∧ A2 14 0 8 = nI w ∧ A2 14 0 9 = nI q
theorem m80 {A B : sm_M} {t s f i : Nat} {o : Option Nat} (nL : Nat) (c y : Int32) (hV : VW A B t s) (hR : RO A B o f i) : ∃ A2, (∀ d Q o4 o5 o6, sm_W (d + 3) 80 0 [vo 14, vi c, vi y, some (Sum.inr (Sum.inr (some (f, i)))), o4, o5, o6] [] (sm_G0 nL) A Q = Q (vi (mb (WW B o c y t s).isSome)) (sm_G0 nL) A2) ∧ Fr scA A A2 ∧ AW A2 (WW B o c y t s) := by
  obtain ⟨A1, g1, g2, g3⟩ := m81 (A := A) (B := B) nL c y hV
  have hV1 := VW_sc hV g2
  have hR1 := RO_sc hR g2
  have hL1 : ∀ k, k < s → A1 40 0 k = wnr (WL B c y t k) := fun k hk => g3 k (by have := hV.2.1; omega)
  have hLt : ∀ k j, WL B c y t k = some j → j < 90 := fun k j h => by have := (WL_p h).1; have := hV.1; omega
  have hbest : ∀ d Q, sm_W (d + 2) 82 0 [vo 14, some (Sum.inr (Sum.inr (some (f, i)))), none, none, none, none, none] [] (sm_G0 nL) A1 Q = Q (vi (wb1 (wbs B o (WL B c y t) s s))) (sm_G0 nL) A1 := fun d Q => by
    rw [T82]; exact m82a nL hV1 hR1 hL1 hLt s 0 (by omega) d Q none none
  have hst : ∀ d Q o4 o5 o6, sm_W (d + 3) 80 0 [vo 14, vi c, vi y, some (Sum.inr (Sum.inr (some (f, i)))), o4, o5, o6] [] (sm_G0 nL) A Q = sm_W (d + 3) 80 11 [vo 14, vi c, vi y, some (Sum.inr (Sum.inr (some (f, i)))), o4, o5, o6] [Sum.inl (wb1 (wbs B o (WL B c y t) s s))] (sm_G0 nL) A1 Q := fun d Q o4 o5 o6 => by
    rw [T80, g1, sm_push_n, T80_6, hbest, sm_push_s]
  cases hb : wbs B o (WL B c y t) s s with
  | none =>
    have hW : WW B o c y t s = none := by unfold WW; rw [hb]
    have hN := wbs_n hb
    rw [hb] at hst
    refine ⟨sm_u (sm_u (sm_u A1 14 0 7 (-1)) 14 0 8 (-1)) 14 0 9 0, fun d Q o4 o5 o6 => ?_, Fr_u (Fr_u (Fr_u g2 rfl) rfl) rfl, by rw [hW]; trivial⟩
    rw [hst, T80_11, mm_bt (show wb1 none < 0 from mm_m1), hW]
    exact m80n (A := sm_u (sm_u (sm_u A1 14 0 7 (-1)) 14 0 8 (-1)) 14 0 9 0) nL (VW_sc hV (Fr_u (Fr_u (Fr_u g2 rfl) rfl) rfl)) hN hL1 rfl s 0 (by omega) d Q _ _ _ _ _
  | some bm =>
    obtain ⟨b, m⟩ := bm
    obtain ⟨hb1, -, bt, hbt⟩ := wbs_p hb
    have hW : WW B o c y t s = some (bt, wqs B (WL B c y t) bt b s) := by unfold WW; rw [hb]; simp only [hbt]
    obtain ⟨p0, p1, p2, p3, p4, -⟩ := mm_six hb1 hV.2.1
    rw [hb] at hst
    have frs : Fr scA A (sm_u (sm_u (sm_u A1 14 0 7 (nI bt)) 14 0 8 (nI bt)) 14 0 9 0) := Fr_u (Fr_u (Fr_u g2 rfl) rfl) rfl
    obtain ⟨A2, q1, q2, q3, q4, q5⟩ := m80q (A := A) (B := B) (L := WL B c y t) nL hV (fun k j h => WL_p h) hb1 hbt s 0 (sm_u (sm_u (sm_u A1 14 0 7 (nI bt)) 14 0 8 (nI bt)) 14 0 9 0) (by omega) frs hL1 rfl rfl rfl
    refine ⟨A2, fun d Q o4 o5 o6 => ?_, q2, by rw [hW]; exact ⟨q3, q4, q5⟩⟩
    have hc : A1 40 0 b = nI bt := by rw [hL1 b hb1, hbt]; rfl
    rw [hst, T80_11, mm_bf (show ¬ wb1 (some (b, m)) < 0 from p0), mm_bt (show wb1 (some (b, m)) < 12 from p2), mm_ck (show sm_in (wb1 (some (b, m))) 12 = true from p3), show (wb1 (some (b, m))).toNatClampNeg = b from p4, hc, hW]
    exact q1 d Q _ _ _ _ _
/-! the least hazard -/
def wls (a b : Int32) : Int32 := if a = -1000000 then b else if b = -1000000 then a else if b < a then b else a
def whz (B : sm_M) (c y : Int32) (i : Nat) : Bool := (decide (B 59 0 i = 2) || decide (B 59 0 i = 3) || decide (B 59 0 i = 5)) && decide (B 60 0 i = c) && wst B y i
def wlh (B : sm_M) (c y : Int32) (z : Int32) : Nat → Int32
  | 0 => z
  | i + 1 => if whz B c y i = true then wls (wlh B c y z i) (B 62 0 i) else wlh B c y z i
theorem m88 (d nL : Nat) (a b : Int32) (M : sm_M) (Q : sm_Q) : sm_W (d + 1) 88 0 [vi a, vi b] [] (sm_G0 nL) M Q = Q (vi (wls a b)) (sm_G0 nL) M := by
  rw [T88]
  unfold wls
  by_cases h1 : a = -1000000
  · rw [mm_bt h1, mm_bt h1, if_pos h1]
  · rw [mm_bf h1, if_neg h1]
    by_cases h2 : b = -1000000
    · rw [mm_bt h2, mm_bf h1, if_pos h2]
    · rw [mm_bf h2, if_neg h2]
      by_cases h3 : b < a
      · rw [mm_bt h3, if_pos h3]
      · rw [mm_bf h3, if_neg h3]
theorem m87 {A B : sm_M} {t s : Nat} (d nL : Nat) (c y : Int32) (hV : VW A B t s) (Q : sm_Q) : ∀ j i o4, i + j = t → sm_W (d + 2) 87 6 [vo 14, vi c, vi y, vi (wlh B c y (-1000000) i), vi (nI i), o4] [] (sm_G0 nL) A Q = Q (vi (wlh B c y (-1000000) t)) (sm_G0 nL) A := by
  obtain ⟨ht, hs, ta, sa, tb, sb, hT, hS⟩ := hV
  intro j
  induction j with
  | zero =>
    intro i o4 hi
    have hi' : i = t := by omega
    subst hi'
    rw [T87_6, ta, mm_bf (nI_nlt (Nat.le_refl _) (by omega))]
  | succ j ih =>
    intro i o4 hi
    have h3 := fun o => ih (i + 1) o (by omega)
    obtain ⟨k1, k2, k3, k4, k5, k6, -⟩ := hT i (by omega)
    have hw : wlh B c y (-1000000) (i + 1) = if whz B c y i = true then wls (wlh B c y (-1000000) i) (B 62 0 i) else wlh B c y (-1000000) i := rfl
    have tail : sm_W (d + 1) 53 0 [some (Sum.inr (Sum.inr (some (42, i)))), vi y] [] (sm_G0 nL) A (fun r G1 M1 => sm_W (d + 2) 87 54 [vo 14, vi c, vi y, vi (wlh B c y (-1000000) i), vi (nI i), some (Sum.inr (Sum.inr (some (42, i))))] (sm_push r []) G1 M1 Q) = sm_W (d + 2) 87 6 [vo 14, vi c, vi y, vi (if wst B y i = true then wls (wlh B c y (-1000000) i) (B 62 0 i) else wlh B c y (-1000000) i), vi (nI (i + 1)), some (Sum.inr (Sum.inr (some (42, i))))] [] (sm_G0 nL) A Q := by
      rw [m53 (d + 1) nL k5 k6, sm_push_s, T87_54, k4, nI_1]
      cases hs : wst B y i
      · rw [mm_bt (by decide)]; rfl
      · rw [mm_bf (by decide), m88 d, sm_push_s, T87_66, nI_1]; rfl
    rw [T87_6, ta, mm_bt (nI_lt (by omega) (by omega)), m42s ta ht (by omega), sm_push_s, T87_21, k1, k2, nI_1, tail]
    unfold whz at hw
    by_cases hc : B 60 0 i = c
    · by_cases h2 : B 59 0 i = 2
      · rw [hw] at h3; simp only [h2, hc, decide_true, Bool.true_or, Bool.true_and] at h3
        rw [mm_bt h2, mm_bt hc]; exact h3 _
      · by_cases h3' : B 59 0 i = 3
        · rw [hw] at h3; simp only [h3', hc, decide_true, Bool.true_or, Bool.or_true, Bool.true_and] at h3
          rw [mm_bf h2, mm_bt h3', mm_bt hc]; exact h3 _
        · by_cases h5 : B 59 0 i = 5
          · rw [hw] at h3; simp only [h5, hc, decide_true, Bool.or_true, Bool.true_and] at h3
            rw [mm_bf h2, mm_bf h3', mm_bt h5, mm_bt hc]; exact h3 _
          · rw [hw] at h3; simp only [h2, h3', h5, decide_false, Bool.or_false, Bool.false_and, Bool.false_eq_true, ↓reduceIte] at h3
            rw [mm_bf h2, mm_bf h3', mm_bf h5]; exact h3 _
    · rw [hw] at h3; simp only [hc, decide_false, Bool.and_false, Bool.false_and, Bool.false_eq_true, ↓reduceIte] at h3
      rw [mm_bf hc]
      by_cases h2 : B 59 0 i = 2
      · rw [mm_bt h2]; exact h3 _
      · by_cases h3' : B 59 0 i = 3
        · rw [mm_bf h2, mm_bt h3']; exact h3 _
        · by_cases h5 : B 59 0 i = 5
          · rw [mm_bf h2, mm_bf h3', mm_bt h5]; exact h3 _
          · rw [mm_bf h2, mm_bf h3', mm_bf h5]; exact h3 _
def WT (B : sm_M) (o : Option Nat) (c y : Int32) (t s : Nat) : Int32 := match WW B o c y t s with
  | none => -1000000
  | some (_, w, _) => B 62 0 w
def LW (B : sm_M) (o : Option Nat) (c y : Int32) (t s : Nat) : Int32 := wls (WT B o c y t s) (wlh B c y (-1000000) t)
theorem m79 {A B : sm_M} {t s f i : Nat} {o : Option Nat} (nL : Nat) (c y : Int32) (hV : VW A B t s) (hR : RO A B o f i) : ∃ A2, (∀ d Q o4, sm_W (d + 4) 79 0 [vo 14, vi c, vi y, some (Sum.inr (Sum.inr (some (f, i)))), o4] [] (sm_G0 nL) A Q = Q (vi (LW B o c y t s)) (sm_G0 nL) A2) ∧ Fr scA A A2 := by
  obtain ⟨A2, g1, g2, g3⟩ := m80 nL c y hV hR
  have hV2 := VW_sc hV g2
  refine ⟨A2, fun d Q o4 => ?_, g2⟩
  rw [T79, g1, sm_push_s]
  unfold LW WT
  cases hW : WW B o c y t s with
  | none =>
    rw [T79_7, mm_bt (by decide), T87]
    refine (m87 (d + 1) nL c y hV2 _ t 0 none (by omega)).trans ?_
    rw [sm_push_s, T79_33, m88 (d + 2), sm_push_s, T79_36]
  | some v =>
    obtain ⟨bt, w, q⟩ := v
    rw [hW] at g3
    obtain ⟨e7, e8, e9⟩ := g3
    have hp := WW_p hW
    rw [T79_7, mm_bf (show ¬ mb (some (bt, w, q)).isSome = 0 from (by decide : ¬ mb true = 0)), e8, m86 (d + 2) nL hV2 hp.2.1, sm_push_s, T79_18, T87]
    refine (m87 (d + 1) nL c y hV2 _ t 0 none (by omega)).trans ?_
    rw [sm_push_s, T79_33, m88 (d + 2), sm_push_s, T79_36]
