/-! what quarrels with the best -/
theorem mm_feet {x y : Int32} (hx : ¬ x < -99 ∧ ¬ 999 < x) (hy : ¬ y < -99 ∧ ¬ 999 < y) : (x - y < 0) = (x < y) := by
  have h1 : (-99 : Int32).toInt = -99 := by decide
  have h2 : (999 : Int32).toInt = 999 := by decide
  have h3 : (0 : Int32).toInt = 0 := by decide
  simp only [Int32.lt_iff_toInt_lt] at hx hy
  rw [h1, h2] at hx hy
  apply propext
  rw [Int32.lt_iff_toInt_lt, Int32.lt_iff_toInt_lt, Int32.toInt_sub, h3, Int.bmod_eq_of_le (by omega) (by omega)]
  omega
def wqc (B : sm_M) (bt b s k : Nat) : Bool := decide (B 52 0 s + B 52 0 b < if B 62 0 k < B 62 0 bt then B 62 0 bt - B 62 0 k else B 62 0 k - B 62 0 bt)
def wtk (B : sm_M) (bt w k : Nat) : Nat := if B 62 0 k < B 62 0 w then k else if B 62 0 k = B 62 0 w then (if w = bt then w else if k < w then k else w) else w
def wqs (B : sm_M) (L : Nat → Option Nat) (bt b : Nat) : Nat → Nat × Nat
  | 0 => (bt, 0)
  | s + 1 => match L s with
    | none => wqs B L bt b s
    | some k => if wqc B bt b s k = true then (wtk B bt (wqs B L bt b s).1 k, (wqs B L bt b s).2 + 1) else wqs B L bt b s
theorem wtk_or {B : sm_M} {bt w k : Nat} : wtk B bt w k = w ∨ wtk B bt w k = k := by
  unfold wtk
  split
  · exact .inr rfl
  · split
    · split
      · exact .inl rfl
      · split
        · exact .inr rfl
        · exact .inl rfl
    · exact .inl rfl
theorem wqs_p {B : sm_M} {L : Nat → Option Nat} {bt b t : Nat} (hbt : bt < t) (hL : ∀ k j, L k = some j → j < t) : ∀ s, (wqs B L bt b s).1 < t ∧ (wqs B L bt b s).2 ≤ s
  | 0 => ⟨hbt, Nat.le_refl _⟩
  | s + 1 => by
    have h := wqs_p (B := B) (b := b) hbt hL s
    unfold wqs
    cases hl : L s with
    | none => exact ⟨h.1, by simp only; omega⟩
    | some k =>
      simp only
      split
      · refine ⟨?_, by simp only; omega⟩
        rcases wtk_or (B := B) (bt := bt) (w := (wqs B L bt b s).1) (k := k) with e | e
        · simp only [e]; exact h.1
        · simp only [e]; exact hL s k hl
      · exact ⟨h.1, by omega⟩
theorem m86 {A B : sm_M} {t s k : Nat} (d nL : Nat) (hV : VW A B t s) (hk : k < t) (o1 : Option sm_V) (Q : sm_Q) : sm_W (d + 1) 86 0 [vo 14, vi (nI k), o1] [] (sm_G0 nL) A Q = Q (vi (B 62 0 k)) (sm_G0 nL) A := by
  obtain ⟨ht, hs, ta, sa, tb, sb, hT, hS⟩ := hV
  rw [T86, m42s ta ht hk, sm_push_s, T86_5, (hT k hk).2.2.2.1]
theorem m84 {A B : sm_M} {t s k bt b sk : Nat} (d nL : Nat) (hV : VW A B t s) (hk : k < t) (hbt : bt < t) (hb : b < s) (hsk : sk < s) (ek : B 61 0 k = nI sk) (eb : B 61 0 bt = nI b) (o2 o3 : Option sm_V) (Q : sm_Q) : sm_W (d + 2) 84 0 [vo 14, vi (nI k), vi (nI bt), o2, o3] [] (sm_G0 nL) A Q = Q (vi (mb (wqc B bt b sk k))) (sm_G0 nL) A := by
  obtain ⟨ht, hs, ta, sa, tb, sb, hT, hS⟩ := hV
  obtain ⟨k1, k2, k3, k4, k5, k6, k7, k8, k9, k10, -⟩ := hT k hk
  obtain ⟨l1, l2, l3, l4, l5, l6, l7, l8, l9, l10, -⟩ := hT bt hbt
  rw [T84, m42s ta ht hk, sm_push_s, T84_5, m42s ta ht hbt, sm_push_s, T84_11b, k4, l4, k3, ek]
  have fin : ∀ v : Int32, sm_Br (decide (B 52 0 sk + B 52 0 b < v)) (Q (some (Sum.inl 1)) (sm_G0 nL) A) (Q (some (Sum.inl 0)) (sm_G0 nL) A) = Q (vi (mb (decide (B 52 0 sk + B 52 0 b < v)))) (sm_G0 nL) A := fun v => by
    by_cases h : B 52 0 sk + B 52 0 b < v
    · rw [mm_bt h, decide_eq_true h]; rfl
    · rw [mm_bf h, decide_eq_false h]; rfl
  unfold wqc
  by_cases hx : B 62 0 k < B 62 0 bt
  · have hx' : B 62 0 k - B 62 0 bt < 0 := by rw [mm_feet k10 l10]; exact hx
    rw [mm_bt hx', if_pos hx, m54 d nL hs hsk sa (hS sk hsk).1.2.2, sm_push_s, T84_45, l3, eb, m54 d nL hs hb sa (hS b hb).1.2.2, sm_push_s, T84_54, Int32.neg_sub, fin]
  · have hx' : ¬ B 62 0 k - B 62 0 bt < 0 := by rw [mm_feet k10 l10]; exact hx
    rw [mm_bf hx', if_neg hx, m54 d nL hs hsk sa (hS sk hsk).1.2.2, sm_push_s, T84_45, l3, eb, m54 d nL hs hb sa (hS b hb).1.2.2, sm_push_s, T84_54, fin]
theorem m85 {A B : sm_M} {t s k bt w : Nat} (d nL : Nat) (hV : VW A B t s) (hk : k < t) (hw : w < t) (hbt : bt < t) (e7 : A 14 0 7 = nI bt) (e8 : A 14 0 8 = nI w) (o1 o2 : Option sm_V) (Q : sm_Q) : sm_W (d + 2) 85 0 [vo 14, vi (nI k), o1, o2] [] (sm_G0 nL) A Q = Q none (sm_G0 nL) (sm_u A 14 0 8 (nI (wtk B bt w k))) := by
  have ht := hV.1
  have hz : sm_u A 14 0 8 (nI w) = A := by rw [← e8]; exact mm_us
  have hwb : (nI w = nI bt) = (w = bt) := propext (nI_eq (by omega) (by omega))
  have hkw : (nI k < nI w) = (k < w) := propext (nI_ltI (by omega) (by omega))
  rw [T85, m86 d nL hV hk, sm_push_s, T85_5, e8, m86 d nL hV hw, sm_push_s, T85_14, e8, e7]
  unfold wtk
  by_cases h1 : B 62 0 k < B 62 0 w
  · rw [mm_bt h1, if_pos h1]
  · rw [mm_bf h1, if_neg h1]
    by_cases h2 : B 62 0 k = B 62 0 w
    · rw [mm_bt h2, if_pos h2]
      by_cases h3 : w = bt
      · rw [mm_bt (hwb.mpr h3), if_pos h3, hz]
      · rw [mm_bf (fun h => h3 (hwb.mp h)), if_neg h3]
        by_cases h4 : k < w
        · rw [mm_bt (hkw.mpr h4), if_pos h4]
        · rw [mm_bf (fun h => h4 (hkw.mp h)), if_neg h4, hz]
    · rw [mm_bf h2, if_neg h2, hz]
theorem m80q {A B : sm_M} {t s b bt : Nat} {L : Nat → Option Nat} (nL : Nat) (hV : VW A B t s) (hLp : ∀ k j, L k = some j → j < t ∧ B 61 0 j = nI k) (hb : b < s) (hbt : L b = some bt) : ∀ j i A1, i + j = s → Fr scA A A1 → (∀ k, k < s → A1 40 0 k = wnr (L k)) → A1 14 0 7 = nI bt → A1 14 0 8 = nI (wqs B L bt b i).1 → A1 14 0 9 = nI (wqs B L bt b i).2 → ∃ A2, (∀ d Q o0 o1 o2 o3 o5, sm_W (d + 3) 80 39 [vo 14, o0, o1, o2, o3, vi (nI i), o5] [] (sm_G0 nL) A1 Q = Q (vi 1) (sm_G0 nL) A2) ∧ Fr scA A A2 ∧ A2 14 0 7 = nI bt ∧ A2 14 0 8 = nI (wqs B L bt b s).1 ∧ A2 14 0 9 = nI (wqs B L bt b s).2 := by
  have hLt : ∀ k j, L k = some j → j < t := fun k j h => (hLp k j h).1
  obtain ⟨hbt1, hbt2⟩ := hLp b bt hbt
  intro j
  induction j with
  | zero =>
    intro i A1 hi hA hL e7 e8 e9
    have hi' : i = s := by omega
    subst hi'
    obtain ⟨ht, hs, ta, sa, tb, sb, hT, hS⟩ := VW_sc hV hA
    exact ⟨A1, fun d Q o0 o1 o2 o3 o5 => by rw [T80_39, sa, mm_bf (nI_nlt (Nat.le_refl _) (by omega)), e7, mm_bf (nI_pos (by omega))], hA, e7, e8, e9⟩
  | succ j ih =>
    intro i A1 hi hA hL e7 e8 e9
    have hV1 := VW_sc hV hA
    obtain ⟨ht, hs, ta, sa, tb, sb, hT, hS⟩ := id hV1
    obtain ⟨p0, p1, p2, p3, p4, -⟩ := mm_six (show i < s by omega) hs
    have hqp := wqs_p (B := B) (b := b) hbt1 hLt i
    have hw : wqs B L bt b (i + 1) = match L i with
      | none => wqs B L bt b i
      | some k => if wqc B bt b i k = true then (wtk B bt (wqs B L bt b i).1 k, (wqs B L bt b i).2 + 1) else wqs B L bt b i := rfl
    have hd : ∀ d Q o0 o1 o2 o3 o5, sm_W (d + 3) 80 39 [vo 14, o0, o1, o2, o3, vi (nI i), o5] [] (sm_G0 nL) A1 Q = sm_Br (decide (wnr (L i) < 0)) (sm_W (d + 3) 80 39 [vo 14, o0, o1, o2, o3, vi (nI (i + 1)), vi (wnr (L i))] [] (sm_G0 nL) A1 Q) (sm_W (d + 2) 84 0 [vo 14, vi (wnr (L i)), vi (nI bt), none, none] [] (sm_G0 nL) A1 (fun r G1 M1 => sm_W (d + 3) 80 71 [vo 14, o0, o1, o2, o3, vi (nI i), vi (wnr (L i))] (sm_push r []) G1 M1 Q)) := fun d Q o0 o1 o2 o3 o5 => by
      rw [T80_39, sa, mm_bt p1, mm_bf p0, mm_bt p2, mm_ck p3, p4, hL i (by omega), e7, nI_1]
    cases hl : L i with
    | none =>
      rw [hl] at hw hd
      simp only at hw
      obtain ⟨A2, g⟩ := ih (i + 1) A1 (by omega) hA hL e7 (by rw [hw]; exact e8) (by rw [hw]; exact e9)
      exact ⟨A2, fun d Q o0 o1 o2 o3 o5 => by rw [hd, mm_bt (show wnr none < 0 from mm_m1)]; exact g.1 d Q _ _ _ _ _, g.2⟩
    | some k =>
      rw [hl] at hw hd
      simp only at hw
      obtain ⟨hk1, hk2⟩ := hLp i k hl
      have k0 : ¬ wnr (some k) < 0 := nI_pos (show k < 2 ^ 31 by omega)
      by_cases hq : wqc B bt b i k = true
      · obtain ⟨A2, g⟩ := ih (i + 1) (sm_u (sm_u A1 14 0 9 (nI ((wqs B L bt b i).2 + 1))) 14 0 8 (nI (wtk B bt (wqs B L bt b i).1 k))) (by omega) (Fr_u (Fr_u hA rfl) rfl) hL e7 (by rw [hw, if_pos hq]; exact mm_up) (by rw [hw, if_pos hq]; exact (mm_un (by omega)).trans mm_up)
        refine ⟨A2, fun d Q o0 o1 o2 o3 o5 => ?_, g.2⟩
        rw [hd, mm_bf k0]
        refine (m84 d nL hV1 hk1 hbt1 hb (show i < s by omega) hk2 hbt2 none none _).trans ?_
        rw [sm_push_s, T80_71, hq, mm_bf (by decide), e9, nI_1]
        refine (m85 d nL (VW_sc hV (Fr_u (v := nI ((wqs B L bt b i).2 + 1)) (i := 0) hA (show scA 14 9 = true from rfl))) hk1 hqp.1 hbt1 e7 e8 none none _).trans ?_
        rw [sm_push_n, T80_90, nI_1]; exact g.1 d Q _ _ _ _ _
      · obtain ⟨A2, g⟩ := ih (i + 1) A1 (by omega) hA hL e7 (by rw [hw, if_neg hq]; exact e8) (by rw [hw, if_neg hq]; exact e9)
        refine ⟨A2, fun d Q o0 o1 o2 o3 o5 => ?_, g.2⟩
        rw [hd, mm_bf k0]
        refine (m84 d nL hV1 hk1 hbt1 hb (show i < s by omega) hk2 hbt2 none none _).trans ?_
        have hq' : wqc B bt b i k = false := by simpa using hq
        rw [sm_push_s, T80_71, hq', mm_bt (by decide), nI_1]; exact g.1 d Q _ _ _ _ _
theorem m80n {A B : sm_M} {t s : Nat} {L : Nat → Option Nat} (nL : Nat) (hV : VW A B t s) (hN : ∀ k, k < s → L k = none) (hL : ∀ k, k < s → A 40 0 k = wnr (L k)) (e7 : A 14 0 7 = -1) : ∀ j i, i + j = s → ∀ d Q o0 o1 o2 o3 o5, sm_W (d + 3) 80 39 [vo 14, o0, o1, o2, o3, vi (nI i), o5] [] (sm_G0 nL) A Q = Q (vi 0) (sm_G0 nL) A := by
  obtain ⟨ht, hs, ta, sa, tb, sb, hT, hS⟩ := hV
  intro j
  induction j with
  | zero =>
    intro i hi d Q o0 o1 o2 o3 o5
    have hi' : i = s := by omega
    subst hi'
    rw [T80_39, sa, mm_bf (nI_nlt (Nat.le_refl _) (by omega)), e7, mm_bt mm_m1]
  | succ j ih =>
    intro i hi d Q o0 o1 o2 o3 o5
    obtain ⟨p0, p1, p2, p3, p4, -⟩ := mm_six (show i < s by omega) hs
    rw [T80_39, sa, mm_bt p1, mm_bf p0, mm_bt p2, mm_ck p3, p4, hL i (by omega), hN i (by omega), mm_bt (show wnr none < 0 from mm_m1), nI_1]
    exact ih (i + 1) (by omega) _ _ _ _ _ _ _
