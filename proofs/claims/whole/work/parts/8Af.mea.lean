/-! water: what both sides need; scratch -/
def scA (f k : Nat) : Bool := Nat.beq f 40 || (Nat.beq f 14 && (Nat.beq k 7 || Nat.beq k 8 || Nat.beq k 9))
def scB (f k : Nat) : Bool := Nat.beq f 75 || (Nat.beq f 11 && (Nat.beq k 35 || Nat.beq k 36 || Nat.beq k 37))
def VW (A B : sm_M) (t s : Nat) : Prop := t ≤ 90 ∧ s ≤ 12 ∧ A 14 0 3 = nI t ∧ A 14 0 1 = nI s ∧ B 11 0 13 = nI t ∧ B 11 0 3 = nI s ∧ (∀ i, i < t → K_thg A B s i) ∧ K_srv A B s
theorem VW_of {A B : sm_M} (hS : J_srv A B) (hG : J_thg A B) : ∃ t s, VW A B t s := by
  obtain ⟨s, hs, sa, sb, hKs⟩ := J_srvK hS
  obtain ⟨t, s', ht, hs', ta, tb, es', tn, hK, -⟩ := hG
  have : s' = s := by
    have := (nI_eq (a := s') (b := s) (by omega) (by omega)).mp (es'.symm.trans sb)
    exact this
  subst this
  exact ⟨t, s', ht, hs, ta, sa, tb, sb, hK, hKs⟩
theorem VW_sc {A B A1 : sm_M} {t s : Nat} (h : VW A B t s) (hA : Fr scA A A1) : VW A1 B t s := by
  obtain ⟨h1, h2, h3, h4, h5, h6, h7, h8⟩ := h
  refine ⟨h1, h2, (hA 14 0 3 rfl).trans h3, (hA 14 0 1 rfl).trans h4, h5, h6, fun i hi => ?_, fun i hi => ?_⟩
  · have := h7 i hi
    unfold K_thg at this ⊢
    rw [hA 42 i 1 rfl, hA 42 i 2 rfl, hA 42 i 3 rfl, hA 42 i 4 rfl, hA 42 i 5 rfl, hA 42 i 6 rfl]
    exact this
  · have := h8 i hi
    rw [hA 41 i 0 rfl, hA 41 i 1 rfl, hA 41 i 2 rfl]
    exact this
/-- the rule's object -/
def RO (A B : sm_M) (o : Option Nat) (f i : Nat) : Prop := Nat.beq (sm_fc f) 4 = true ∧ (f = 34 ∨ f = 36) ∧ A f i 2 = wcl B o 0 ∧ A f i 3 = wcl B o 1 ∧ A f i 4 = wcl B o 2 ∧ A f i 6 = wrk B o ∧ A f i 7 = wtl B o
theorem RO_of {A B : sm_M} {n : Nat} (hK : ∀ r, r < n → K_rul A B r) (h0 : A 34 0 0 = -1 ∧ A 34 0 2 = 999 ∧ A 34 0 3 = 0 ∧ A 34 0 4 = 0 ∧ A 34 0 5 = 999 ∧ A 34 0 6 = 210 ∧ A 34 0 7 = 0) (x : Int32) : ∃ f i, wob (wrule B x n) = some (Sum.inr (Sum.inr (some (f, i)))) ∧ RO A B (wrule B x n) f i := by
  obtain ⟨e0, e1, e2, e3, e4, e5, e6⟩ := wA_eq hK h0 x
  generalize wrule B x n = o at e0 e1 e2 e3 e4 e5 e6
  cases o with
  | none => exact ⟨34, 0, rfl, rfl, .inl rfl, e1, e2, e3, e5, e6⟩
  | some k => exact ⟨36, k, rfl, rfl, .inr rfl, e1, e2, e3, e5, e6⟩
theorem RO_sc {A B A1 : sm_M} {o : Option Nat} {f i : Nat} (h : RO A B o f i) (hA : Fr scA A A1) : RO A1 B o f i := by
  obtain ⟨h1, h2, h3⟩ := h
  refine ⟨h1, h2, ?_⟩
  rcases h2 with rfl | rfl
  · rw [hA 34 i 2 rfl, hA 34 i 3 rfl, hA 34 i 4 rfl, hA 34 i 6 rfl, hA 34 i 7 rfl]; exact h3
  · rw [hA 36 i 2 rfl, hA 36 i 3 rfl, hA 36 i 4 rfl, hA 36 i 6 rfl, hA 36 i 7 rfl]; exact h3
/-! each survey's latest depth -/
def wlat (B : sm_M) (c y : Int32) (s : Nat) : Nat → Option Nat
  | 0 => none
  | i + 1 => if wone B 1 c y i = true then (if B 61 0 i = nI s then some i else wlat B c y s i) else wlat B c y s i
theorem wlat_p {B : sm_M} {c y : Int32} {s : Nat} : ∀ {i k : Nat}, wlat B c y s i = some k → k < i ∧ wone B 1 c y k = true ∧ B 61 0 k = nI s := by
  intro i
  induction i with
  | zero => intro k h; cases h
  | succ i ih =>
    intro k h
    unfold wlat at h
    split at h
    · split at h
      · cases h; exact ⟨Nat.lt_succ_self _, by assumption, by assumption⟩
      · obtain ⟨a, b⟩ := ih h; exact ⟨by omega, b⟩
    · obtain ⟨a, b⟩ := ih h; exact ⟨by omega, b⟩
theorem wst_sc {B B1 : sm_M} (hB : Fr scB B B1) (y : Int32) (i : Nat) : wst B1 y i = wst B y i := by
  unfold wst; rw [hB 63 0 i rfl, hB 64 0 i rfl]
theorem m81a {A : sm_M} (nL : Nat) (c y : Int32) : ∀ (j i : Nat) (A1 : sm_M), i + j = 12 → Fr scA A A1 → (∀ k, k < i → A1 40 0 k = -1) → ∃ A2, (∀ d Q o3, sm_W (d + 2) 81 2 [vo 14, vi c, vi y, vi (nI i), o3] [] (sm_G0 nL) A1 Q = sm_W (d + 2) 81 23 [vo 14, vi c, vi y, vi 0, o3] [] (sm_G0 nL) A2 Q) ∧ Fr scA A A2 ∧ ∀ k, k < 12 → A2 40 0 k = -1 := by
  intro j
  induction j with
  | zero =>
    intro i A1 hi hA hk
    have hi' : i = 12 := by omega
    subst hi'
    exact ⟨A1, fun d Q o3 => by rw [T81_2, mm_bf (by decide)], hA, hk⟩
  | succ j ih =>
    intro i A1 hi hA hk
    have i1 : nI i < (12 : Int32) := nI_lt (show i < 12 by omega) (by decide)
    obtain ⟨A2, g1, g2, g3⟩ := ih (i + 1) (sm_u A1 40 0 i (-1)) (by omega) (Fr_u hA rfl) (fun k hk' => by
      by_cases h : k = i
      · subst h; exact mm_up
      · exact (mm_un (fun hh => h hh.2)).trans (hk k (by omega)))
    exact ⟨A2, fun d Q o3 => by rw [T81_2, mm_bt i1, mm_ck (mm_in (by omega) (by decide)), nI_clamp (by omega), nI_1, g1], g2, g3⟩
theorem m81b {A B : sm_M} {t s : Nat} (nL : Nat) (c y : Int32) (hV : VW A B t s) : ∀ (j i : Nat) (A1 : sm_M), i + j = t → Fr scA A A1 → (∀ k, k < 12 → A1 40 0 k = wnr (wlat B c y k i)) → ∃ A2, (∀ d Q o3, sm_W (d + 2) 81 23 [vo 14, vi c, vi y, vi (nI i), o3] [] (sm_G0 nL) A1 Q = Q none (sm_G0 nL) A2) ∧ Fr scA A A2 ∧ ∀ k, k < 12 → A2 40 0 k = wnr (wlat B c y k t) := by
  intro j
  induction j with
  | zero =>
    intro i A1 hi hA hk
    have hi' : i = t := by omega
    subst hi'
    obtain ⟨ht, hs, ta, -⟩ := VW_sc hV hA
    exact ⟨A1, fun d Q o3 => by rw [T81_23, ta, mm_bf (nI_nlt (Nat.le_refl _) (by omega))], hA, hk⟩
  | succ j ih =>
    intro i A1 hi hA hk
    obtain ⟨ht, hs, ta, sa, tb, sb, hT, hS⟩ := VW_sc hV hA
    have hTi := hT i (by omega)
    obtain ⟨k1, k2, k3, k4, k5, k6, k7, k8, ⟨v, hv, ev⟩, -⟩ := hT i (by omega)
    obtain ⟨p0, p1, p2, p3, p4, -⟩ := mm_six hv hs
    have hd : ∀ d Q o3, sm_W (d + 2) 81 23 [vo 14, vi c, vi y, vi (nI i), o3] [] (sm_G0 nL) A1 Q = sm_Br (decide (mb (wone B 1 c y i) = 0)) (sm_W (d + 2) 81 23 [vo 14, vi c, vi y, vi (nI (i + 1)), some (Sum.inr (Sum.inr (some (42, i))))] [] (sm_G0 nL) A1 Q) (sm_W (d + 2) 81 23 [vo 14, vi c, vi y, vi (nI (i + 1)), some (Sum.inr (Sum.inr (some (42, i))))] [] (sm_G0 nL) (sm_u A1 40 0 v (nI i)) Q) := fun d Q o3 => by
      rw [T81_23, ta, mm_bt (nI_lt (by omega) (by omega)), m42s ta ht (by omega), sm_push_s, T81_36, m52 d nL hTi, sm_push_s, T81_46a, k3, ev, mm_bf p0, sa, mm_bt p1, mm_bt p2, mm_ck p3, mm_ck p3, p4, nI_1]
    cases h1 : wone B 1 c y i with
    | false =>
      obtain ⟨A2, g1, g2, g3⟩ := ih (i + 1) A1 (by omega) hA (fun k hk' => by
        rw [hk k hk']; simp [wlat, h1])
      exact ⟨A2, fun d Q o3 => by rw [hd, h1, mm_bt (by decide), g1], g2, g3⟩
    | true =>
      obtain ⟨A2, g1, g2, g3⟩ := ih (i + 1) (sm_u A1 40 0 v (nI i)) (by omega) (Fr_u hA rfl) (fun k hk' => by
        by_cases h : k = v
        · subst h; rw [mm_up]; simp [wlat, h1, ev, wnr]
        · have hne : ¬ nI v = nI k := fun e => h ((nI_eq (by omega) (by omega)).mp e).symm
          rw [mm_un (fun hh => h hh.2), hk k hk']; simp [wlat, h1, ev, hne])
      exact ⟨A2, fun d Q o3 => by rw [hd, h1, mm_bf (by decide), g1], g2, g3⟩
theorem m81 {A B : sm_M} {t s : Nat} (nL : Nat) (c y : Int32) (hV : VW A B t s) : ∃ A2, (∀ d Q o2 o3, sm_W (d + 2) 81 0 [vo 14, vi c, vi y, o2, o3] [] (sm_G0 nL) A Q = Q none (sm_G0 nL) A2) ∧ Fr scA A A2 ∧ ∀ k, k < 12 → A2 40 0 k = wnr (wlat B c y k t) := by
  obtain ⟨A1, g1, g2, g3⟩ := m81a (A := A) nL c y 12 0 A (by omega) (Fr_r _ _) (fun k hk => absurd hk (Nat.not_lt_zero _))
  obtain ⟨A2, h1, h2, h3⟩ := m81b nL c y hV t 0 A1 (by omega) g2 g3
  exact ⟨A2, fun d Q o2 o3 => by rw [T81]; exact (g1 d Q o3).trans (h1 d Q o3), h2, h3⟩
theorem r216a {B : sm_M} (nL : Nat) {s : Nat} (hs : s ≤ 12) (sb : B 11 0 3 = nI s) (c y : Int32) : ∀ (j i : Nat) (B1 : sm_M), i + j = s → Fr scB B B1 → (∀ k, k < i → B1 75 0 k = -1) → ∃ B2, (∀ d Q o3 o4 o5 o6, sm_W (d + 3) 216 2 [vo 11, vi c, vi y, vi (nI i), o3, o4, o5, o6] [] (sm_G0 nL) B1 Q = sm_W (d + 3) 216 25 [vo 11, vi c, vi y, vi 0, o3, o4, o5, o6] [] (sm_G0 nL) B2 Q) ∧ Fr scB B B2 ∧ ∀ k, k < s → B2 75 0 k = -1 := by
  intro j
  induction j with
  | zero =>
    intro i B1 hi hB hk
    have hi' : i = s := by omega
    subst hi'
    have sb1 : B1 11 0 3 = nI i := (hB 11 0 3 rfl).trans sb
    exact ⟨B1, fun d Q o3 o4 o5 o6 => by rw [T216_2, sb1, mm_bf (nI_nlt (Nat.le_refl _) (by omega))], hB, hk⟩
  | succ j ih =>
    intro i B1 hi hB hk
    have sb1 : B1 11 0 3 = nI s := (hB 11 0 3 rfl).trans sb
    obtain ⟨B2, g1, g2, g3⟩ := ih (i + 1) (sm_u B1 75 0 i (-1)) (by omega) (Fr_u hB rfl) (fun k hk' => by
      by_cases h : k = i
      · subst h; exact mm_up
      · exact (mm_un (fun hh => h hh.2)).trans (hk k (by omega)))
    exact ⟨B2, fun d Q o3 o4 o5 o6 => by rw [T216_2, sb1, mm_bt (nI_lt (by omega) (by omega)), mm_ck (mm_in (by omega) (by decide)), nI_clamp (by omega), nI_1, g1], g2, g3⟩
theorem r216b {A B : sm_M} {t s : Nat} (nL : Nat) (c y : Int32) (hV : VW A B t s) : ∀ (j i : Nat) (B1 : sm_M), i + j = t → Fr scB B B1 → (∀ k, k < s → B1 75 0 k = wnr (wlat B c y k i)) → ∃ B2, (∀ d Q o3 o4 o5 o6, sm_W (d + 3) 216 25 [vo 11, vi c, vi y, vi (nI i), o3, o4, o5, o6] [] (sm_G0 nL) B1 Q = sm_W (d + 3) 216 88 [vo 11, vi c, vi y, vi (-1), vi (-1), vi 0, o5, o6] [] (sm_G0 nL) B2 Q) ∧ Fr scB B B2 ∧ ∀ k, k < s → B2 75 0 k = wnr (wlat B c y k t) := by
  obtain ⟨ht, hs, ta, sa, tb, sb, hT, hS⟩ := hV
  intro j
  induction j with
  | zero =>
    intro i B1 hi hB hk
    have hi' : i = t := by omega
    subst hi'
    have tb1 : B1 11 0 13 = nI i := (hB 11 0 13 rfl).trans tb
    exact ⟨B1, fun d Q o3 o4 o5 o6 => by rw [T216_25, tb1, mm_bf (nI_nlt (Nat.le_refl _) (by omega))], hB, hk⟩
  | succ j ih =>
    intro i B1 hi hB hk
    obtain ⟨k1, k2, k3, k4, k5, k6, k7, k8, ⟨v, hv, ev⟩, -⟩ := hT i (by omega)
    obtain ⟨p0, p1, p2, p3, p4, -⟩ := mm_six hv hs
    have tb1 : B1 11 0 13 = nI t := (hB 11 0 13 rfl).trans tb
    have e59 : B1 59 0 i = B 59 0 i := hB 59 0 i rfl
    have e60 : B1 60 0 i = B 60 0 i := hB 60 0 i rfl
    have e61 : B1 61 0 i = nI v := (hB 61 0 i rfl).trans ev
    have ei : sm_in (nI i) 90 = true := mm_in (by omega) (by decide)
    have ec : (nI i).toNatClampNeg = i := nI_clamp (by omega)
    have hd : ∀ d Q o3 o4 o5 o6, sm_W (d + 3) 216 25 [vo 11, vi c, vi y, vi (nI i), o3, o4, o5, o6] [] (sm_G0 nL) B1 Q = sm_Br (wone B 1 c y i) (sm_W (d + 3) 216 25 [vo 11, vi c, vi y, vi (nI (i + 1)), o3, o4, o5, o6] [] (sm_G0 nL) (sm_u B1 75 0 v (nI i)) Q) (sm_W (d + 3) 216 25 [vo 11, vi c, vi y, vi (nI (i + 1)), o3, o4, o5, o6] [] (sm_G0 nL) B1 Q) := fun d Q o3 o4 o5 o6 => by
      rw [T216_25, tb1, mm_bt (nI_lt (by omega) (by omega)), mm_ck ei, ec, e59, nI_1]
      unfold wone
      by_cases h1 : B 59 0 i = 1
      · rw [mm_bt h1, mm_ck ei, e60, decide_eq_true h1]
        by_cases h2 : B 60 0 i = c
        · rw [mm_bt h2, decide_eq_true h2, r193 (d + 2) nL (show i < 90 by omega), sm_push_s, T216_59, wst_sc hB, nI_1]
          cases h3 : wst B y i
          · rw [mm_bt (by decide)]; rfl
          · rw [mm_bf (by decide), mm_ck ei, ec, e61, mm_ck p3, p4]; rfl
        · rw [mm_bf h2, decide_eq_false h2]; rfl
      · rw [mm_bf h1, decide_eq_false h1]; rfl
    cases h1 : wone B 1 c y i with
    | false =>
      obtain ⟨B2, g1, g2, g3⟩ := ih (i + 1) B1 (by omega) hB (fun k hk' => by
        rw [hk k hk']; simp [wlat, h1])
      exact ⟨B2, fun d Q o3 o4 o5 o6 => by rw [hd, h1, sm_Br_f, g1], g2, g3⟩
    | true =>
      obtain ⟨B2, g1, g2, g3⟩ := ih (i + 1) (sm_u B1 75 0 v (nI i)) (by omega) (Fr_u hB rfl) (fun k hk' => by
        by_cases h : k = v
        · subst h; rw [mm_up]; simp [wlat, h1, ev, wnr]
        · have hne : ¬ nI v = nI k := fun e => h ((nI_eq (by omega) (by omega)).mp e).symm
          rw [mm_un (fun hh => h hh.2), hk k hk']; simp [wlat, h1, ev, hne])
      exact ⟨B2, fun d Q o3 o4 o5 o6 => by rw [hd, h1, sm_Br_t, g1], g2, g3⟩
