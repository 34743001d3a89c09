/-! looking at a sheet: the reference -/
theorem K_sh0_s2 {B B1 : sm_M} {k c r q z : Nat} (h : K_sh0 B k c r q z) (hB : Fr sB2 B B1) : B1 76 0 k = nI c ∧ B1 77 0 k = nI r ∧ B1 78 0 k = nI q ∧ B1 79 0 k = nI z := by
  obtain ⟨h0, h1, h2, h3, -⟩ := h
  exact ⟨(hB 76 0 k rfl).trans h0, (hB 77 0 k rfl).trans h1, (hB 78 0 k rfl).trans h2, (hB 79 0 k rfl).trans h3⟩
theorem K_sh0_Z {B : sm_M} {k c r q z : Nat} (h : K_sh0 B k c r q z) : SZ c r q z := by
  obtain ⟨h0, h1, h2, h3, h4⟩ := h
  exact h4
theorem r222 {A B : sm_M} {t s n k c r q z : Nat} (nL : Nat) (y : Int32) (hV : VW A B t s) (hn : n ≤ 10) (eb : B 11 0 27 = nI n) (hk : k < 16) (hK : K_sh0 B k c r q z) : ∀ j i B1, i + j = r * q → Fr sB2 B B1 → (∀ u, u < i → B1 80 0 u = LW B (wrule B y n) (nI (wce c q u)) y t s) → ∃ B2, (∀ d Q, sm_W (d + 5) 222 2 [vo 11, vi (nI k), vi y, vi (nI i)] [] (sm_G0 nL) B1 Q = Q none (sm_G0 nL) B2) ∧ Fr sB2 B B2 ∧ (∀ u, u < r * q → B2 80 0 u = LW B (wrule B y n) (nI (wce c q u)) y t s) := by
  have hZ := K_sh0_Z hK
  obtain ⟨hm, h12, hq1, hq0⟩ := SZ_f hZ
  obtain ⟨z1, z2, z3, z4, z5, z6, z7, z8, z9⟩ := id hZ
  have ki : sm_in (nI k) 16 = true := mm_in hk (by decide)
  have kc : (nI k).toNatClampNeg = k := nI_clamp (by omega)
  intro j
  induction j with
  | zero =>
    intro i B1 hi hB h80
    have hi' : i = r * q := by omega
    subst hi'
    obtain ⟨s0, s1, s2, s3⟩ := K_sh0_s2 hK hB
    exact ⟨B1, fun d Q => by rw [T222_2, mm_ck ki, mm_ck ki, kc, s1, s2, hm, mm_bf (nI_nlt (Nat.le_refl _) (by omega))], hB, h80⟩
  | succ j ih =>
    intro i B1 hi hB h80
    obtain ⟨s0, s1, s2, s3⟩ := K_sh0_s2 hK hB
    obtain ⟨B2, g1, g2⟩ := r215 (A := A) (B := B1) nL (nI (wce c q i)) y (VW_s2 hV (Fr_r _ _) hB) hn ((hB 11 0 27 rfl).trans eb) (Fr_r scB B1)
    rw [wrule_s2 hB, LW_s2 hB] at g1
    have i12 : sm_in (nI i) 12 = true := mm_in (by omega) (by decide)
    have ic : (nI i).toNatClampNeg = i := nI_clamp (by omega)
    obtain ⟨B3, q1, q2⟩ := ih (i + 1) (sm_u B2 80 0 i (LW B (wrule B y n) (nI (wce c q i)) y t s)) (by omega) (Fr_u (Fr_t hB (sB2_w g2)) rfl) (fun u hu => by
      by_cases h : u = i
      · subst h; exact mm_up
      · exact (mm_un (fun hh => h hh.2)).trans ((g2 80 0 u rfl).trans (h80 u (by omega))))
    refine ⟨B3, fun d Q => ?_, q2⟩
    rw [T222_2]
    simp only [ki, kc, s0, s1, s2, hm, hq0, decide_false, Bool.not_false, sm_Ck_t]
    rw [mm_bt (nI_lt (by omega) (by omega)), wce_e z3 z4 (by omega), g1, sm_push_s, T222_27, mm_ck i12, ic, nI_1, q1]
/-- one cell's showers, as the reference has it -/
def wrg (G : Nat → Int32) (c q z : Nat) (N : Int32) (x i k : Nat) : Bool := x.testBit k && !decide (G k = -1000000) && wD c q z i k && !decide (N < G k - G i)
def wexr (g : Nat → Bool) : Nat → Nat → Bool
  | 0, _ => false
  | j + 1, k => g k || wexr g j (k + 1)
theorem wexr_t {g : Nat → Bool} : ∀ {j k : Nat}, wexr g j k = true ↔ ∃ u, k ≤ u ∧ u < k + j ∧ g u = true
  | 0, k => ⟨fun h => absurd h (by simp [wexr]), fun ⟨u, h1, h2, _⟩ => absurd h2 (by omega)⟩
  | j + 1, k => by
    have ih := wexr_t (g := g) (j := j) (k := k + 1)
    unfold wexr
    rw [Bool.or_eq_true, ih]
    constructor
    · rintro (h | ⟨u, h1, h2, h3⟩)
      · exact ⟨k, Nat.le_refl _, by omega, h⟩
      · exact ⟨u, by omega, by omega, h3⟩
    · rintro ⟨u, h1, h2, h3⟩
      by_cases h : u = k
      · subst h; exact .inl h3
      · exact .inr ⟨u, by omega, by omega, h3⟩
theorem mm_near {a b : Int32} {n : Nat} (ha : ¬ a < -99 ∧ ¬ 999 < a) (hb : ¬ b < -99 ∧ ¬ 999 < b) (hn : n ≤ 999) : (a + nI n < b) = (nI n < b - a) := by
  have h1 : (-99 : Int32).toInt = -99 := by decide
  have h2 : (999 : Int32).toInt = 999 := by decide
  simp only [Int32.lt_iff_toInt_lt] at ha hb
  rw [h1, h2] at ha hb
  apply propext
  rw [Int32.lt_iff_toInt_lt, Int32.lt_iff_toInt_lt, Int32.toInt_sub, Int32.toInt_add, nI_toInt (by omega), Int.bmod_eq_of_le (by omega) (by omega), Int.bmod_eq_of_le (by omega) (by omega)]
  omega
theorem wam_r {G : Nat → Int32} {c q z m n x i : Nat} (hG : ∀ u, u < m → inF (G u)) (hn : n ≤ 999) (hi : i < m) (hni : ¬ G i = -1000000) : wam G c q z m (nI n) x i = !(x.testBit i || wexr (wrg G c q z (nI n) x i) m 0) := by
  unfold wam
  rw [if_neg hni]
  congr 1
  rw [Bool.eq_iff_iff, Bool.or_eq_true, wex_t, wexr_t]
  have hGi := (hG i hi).resolve_left hni
  have key : ∀ u, u < m → ¬ G u = -1000000 → (G i + nI n < G u) = (nI n < G u - G i) := fun u hu hnu => mm_near hGi ((hG u hu).resolve_left hnu) hn
  constructor
  · rintro ⟨u, hu, h⟩
    unfold wsw at h
    simp only [Bool.and_eq_true, Bool.or_eq_true, decide_eq_true_eq, Bool.not_eq_true', decide_eq_false_iff_not] at h
    obtain ⟨⟨h1, h2⟩, h3⟩ := h
    rcases h1 with rfl | ⟨h1, h4⟩
    · exact .inl h3
    · refine .inr ⟨u, Nat.zero_le _, by omega, ?_⟩
      unfold wrg
      rw [key u hu h2] at h4
      simp [h3, h2, h1, h4]
  · rintro (h | ⟨u, -, hu, h⟩)
    · exact ⟨i, hi, by simp [wsw, h, hni]⟩
    · refine ⟨u, by omega, ?_⟩
      unfold wrg at h
      simp only [Bool.and_eq_true, Bool.not_eq_true', decide_eq_false_iff_not] at h
      obtain ⟨⟨⟨h1, h2⟩, h3⟩, h4⟩ := h
      rw [← key u (by omega) h2] at h4
      simp [wsw, h1, h2, h3, h4]
theorem r226b {B : sm_M} {k c r q z x i : Nat} (nL : Nat) (N : Int32) (hk : k < 16) (s0 : B 76 0 k = nI c) (s1 : B 77 0 k = nI r) (s2 : B 78 0 k = nI q) (s3 : B 79 0 k = nI z) (hZ : SZ c r q z) (G : Nat → Int32) (h80 : ∀ u, u < r * q → B 80 0 u = G u) (hi : i < r * q) (hx : x < 2 ^ 31) (d : Nat) (Q : sm_Q) : ∀ j u, u + j = r * q → ∃ o4 o5, sm_W (d + 2) 226 53 [vo 11, vi (nI k), vi (nI x), vi N, vi (nI i), vi 0, vi (nI u)] [] (sm_G0 nL) B Q = if wexr (wrg G c q z N x i) j u = true then sm_W (d + 2) 226 3 [vo 11, vi (nI k), vi (nI x), vi N, vi (nI (i + 1)), o4, o5] [] (sm_G0 nL) B Q else Q (vi (nI i)) (sm_G0 nL) B := by
  obtain ⟨hm, h12, hq1, hq0⟩ := SZ_f hZ
  obtain ⟨z1, z2, z3, z4, z5, z6, z7, z8, z9⟩ := id hZ
  have ki : sm_in (nI k) 16 = true := mm_in hk (by decide)
  have kc : (nI k).toNatClampNeg = k := nI_clamp (by omega)
  have ii : sm_in (nI i) 12 = true := mm_in (by omega) (by decide)
  have ic : (nI i).toNatClampNeg = i := nI_clamp (by omega)
  intro j
  induction j with
  | zero =>
    intro u hu
    have hu' : u = r * q := by omega
    subst hu'
    refine ⟨none, none, ?_⟩
    rw [T226_53]
    simp only [ki, kc, s1, s2, hm, sm_Ck_t]
    rw [mm_bf (nI_nlt (Nat.le_refl _) (by omega)), mm_bt trivial]; rfl
  | succ j ih =>
    intro u hu
    obtain ⟨o4, o5, h3⟩ := ih (u + 1) (by omega)
    have ui : sm_in (nI u) 12 = true := mm_in (by omega) (by decide)
    have uc : (nI u).toNatClampNeg = u := nI_clamp (by omega)
    have hxb : ((nI x >>> (nI u &&& 31)) &&& 1 = 1) = (x.testBit u = true) := wbt_tb hx (by omega)
    have hw : wexr (wrg G c q z N x i) (j + 1) u = (wrg G c q z N x i u || wexr (wrg G c q z N x i) j (u + 1)) := rfl
    have hg : wrg G c q z N x i u = (x.testBit u && !decide (G u = -1000000) && wD c q z i u && !decide (N < G u - G i)) := rfl
    have hD : wD c q z i u = !decide (z < wdist (wce c q i) (wce c q u)) := rfl
    have l1 := wce_lt z3 z8 z9 hi
    have l2 := wce_lt z3 z8 z9 (show u < r * q by omega)
    have hd1 := wdist_lt (show wce c q i < 2 ^ 20 by omega) (show wce c q u < 2 ^ 20 by omega)
    have hzd : (nI z < nI (wdist (wce c q i) (wce c q u))) = (z < wdist (wce c q i) (wce c q u)) := propext (nI_ltI (by omega) (by omega))
    have sk : sm_W (d + 2) 226 53 [vo 11, vi (nI k), vi (nI x), vi N, vi (nI i), vi 0, vi (nI u)] [] (sm_G0 nL) B Q = if (x.testBit u && !decide (G u = -1000000) && wD c q z i u && !decide (N < G u - G i)) = true then sm_W (d + 2) 226 53 [vo 11, vi (nI k), vi (nI x), vi N, vi (nI i), vi 1, vi (nI (u + 1))] [] (sm_G0 nL) B Q else sm_W (d + 2) 226 53 [vo 11, vi (nI k), vi (nI x), vi N, vi (nI i), vi 0, vi (nI (u + 1))] [] (sm_G0 nL) B Q := by
      rw [T226_53]
      simp only [ki, kc, ui, uc, s0, s1, s2, hm, hq0, h80 u (by omega), decide_false, Bool.not_false, hxb, sm_Ck_t, nI_1]
      rw [mm_bt (nI_lt (by omega) (by omega)), mm_bt trivial, wce_e z3 z4 (by omega), wce_e z3 z4 (by omega), r189 d (by omega) (by omega), sm_push_s, T226_107]
      simp only [ki, kc, ui, uc, ii, ic, s3, h80 u (by omega), h80 i hi, sm_Ck_t, hzd, nI_1, hD, sm_Br_d]
      by_cases h1 : x.testBit u = true
      · rw [if_pos h1, h1]
        by_cases h2 : G u = -1000000
        · rw [if_pos h2, decide_eq_true h2]; rfl
        · rw [if_neg h2, decide_eq_false h2]
          by_cases h4 : z < wdist (wce c q i) (wce c q u)
          · rw [if_pos h4, decide_eq_true h4]; rfl
          · rw [if_neg h4, decide_eq_false h4]
            by_cases h5 : N < G u - G i
            · rw [if_pos h5, decide_eq_true h5]; rfl
            · rw [if_neg h5, decide_eq_false h5]; rfl
      · rw [if_neg h1, Bool.not_eq_true] at *
        rw [h1]; rfl
    rw [hw, hg]
    cases hb : (x.testBit u && !decide (G u = -1000000) && wD c q z i u && !decide (N < G u - G i)) with
    | false => rw [hb] at sk; exact ⟨o4, o5, sk.trans h3⟩
    | true =>
      rw [hb] at sk
      refine ⟨vi 1, vi (nI (u + 1)), sk.trans ?_⟩
      show sm_W (d + 2) 226 53 [vo 11, vi (nI k), vi (nI x), vi N, vi (nI i), vi 1, vi (nI (u + 1))] [] (sm_G0 nL) B Q = sm_W (d + 2) 226 3 [vo 11, vi (nI k), vi (nI x), vi N, vi (nI (i + 1)), vi 1, vi (nI (u + 1))] [] (sm_G0 nL) B Q
      have h10 : ¬ (1 : Int32) = 0 := by decide
      rw [T226_53]
      simp only [ki, kc, s1, s2, hm, sm_Ck_t]
      simp only [mm_bf h10, nI_1]
      by_cases hl : nI (u + 1) < nI (r * q)
      · rw [mm_bt hl]
      · rw [mm_bf hl]
theorem r226 {B : sm_M} {k c r q z x n : Nat} (nL : Nat) (hk : k < 16) (s0 : B 76 0 k = nI c) (s1 : B 77 0 k = nI r) (s2 : B 78 0 k = nI q) (s3 : B 79 0 k = nI z) (hZ : SZ c r q z) (G : Nat → Int32) (hG : ∀ u, u < r * q → inF (G u)) (h80 : ∀ u, u < r * q → B 80 0 u = G u) (hn : n ≤ 999) (hx : x < 2 ^ 31) (d : Nat) (Q : sm_Q) : ∀ j i o4 o5, i + j = r * q → sm_W (d + 2) 226 3 [vo 11, vi (nI k), vi (nI x), vi (nI n), vi (nI i), o4, o5] [] (sm_G0 nL) B Q = Q (vi (wfa (wam G c q z (r * q) (nI n) x) j i)) (sm_G0 nL) B := by
  obtain ⟨hm, h12, hq1, hq0⟩ := SZ_f hZ
  obtain ⟨z1, z2, z3, z4, z5, z6, z7, z8, z9⟩ := id hZ
  have ki : sm_in (nI k) 16 = true := mm_in hk (by decide)
  have kc : (nI k).toNatClampNeg = k := nI_clamp (by omega)
  intro j
  induction j with
  | zero =>
    intro i o4 o5 hi
    have hi' : i = r * q := by omega
    subst hi'
    rw [T226_3]
    simp only [ki, kc, s1, s2, hm, sm_Ck_t]
    rw [mm_bf (nI_nlt (Nat.le_refl _) (by omega))]; rfl
  | succ j ih =>
    intro i o4 o5 hi
    have h3 := fun o4 o5 => ih (i + 1) o4 o5 (by omega)
    have ii : sm_in (nI i) 12 = true := mm_in (by omega) (by decide)
    have ic : (nI i).toNatClampNeg = i := nI_clamp (by omega)
    have hxb : ((nI x >>> (nI i &&& 31)) &&& 1 = 1) = (x.testBit i = true) := wbt_tb hx (by omega)
    have hw : wfa (wam G c q z (r * q) (nI n) x) (j + 1) i = if wam G c q z (r * q) (nI n) x i = true then nI i else wfa (wam G c q z (r * q) (nI n) x) j (i + 1) := rfl
    rw [T226_3, hw]
    simp only [ki, kc, ii, ic, s1, s2, hm, h80 i (by omega), hxb, sm_Ck_t, nI_1]
    rw [mm_bt (nI_lt (by omega) (by omega))]
    by_cases hni : G i = -1000000
    · have hwa : wam G c q z (r * q) (nI n) x i = x.testBit i := by unfold wam; rw [if_pos hni]
      rw [hwa]
      by_cases hb : x.testBit i = true
      · rw [mm_bt hb, mm_bt hni, if_pos hb]
      · rw [mm_bf hb, mm_bt hni, if_neg hb]; exact h3 _ _
    · rw [wam_r hG hn (by omega) hni]
      by_cases hb : x.testBit i = true
      · rw [mm_bt hb, mm_bf hni, hb]
        have h10 : ¬ (1 : Int32) = 0 := by decide
        rw [T226_53]
        simp only [ki, kc, s1, s2, hm, sm_Ck_t]
        simp only [mm_bf h10, nI_1, Bool.true_or, Bool.not_true, Bool.false_eq_true, ↓reduceIte]
        by_cases hl : nI 0 < nI (r * q)
        · rw [mm_bt (show (0 : Int32) < nI (r * q) from hl)]; exact h3 _ _
        · rw [mm_bf (show ¬ (0 : Int32) < nI (r * q) from hl)]; exact h3 _ _
      · obtain ⟨o4', o5', h4⟩ := r226b nL (nI n) hk s0 s1 s2 s3 hZ G h80 (show i < r * q by omega) hx d Q (r * q) 0 (by omega)
        rw [mm_bf hb, mm_bf hni]
        refine Eq.trans h4 ?_
        rw [Bool.not_eq_true] at hb
        rw [hb]
        cases hwx : wexr (wrg G c q z (nI n) x i) (r * q) 0 with
        | false => rfl
        | true => exact h3 _ _
theorem r221 {A B B0 : sm_M} {t s n k c r q z nn : Nat} (nL : Nat) (y : Int32) (hV : VW A B t s) (hn : n ≤ 10) (eb : B 11 0 27 = nI n) (hk : k < 16) (hK : K_sh0 B k c r q z) (hnn : nn ≤ 999) (eN : wcl B (wrule B y n) 1 = nI nn) (hB0 : Fr sB2 B B0) : ∃ B2, (∀ d Q o2 o3 o4, sm_W (d + 6) 221 0 [vo 11, vi (nI k), vi y, o2, o3, o4] [] (sm_G0 nL) B0 Q = Q (vi (nI (wfw (fun u => LW B (wrule B y n) (nI (wce c q u)) y t s) c q z (r * q) (nI nn)))) (sm_G0 nL) B2) ∧ Fr sB2 B B2 ∧ (∀ u, u < r * q → B2 80 0 u = LW B (wrule B y n) (nI (wce c q u)) y t s) := by
  have hZ := K_sh0_Z hK
  obtain ⟨hm, h12, hq1, hq0⟩ := SZ_f hZ
  obtain ⟨z1, z2, z3, z4, z5, z6, z7, z8, z9⟩ := id hZ
  obtain ⟨B2, g1, g2, g3⟩ := r222 nL y hV hn eb hk hK (r * q) 0 B0 (by omega) hB0 (fun u hu => absurd hu (Nat.not_lt_zero _))
  obtain ⟨s0, s1, s2, s3⟩ := K_sh0_s2 hK g2
  have ki : sm_in (nI k) 16 = true := mm_in hk (by decide)
  have kc : (nI k).toNatClampNeg = k := nI_clamp (by omega)
  have hp12 : 2 ^ (r * q) ≤ 4096 := Nat.pow_le_pow_right (n := 2) (by decide) z5
  have hG : ∀ u, u < r * q → inF (LW B (wrule B y n) (nI (wce c q u)) y t s) := fun u _ => LW_rng hV _ _ _
  generalize hGG : (fun u => LW B (wrule B y n) (nI (wce c q u)) y t s) = G at *
  have hGe : ∀ u, LW B (wrule B y n) (nI (wce c q u)) y t s = G u := fun u => by rw [← hGG]
  simp only [hGe] at hG g3 ⊢
  refine ⟨B2, fun d Q o2 o3 o4 => ?_, g2, g3⟩
  have hlk : ∀ x, x < 4096 → ∀ Q', sm_W (d + 5) 226 0 [vo 11, vi (nI k), vi (nI x), vi (nI nn), none, none, none] [] (sm_G0 nL) B2 Q' = Q' (vi (wfa (wam G c q z (r * q) (nI nn) x) (r * q) 0)) (sm_G0 nL) B2 := fun x hx Q' => by
    rw [T226]
    exact r226 nL hk s0 s1 s2 s3 hZ G hG g3 hnn (by omega) (d + 3) Q' (r * q) 0 none none (by omega)
  have lp : ∀ j x, x + j = 2 ^ (r * q) → sm_W (d + 6) 221 19 [vo 11, vi (nI k), vi y, vi (nI nn), vi (wnr (wsc (wvl G c q z (r * q) (nI nn)) x)), vi (nI x)] [] (sm_G0 nL) B2 Q = Q (vi (nI (wfw G c q z (r * q) (nI nn)))) (sm_G0 nL) B2 := by
    intro j
    induction j with
    | zero =>
      intro x hx
      have hx' : x = 2 ^ (r * q) := by omega
      subst hx'
      rw [T221_19]
      simp only [ki, kc, s1, s2, hm, sm_Ck_t]
      rw [mm_bit (by omega), mm_bf (nI_nlt (Nat.le_refl _) (by omega)), wsc_v z5]; rfl
    | succ j ih =>
      intro x hx
      have h3 := ih (x + 1) (by omega)
      have hw : wsc (wvl G c q z (r * q) (nI nn)) (x + 1) = if wvl G c q z (r * q) (nI nn) x = true then (match wsc (wvl G c q z (r * q) (nI nn)) x with
        | none => some x
        | some g => if wpb x 12 < wpb g 12 then some x else some g) else wsc (wvl G c q z (r * q) (nI nn)) x := rfl
      have tail : ∀ v, sm_W (d + 5) 226 0 [vo 11, vi (nI k), vi (nI x), vi (nI nn), none, none, none] [] (sm_G0 nL) B2 (fun r G1 M1 => sm_W (d + 6) 221 57 [vo 11, vi (nI k), vi y, vi (nI nn), vi v, vi (nI x)] (sm_push r []) G1 M1 Q) = if wvl G c q z (r * q) (nI nn) x = true then sm_W (d + 6) 221 19 [vo 11, vi (nI k), vi y, vi (nI nn), vi (nI x), vi (nI (x + 1))] [] (sm_G0 nL) B2 Q else sm_W (d + 6) 221 19 [vo 11, vi (nI k), vi y, vi (nI nn), vi v, vi (nI (x + 1))] [] (sm_G0 nL) B2 Q := fun v => by
        rw [hlk x (by omega), sm_push_s, T221_57, nI_1]
        unfold wvl
        by_cases hc : wfa (wam G c q z (r * q) (nI nn) x) (r * q) 0 < 0
        · rw [mm_bt hc, if_pos (decide_eq_true hc)]
        · rw [mm_bf hc, if_neg (by simp [hc])]
      rw [T221_19]
      simp only [ki, kc, s1, s2, hm, sm_Ck_t]
      rw [mm_bit (by omega), mm_bt (nI_lt (by omega) (by omega))]
      cases hs : wsc (wvl G c q z (r * q) (nI nn)) x with
      | none =>
        rw [hs] at hw
        simp only at hw
        rw [mm_bt (show wnr none < 0 from mm_m1), tail]
        cases hv : wvl G c q z (r * q) (nI nn) x with
        | true => rw [hv] at hw; simp only [↓reduceIte] at hw; rw [hw] at h3; exact h3
        | false => rw [hv] at hw; simp only [Bool.false_eq_true, ↓reduceIte] at hw; rw [hw] at h3; exact h3
      | some g =>
        have hg : g < x := wsc_lt hs
        rw [hs] at hw
        simp only at hw
        have hbx := wpb_le x 12
        have hbg := wpb_le g 12
        have hlt : (nI (wpb x 12) < nI (wpb g 12)) = (wpb x 12 < wpb g 12) := propext (nI_ltI (by omega) (by omega))
        rw [mm_bf (show ¬ wnr (some g) < 0 from nI_pos (by omega)), T225]
        refine (r225 (d + 5) nL (vi (nI x)) B2 _ (x + 1) x 0 (by omega) (by omega)).trans ?_
        rw [sm_push_s, T221_41, T225]
        refine (r225 (d + 5) nL (vi (nI g)) B2 _ (g + 1) g 0 (by omega) (by omega)).trans ?_
        rw [sm_push_s, T221_46, Nat.zero_add, Nat.zero_add, nI_1]
        by_cases hc : wpb x 12 < wpb g 12
        · rw [if_pos hc] at hw
          rw [mm_bt (hlt.mpr hc), tail]
          cases hv : wvl G c q z (r * q) (nI nn) x with
          | true => rw [hv] at hw; simp only [↓reduceIte] at hw; rw [hw] at h3; exact h3
          | false => rw [hv] at hw; simp only [Bool.false_eq_true, ↓reduceIte] at hw; rw [hw] at h3; exact h3
        · rw [if_neg hc] at hw
          rw [mm_bf (fun h => hc (hlt.mp h))]
          cases hv : wvl G c q z (r * q) (nI nn) x with
          | true => rw [hv] at hw; simp only [↓reduceIte] at hw; rw [hw] at h3; exact h3
          | false => rw [hv] at hw; simp only [Bool.false_eq_true, ↓reduceIte] at hw; rw [hw] at h3; exact h3
  rw [T221, T222]
  refine (g1 d _).trans ?_
  rw [sm_push_n, T221_6]
  have e191 := r191 (d + 4) nL y (j := 1) (by decide) none hn ((g2 11 0 27 rfl).trans eb)
  have ewc : wcl B2 (wrule B2 y n) 1 = nI nn := by
    rw [wrule_s2 g2, ← eN]
    cases wrule B y n with
    | none => rfl
    | some k' => exact g2 71 0 _ rfl
  refine (e191 _).trans ?_
  rw [ewc, sm_push_s, T221_12]
  exact lp (2 ^ (r * q)) 0 (by omega)
