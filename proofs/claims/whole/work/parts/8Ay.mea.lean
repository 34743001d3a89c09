/-! ways: near dangers -/
theorem wls_n {a b : Int32} (hb : ¬ b = -1000000) : ¬ wls a b = -1000000 := by
  unfold wls
  by_cases ha : a = -1000000
  · rw [if_pos ha]; exact hb
  · rw [if_neg ha, if_neg hb]
    by_cases h : b < a
    · rw [if_pos h]; exact hb
    · rw [if_neg h]; exact ha
theorem wlh_n {A B : sm_M} {t s : Nat} (hV : VW A B t s) (c y : Int32) : ∀ i, i ≤ t → ((wlh B c y (-1000000) i = -1000000) ↔ wex (whz B c y) i = false)
  | 0, _ => ⟨fun _ => rfl, fun _ => rfl⟩
  | i + 1, h => by
    have ih := wlh_n hV c y i (by omega)
    have hfe : ¬ B 62 0 i = -1000000 := fun h' => (hV.2.2.2.2.2.2.1 i (by omega)).2.2.2.2.2.2.2.2.2.1.1 (by rw [h']; decide)
    show ((if whz B c y i = true then wls (wlh B c y (-1000000) i) (B 62 0 i) else wlh B c y (-1000000) i) = -1000000) ↔ (wex (whz B c y) i || whz B c y i) = false
    cases hw : whz B c y i with
    | false => simp only [Bool.false_eq_true, ↓reduceIte, Bool.or_false]; exact ih
    | true => simp only [↓reduceIte, Bool.or_true, Bool.true_eq_false, iff_false]; exact wls_n hfe
theorem wexr_wex {f : Nat → Bool} {n : Nat} : wexr f n 0 = wex f n := by
  rw [Bool.eq_iff_iff, wexr_t, wex_t]
  constructor
  · rintro ⟨u, h1, h2, h3⟩; exact ⟨u, by omega, h3⟩
  · rintro ⟨u, h1, h2⟩; exact ⟨u, Nat.zero_le _, by omega, h2⟩
def wby (B : sm_M) (x k : Nat) : Bool := !decide (1 < wdist (cl (B 92 0 k)) x)
def VY (A B : sm_M) (W : Nat) : Prop := W ≤ 20 ∧ A 10 0 12 = nI W ∧ B 11 0 59 = nI W ∧ ∀ i, i < W → A 18 0 i = B 92 0 i ∧ ∃ c, c < 48 ∧ B 92 0 i = nI c
theorem m134 {A B : sm_M} {W x : Nat} (nL : Nat) (hW : VY A B W) (hx : x < 48) (d : Nat) (Q : sm_Q) : ∀ j k, k + j = W → sm_W (d + 2) 134 2 [vo 10, vi (nI x), vi (nI k)] [] (sm_G0 nL) A Q = Q (vi (mb (wexr (wby B x) j k))) (sm_G0 nL) A := by
  obtain ⟨hW20, wa, wb, hW⟩ := hW
  intro j
  induction j with
  | zero =>
    intro k hk
    have hk' : k = W := by omega
    subst hk'
    rw [T134_2, wa, mm_bf (nI_nlt (Nat.le_refl _) (by omega))]; rfl
  | succ j ih =>
    intro k hk
    have h3 := ih (k + 1) (by omega)
    obtain ⟨a18, c, hc, ec⟩ := hW k (by omega)
    have k20 : nI k < (20 : Int32) := nI_lt (show k < 20 by omega) (by decide)
    have ki : sm_in (nI k) 20 = true := mm_in (by omega) (by decide)
    have kc : (nI k).toNatClampNeg = k := nI_clamp (by omega)
    have hd := wdist_lt (show c < 2 ^ 20 by omega) (show x < 2 ^ 20 by omega)
    have h1d : ((1 : Int32) < nI (wdist c x)) = (1 < wdist c x) := propext (nI_ltI (a := 1) (by omega) (by omega))
    have hb : wby B x k = !decide (1 < wdist c x) := by unfold wby cl; rw [ec, nI_clamp (by omega)]
    have hw : wexr (wby B x) (j + 1) k = (wby B x k || wexr (wby B x) j (k + 1)) := rfl
    rw [T134_2, wa, mm_bt (nI_lt (by omega) (by omega)), mm_bt k20, mm_ck ki, kc, a18, ec, m49 d (by omega) (by omega), sm_push_s, T134_26, nI_1, hw, hb]
    by_cases g : 1 < wdist c x
    · rw [mm_bt (h1d.mpr g), decide_eq_true g]; exact h3
    · rw [mm_bf (fun h => g (h1d.mp h)), decide_eq_false g]; rfl
theorem r250a {A B : sm_M} {W x : Nat} (nL : Nat) (hW : VY A B W) (hx : x < 48) (d : Nat) (Q : sm_Q) : ∀ j k, k + j = W → sm_W (d + 2) 250 4 [vo 11, vi (nI x), vi 1, vi (nI k)] [] (sm_G0 nL) B Q = sm_W (d + 2) 250 50 [vo 11, vi (nI x), vi 1, vi 0] [] (sm_G0 nL) B Q := by
  obtain ⟨hW20, wa, wb, hW⟩ := hW
  have h10 : ¬ (1 : Int32) = 0 := by decide
  intro j
  induction j with
  | zero =>
    intro k hk
    have hk' : k = W := by omega
    subst hk'
    rw [T250_4, wb, mm_bf (nI_nlt (Nat.le_refl _) (by omega)), mm_bf h10]
  | succ j ih =>
    intro k hk
    rw [T250_4, wb, mm_bt (nI_lt (by omega) (by omega)), mm_bf h10, nI_1]; exact ih (k + 1) (by omega)
theorem r250b {A B : sm_M} {W x : Nat} (nL : Nat) (hW : VY A B W) (hx : x < 48) (d : Nat) (Q : sm_Q) : ∀ j k, k + j = W → sm_W (d + 2) 250 4 [vo 11, vi (nI x), vi 0, vi (nI k)] [] (sm_G0 nL) B Q = if wexr (wby B x) j k = true then sm_W (d + 2) 250 50 [vo 11, vi (nI x), vi 1, vi 0] [] (sm_G0 nL) B Q else Q (vi 0) (sm_G0 nL) B := by
  have hW0 := hW
  obtain ⟨hW20, wa, wb, hW⟩ := hW
  have h00 : (0 : Int32) = 0 := rfl
  intro j
  induction j with
  | zero =>
    intro k hk
    have hk' : k = W := by omega
    subst hk'
    rw [T250_4, wb, mm_bf (nI_nlt (Nat.le_refl _) (by omega)), mm_bt h00]; rfl
  | succ j ih =>
    intro k hk
    have h3 := ih (k + 1) (by omega)
    obtain ⟨a18, c, hc, ec⟩ := hW k (by omega)
    have ki : sm_in (nI k) 20 = true := mm_in (by omega) (by decide)
    have kc : (nI k).toNatClampNeg = k := nI_clamp (by omega)
    have hd := wdist_lt (show c < 2 ^ 20 by omega) (show x < 2 ^ 20 by omega)
    have h1d : ((1 : Int32) < nI (wdist c x)) = (1 < wdist c x) := propext (nI_ltI (a := 1) (by omega) (by omega))
    have hb : wby B x k = !decide (1 < wdist c x) := by unfold wby cl; rw [ec, nI_clamp (by omega)]
    have hw : wexr (wby B x) (j + 1) k = (wby B x k || wexr (wby B x) j (k + 1)) := rfl
    rw [T250_4, wb, mm_bt (nI_lt (by omega) (by omega)), mm_bt h00, mm_ck ki, kc, ec, r189 d (by omega) (by omega), sm_push_s, T250_26, nI_1, hw, hb]
    by_cases g : 1 < wdist c x
    · rw [mm_bt (h1d.mpr g), decide_eq_true g]; exact h3
    · rw [mm_bf (fun h => g (h1d.mp h)), decide_eq_false g]
      exact r250a nL hW0 hx d Q j (k + 1) (by omega)
theorem r250c {A B : sm_M} {t s x : Nat} (nL : Nat) (hV : VW A B t s) (y : Int32) (ey : B 11 0 1 = y) (d : Nat) (Q : sm_Q) (o1 : Option sm_V) : ∀ j i, i + j = t → sm_W (d + 2) 250 50 [vo 11, vi (nI x), o1, vi (nI i)] [] (sm_G0 nL) B Q = Q (vi (mb (wexr (whz B (nI x) y) j i))) (sm_G0 nL) B := by
  obtain ⟨ht, hs, ta, sa, tb, sb, hT, hSv⟩ := hV
  intro j
  induction j with
  | zero =>
    intro i hi
    have hi' : i = t := by omega
    subst hi'
    rw [T250_50, tb, mm_bf (nI_nlt (Nat.le_refl _) (by omega))]; rfl
  | succ j ih =>
    intro i hi
    have h3 := ih (i + 1) (by omega)
    have ei : sm_in (nI i) 90 = true := mm_in (by omega) (by decide)
    have ec : (nI i).toNatClampNeg = i := nI_clamp (by omega)
    have hw : wexr (whz B (nI x) y) (j + 1) i = (whz B (nI x) y i || wexr (whz B (nI x) y) j (i + 1)) := rfl
    have hh : whz B (nI x) y i = ((decide (B 59 0 i = 2) || decide (B 59 0 i = 3) || decide (B 59 0 i = 5)) && decide (B 60 0 i = nI x) && wst B y i) := rfl
    have tail : sm_W (d + 1) 193 0 [vo 11, vi (nI i), vi y] [] (sm_G0 nL) B (fun r G1 M1 => sm_W (d + 2) 250 89 [vo 11, vi (nI x), o1, vi (nI i)] (sm_push r []) G1 M1 Q) = Q (vi (mb (wst B y i || wexr (whz B (nI x) y) j (i + 1)))) (sm_G0 nL) B := by
      rw [r193 (d + 1) nL (show i < 90 by omega), sm_push_s, T250_89, nI_1]
      cases wst B y i
      · rw [mm_bt (by decide)]; exact h3
      · rw [mm_bf (by decide)]; rfl
    rw [T250_50, tb, mm_bt (nI_lt (by omega) (by omega)), mm_ck ei, ec, nI_1, ey, hw, hh]
    simp only [mm_ck ei, tail]
    by_cases hc : B 60 0 i = nI x
    · by_cases h2 : B 59 0 i = 2
      · rw [mm_bt h2, mm_bt hc]; simp only [eq_true h2, eq_true hc, decide_true, Bool.true_or, Bool.true_and]
      · by_cases h3' : B 59 0 i = 3
        · rw [mm_bf h2, mm_bt h3', mm_bt hc]; simp only [eq_true h3', eq_true hc, decide_true, Bool.true_or, Bool.or_true, Bool.true_and]
        · by_cases h5 : B 59 0 i = 5
          · rw [mm_bf h2, mm_bf h3', mm_bt h5, mm_bt hc]; simp only [eq_true h5, eq_true hc, decide_true, Bool.or_true, Bool.true_and]
          · rw [mm_bf h2, mm_bf h3', mm_bf h5]; simp only [h2, h3', h5, decide_false, Bool.or_false, Bool.false_and, Bool.false_or]; exact h3
    · simp only [hc, decide_false, Bool.and_false, Bool.false_and, Bool.false_or]
      by_cases h2 : B 59 0 i = 2
      · rw [mm_bt h2]; exact h3
      · by_cases h3' : B 59 0 i = 3
        · rw [mm_bf h2, mm_bt h3']; exact h3
        · by_cases h5 : B 59 0 i = 5
          · rw [mm_bf h2, mm_bf h3', mm_bt h5]; exact h3
          · rw [mm_bf h2, mm_bf h3', mm_bf h5]; exact h3
def wnr1 (B : sm_M) (W t : Nat) (y : Int32) (x : Nat) : Bool := wexr (wby B x) W 0 && wexr (whz B (nI x) y) t 0
def wnn (B : sm_M) (W t : Nat) (y : Int32) : Nat → Nat
  | 0 => 0
  | x + 1 => if wnr1 B W t y x = true then wnn B W t y x + 1 else wnn B W t y x
theorem r250 {A B : sm_M} {t s W x : Nat} (nL : Nat) (hV : VW A B t s) (hW : VY A B W) (hx : x < 48) (y : Int32) (ey : B 11 0 1 = y) (d : Nat) (Q : sm_Q) (o1 o2 : Option sm_V) : sm_W (d + 2) 250 0 [vo 11, vi (nI x), o1, o2] [] (sm_G0 nL) B Q = Q (vi (mb (wnr1 B W t y x))) (sm_G0 nL) B := by
  rw [T250]
  refine (r250b nL hW hx d Q W 0 (by omega)).trans ?_
  unfold wnr1
  cases wexr (wby B x) W 0 with
  | false => rfl
  | true => exact r250c nL hV y ey d Q _ t 0 (by omega)
theorem m133 {A B : sm_M} {t s W : Nat} (nL : Nat) (hV : VW A B t s) (hW : VY A B W) (y : Int32) (ey : A 10 0 0 = y) (d : Nat) (Q : sm_Q) : ∀ j x, x + j = 48 → sm_W (d + 4) 133 4 [vo 10, vi (nI (wnn B W t y x)), vi (nI x)] [] (sm_G0 nL) A Q = Q (vi (nI (wnn B W t y 48))) (sm_G0 nL) A := by
  intro j
  induction j with
  | zero =>
    intro x hx
    have hx' : x = 48 := by omega
    subst hx'
    rw [T133_4, mm_bf (by decide)]
  | succ j ih =>
    intro x hx
    have h3 := ih (x + 1) (by omega)
    have x48 : nI x < (48 : Int32) := nI_lt (show x < 48 by omega) (by decide)
    have hw : wnn B W t y (x + 1) = if wnr1 B W t y x = true then wnn B W t y x + 1 else wnn B W t y x := rfl
    unfold wnr1 at hw
    rw [T133_4, mm_bt x48, T134]
    refine (m134 (B := B) nL hW (show x < 48 by omega) (d + 1) _ W 0 (by omega)).trans ?_
    rw [sm_push_s, T133_15, ey]
    simp only [nI_1]
    cases hb : wexr (wby B x) W 0 with
    | false =>
      rw [hb] at hw
      simp only [Bool.false_and, Bool.false_eq_true, ↓reduceIte] at hw
      rw [hw] at h3
      rw [mm_bt (by decide)]; exact h3
    | true =>
      rw [hb] at hw
      simp only [Bool.true_and] at hw
      rw [mm_bf (by decide), T87]
      refine (m87 (d + 1) nL (nI x) y hV _ t 0 none (by omega)).trans ?_
      rw [sm_push_s, T133_30]
      simp only [nI_1]
      have hn := wlh_n hV (nI x) y t (Nat.le_refl _)
      rw [← wexr_wex] at hn
      cases hh : wexr (whz B (nI x) y) t 0 with
      | false =>
        rw [hh] at hw
        simp only [Bool.false_eq_true, ↓reduceIte] at hw
        rw [hw] at h3
        rw [mm_bt (hn.mpr hh)]; exact h3
      | true =>
        rw [hh] at hw
        simp only [↓reduceIte] at hw
        rw [hw] at h3
        rw [mm_bf (fun h => by rw [hn.mp h] at hh; exact absurd hh (by decide))]; exact h3
theorem r249n {A B : sm_M} {t s W : Nat} (nL : Nat) (hV : VW A B t s) (hW : VY A B W) (y : Int32) (ey : B 11 0 1 = y) (d : Nat) (Q : sm_Q) (o0 o1 o2 o9 : Option sm_V) (x3 x4 x5 x6 : Int32) : ∀ j x, x + j = 48 → sm_W (d + 4) 249 173 [vo 11, o0, o1, o2, vi x3, vi x4, vi x5, vi x6, vi (nI (wnn B W t y x)), vi (nI x), o9] [] (sm_G0 nL) B Q = Q (vi (if x3 = 0 then x4 else if x3 = 1 then x5 else if x3 = 2 then nI (wnn B W t y 48) else x6)) (sm_G0 nL) B := by
  intro j
  induction j with
  | zero =>
    intro x hx
    have hx' : x = 48 := by omega
    subst hx'
    rw [T249_173, mm_bf (by decide)]; simp only [mm_q Q]
  | succ j ih =>
    intro x hx
    have h3 := ih (x + 1) (by omega)
    have x48 : nI x < (48 : Int32) := nI_lt (show x < 48 by omega) (by decide)
    have hw : wnn B W t y (x + 1) = if wnr1 B W t y x = true then wnn B W t y x + 1 else wnn B W t y x := rfl
    rw [T249_173, mm_bt x48, r250 nL hV hW (show x < 48 by omega) y ey (d + 1), sm_push_s, T249_188]
    simp only [nI_1, Int32.add_zero]
    cases hb : wnr1 B W t y x with
    | false => rw [hb] at hw; simp only [Bool.false_eq_true, ↓reduceIte] at hw; rw [hw] at h3; rw [mm_bt (by decide)]; exact h3
    | true => rw [hb] at hw; simp only [↓reduceIte] at hw; rw [hw] at h3; rw [mm_bf (by decide)]; exact h3
/-! go -/
theorem go_loop {A B : sm_M} {c e k c0 r q z t s u qn E S K W h : Nat} (nL : Nat) (hC : VC A B c e k c0 r q z t s u qn E S K) (hW : VY A B W) (hJ : J_sea A B) (hh : h ≤ 99000) (x1 x3 y : Int32) (ya : A 10 0 0 = y) (yb : B 11 0 1 = y) : ∀ j kk x4 x5 x6, kk + j = W → ∃ l p b : Int32, (∀ d Q o8 o9, sm_W (d + 4) 135 12 [vo 10, some (Sum.inr (Sum.inr (some (25, c)))), vi x1, vi (nI h), vi x3, vi x4, vi x5, vi x6, vi (nI kk), o8, o9] [] (sm_G0 nL) A Q = Q (vi (if x3 = 0 then l else if x3 = 1 then p else b)) (sm_G0 nL) A) ∧ (∀ d Q o8 o9, ∃ o9', sm_W (d + 4) 249 61 [vo 11, vi (nI c), vi x1, vi (nI h), vi x3, vi x4, vi x5, vi x6, vi (nI kk), o8, o9] [] (sm_G0 nL) B Q = sm_W (d + 4) 249 173 [vo 11, vi (nI c), vi x1, vi (nI h), vi x3, vi l, vi p, vi b, vi 0, vi 0, o9'] [] (sm_G0 nL) B Q) := by
  obtain ⟨hW20, wa, wb, hWc⟩ := hW
  intro j
  induction j with
  | zero =>
    intro kk x4 x5 x6 hk
    have hk' : kk = W := by omega
    subst hk'
    refine ⟨x4, x5, x6, fun d Q o8 o9 => ?_, fun d Q o8 o9 => ⟨o9, ?_⟩⟩
    · rw [T135_12, wa, mm_bf (nI_nlt (Nat.le_refl _) (by omega))]; simp only [mm_q Q]
    · rw [T249_61, wb, mm_bf (nI_nlt (Nat.le_refl _) (by omega))]
  | succ j ih =>
    intro kk x4 x5 x6 hk
    obtain ⟨a18, x, hx, ex⟩ := hWc kk (by omega)
    have k20 : nI kk < (20 : Int32) := nI_lt (show kk < 20 by omega) (by decide)
    have ki : sm_in (nI kk) 20 = true := mm_in (by omega) (by decide)
    have kc : (nI kk).toNatClampNeg = kk := nI_clamp (by omega)
    obtain ⟨sp, hA, hB⟩ : ∃ sp : Int32, (∀ d Q o8 o9, ∃ o8', sm_W (d + 4) 135 12 [vo 10, some (Sum.inr (Sum.inr (some (25, c)))), vi x1, vi (nI h), vi x3, vi x4, vi x5, vi x6, vi (nI kk), o8, o9] [] (sm_G0 nL) A Q = sm_Br (decide (x5 < 0)) (sm_Br (decide (sp < 0)) (sm_W (d + 4) 135 12 [vo 10, some (Sum.inr (Sum.inr (some (25, c)))), vi x1, vi (nI h), vi x3, vi sp, vi (nI kk), vi (x6 + 1), vi (nI (kk + 1)), o8', vi sp] [] (sm_G0 nL) A Q) (sm_W (d + 4) 135 12 [vo 10, some (Sum.inr (Sum.inr (some (25, c)))), vi x1, vi (nI h), vi x3, vi sp, vi (nI kk), vi x6, vi (nI (kk + 1)), o8', vi sp] [] (sm_G0 nL) A Q)) (sm_Br (decide (sp < x4)) (sm_Br (decide (sp < 0)) (sm_W (d + 4) 135 12 [vo 10, some (Sum.inr (Sum.inr (some (25, c)))), vi x1, vi (nI h), vi x3, vi sp, vi (nI kk), vi (x6 + 1), vi (nI (kk + 1)), o8', vi sp] [] (sm_G0 nL) A Q) (sm_W (d + 4) 135 12 [vo 10, some (Sum.inr (Sum.inr (some (25, c)))), vi x1, vi (nI h), vi x3, vi sp, vi (nI kk), vi x6, vi (nI (kk + 1)), o8', vi sp] [] (sm_G0 nL) A Q)) (sm_Br (decide (sp < 0)) (sm_W (d + 4) 135 12 [vo 10, some (Sum.inr (Sum.inr (some (25, c)))), vi x1, vi (nI h), vi x3, vi x4, vi x5, vi (x6 + 1), vi (nI (kk + 1)), o8', vi sp] [] (sm_G0 nL) A Q) (sm_W (d + 4) 135 12 [vo 10, some (Sum.inr (Sum.inr (some (25, c)))), vi x1, vi (nI h), vi x3, vi x4, vi x5, vi x6, vi (nI (kk + 1)), o8', vi sp] [] (sm_G0 nL) A Q)))) ∧ (∀ d Q o8 o9, ∃ o8', sm_W (d + 4) 249 61 [vo 11, vi (nI c), vi x1, vi (nI h), vi x3, vi x4, vi x5, vi x6, vi (nI kk), o8, o9] [] (sm_G0 nL) B Q = sm_Br (decide (sp < 0)) (sm_Br (decide (x5 < 0)) (sm_W (d + 4) 249 61 [vo 11, vi (nI c), vi x1, vi (nI h), vi x3, vi sp, vi (nI kk), vi (x6 + 1), vi (nI (kk + 1)), o8', vi sp] [] (sm_G0 nL) B Q) (sm_Br (decide (sp < x4)) (sm_W (d + 4) 249 61 [vo 11, vi (nI c), vi x1, vi (nI h), vi x3, vi sp, vi (nI kk), vi (x6 + 1), vi (nI (kk + 1)), o8', vi sp] [] (sm_G0 nL) B Q) (sm_W (d + 4) 249 61 [vo 11, vi (nI c), vi x1, vi (nI h), vi x3, vi x4, vi x5, vi (x6 + 1), vi (nI (kk + 1)), o8', vi sp] [] (sm_G0 nL) B Q))) (sm_Br (decide (x5 < 0)) (sm_W (d + 4) 249 61 [vo 11, vi (nI c), vi x1, vi (nI h), vi x3, vi sp, vi (nI kk), vi x6, vi (nI (kk + 1)), o8', vi sp] [] (sm_G0 nL) B Q) (sm_Br (decide (sp < x4)) (sm_W (d + 4) 249 61 [vo 11, vi (nI c), vi x1, vi (nI h), vi x3, vi sp, vi (nI kk), vi x6, vi (nI (kk + 1)), o8', vi sp] [] (sm_G0 nL) B Q) (sm_W (d + 4) 249 61 [vo 11, vi (nI c), vi x1, vi (nI h), vi x3, vi x4, vi x5, vi x6, vi (nI (kk + 1)), o8', vi sp] [] (sm_G0 nL) B Q)))) := by
      refine ⟨(if wso B e c0 r q x (wcb B c y K) t = -1000000 then 999 else wso B e c0 r q x (wcb B c y K) t) + nI (wtide B x (h + kk)) - x1, fun d Q o8 o9 => ⟨vi (wso B e c0 r q x (wcb B c y K) t), ?_⟩, fun d Q o8 o9 => ⟨vi (wso B e c0 r q x (wcb B c y K) t), ?_⟩⟩
      · rw [T135_12, wa, mm_bt (nI_lt (by omega) (by omega)), mm_bt k20, mm_ck ki, kc, a18, ex, ya, m125 nL hC hx y d, sm_push_s, T135_44, kc, a18, ex, nI_add]
        simp only [mm_ck ki]
        have h24 := fun Q' => m24 (d + 1) none none none (A := A) hJ.1 hJ.2 hx (show h + kk < 200000 by omega) nL Q'
        rw [h24, h24, sm_push_s, sm_push_s, T135_79, T135_79]
        simp only [nI_1]
        by_cases hv : wso B e c0 r q x (wcb B c y K) t = -1000000
        · rw [mm_bt hv, if_pos hv]
        · rw [mm_bf hv, if_neg hv]
      · rw [T249_61, wb, mm_bt (nI_lt (by omega) (by omega)), mm_ck ki, kc, ex, yb, r244 nL hC hx y (d + 1), sm_push_s, T249_86, kc, ex, nI_add]
        simp only [mm_ck ki]
        have h173 := fun Q' => r173 (d + 2) none none none none (B := B) hJ.1 hx (show h + kk < 200000 by omega) nL Q'
        rw [h173, h173, sm_push_s, sm_push_s, T249_118, T249_118]
        simp only [nI_1, Int32.add_zero]
        by_cases hv : wso B e c0 r q x (wcb B c y K) t = -1000000
        · rw [mm_bt hv, if_pos hv]
        · rw [mm_bf hv, if_neg hv]
    have fin : ∀ y4 y5 y6, (∀ d Q o8 o9, ∃ o8', sm_W (d + 4) 135 12 [vo 10, some (Sum.inr (Sum.inr (some (25, c)))), vi x1, vi (nI h), vi x3, vi x4, vi x5, vi x6, vi (nI kk), o8, o9] [] (sm_G0 nL) A Q = sm_W (d + 4) 135 12 [vo 10, some (Sum.inr (Sum.inr (some (25, c)))), vi x1, vi (nI h), vi x3, vi y4, vi y5, vi y6, vi (nI (kk + 1)), o8', vi sp] [] (sm_G0 nL) A Q) → (∀ d Q o8 o9, ∃ o8', sm_W (d + 4) 249 61 [vo 11, vi (nI c), vi x1, vi (nI h), vi x3, vi x4, vi x5, vi x6, vi (nI kk), o8, o9] [] (sm_G0 nL) B Q = sm_W (d + 4) 249 61 [vo 11, vi (nI c), vi x1, vi (nI h), vi x3, vi y4, vi y5, vi y6, vi (nI (kk + 1)), o8', vi sp] [] (sm_G0 nL) B Q) → ∃ l p b : Int32, (∀ d Q o8 o9, sm_W (d + 4) 135 12 [vo 10, some (Sum.inr (Sum.inr (some (25, c)))), vi x1, vi (nI h), vi x3, vi x4, vi x5, vi x6, vi (nI kk), o8, o9] [] (sm_G0 nL) A Q = Q (vi (if x3 = 0 then l else if x3 = 1 then p else b)) (sm_G0 nL) A) ∧ (∀ d Q o8 o9, ∃ o9', sm_W (d + 4) 249 61 [vo 11, vi (nI c), vi x1, vi (nI h), vi x3, vi x4, vi x5, vi x6, vi (nI kk), o8, o9] [] (sm_G0 nL) B Q = sm_W (d + 4) 249 173 [vo 11, vi (nI c), vi x1, vi (nI h), vi x3, vi l, vi p, vi b, vi 0, vi 0, o9'] [] (sm_G0 nL) B Q) := fun y4 y5 y6 h1 h2 => by
      obtain ⟨l, p, b, g1, g2⟩ := ih (kk + 1) y4 y5 y6 (by omega)
      refine ⟨l, p, b, fun d Q o8 o9 => ?_, fun d Q o8 o9 => ?_⟩
      · obtain ⟨o8', h3⟩ := h1 d Q o8 o9
        exact h3.trans (g1 d Q _ _)
      · obtain ⟨o8', h3⟩ := h2 d Q o8 o9
        obtain ⟨o9', h4⟩ := g2 d Q o8' (vi sp)
        exact ⟨o9', h3.trans h4⟩
    by_cases s0 : sp < 0
    · by_cases p0 : x5 < 0
      · exact fin sp (nI kk) (x6 + 1) (fun d Q o8 o9 => by obtain ⟨o8', h1⟩ := hA d Q o8 o9; exact ⟨o8', by rw [h1, mm_bt p0, mm_bt s0]⟩) (fun d Q o8 o9 => by obtain ⟨o8', h1⟩ := hB d Q o8 o9; exact ⟨o8', by rw [h1, mm_bt s0, mm_bt p0]⟩)
      · by_cases l0 : sp < x4
        · exact fin sp (nI kk) (x6 + 1) (fun d Q o8 o9 => by obtain ⟨o8', h1⟩ := hA d Q o8 o9; exact ⟨o8', by rw [h1, mm_bf p0, mm_bt l0, mm_bt s0]⟩) (fun d Q o8 o9 => by obtain ⟨o8', h1⟩ := hB d Q o8 o9; exact ⟨o8', by rw [h1, mm_bt s0, mm_bf p0, mm_bt l0]⟩)
        · exact fin x4 x5 (x6 + 1) (fun d Q o8 o9 => by obtain ⟨o8', h1⟩ := hA d Q o8 o9; exact ⟨o8', by rw [h1, mm_bf p0, mm_bf l0, mm_bt s0]⟩) (fun d Q o8 o9 => by obtain ⟨o8', h1⟩ := hB d Q o8 o9; exact ⟨o8', by rw [h1, mm_bt s0, mm_bf p0, mm_bf l0]⟩)
    · by_cases p0 : x5 < 0
      · exact fin sp (nI kk) x6 (fun d Q o8 o9 => by obtain ⟨o8', h1⟩ := hA d Q o8 o9; exact ⟨o8', by rw [h1, mm_bt p0, mm_bf s0]⟩) (fun d Q o8 o9 => by obtain ⟨o8', h1⟩ := hB d Q o8 o9; exact ⟨o8', by rw [h1, mm_bf s0, mm_bt p0]⟩)
      · by_cases l0 : sp < x4
        · exact fin sp (nI kk) x6 (fun d Q o8 o9 => by obtain ⟨o8', h1⟩ := hA d Q o8 o9; exact ⟨o8', by rw [h1, mm_bf p0, mm_bt l0, mm_bf s0]⟩) (fun d Q o8 o9 => by obtain ⟨o8', h1⟩ := hB d Q o8 o9; exact ⟨o8', by rw [h1, mm_bf s0, mm_bf p0, mm_bt l0]⟩)
        · exact fin x4 x5 x6 (fun d Q o8 o9 => by obtain ⟨o8', h1⟩ := hA d Q o8 o9; exact ⟨o8', by rw [h1, mm_bf p0, mm_bf l0, mm_bf s0]⟩) (fun d Q o8 o9 => by obtain ⟨o8', h1⟩ := hB d Q o8 o9; exact ⟨o8', by rw [h1, mm_bf s0, mm_bf p0, mm_bf l0]⟩)
theorem p132 {A B : sm_M} {n e0 m : Nat} (hD : J_day A B) (hJ : J_sea A B) (hS : J_srv A B) (hG : J_thg A B) (hT : J_tel e0 n A B) (hH : J_sht A B) (hE : J_edi m A B) (hP : J_cop A B) (hC : J_cor A B) (hW : J_way A B) (x0 x1 x2 x3 : Int32) (nL : Nat) : ∃ r, (∀ d Q, sm_W (d + 5) 132 0 [vo 10, vi x0, vi x1, vi x2, vi x3, none] [] (sm_G0 nL) A Q = Q (vi r) (sm_G0 nL) A) ∧ (∀ d Q, sm_W (d + 4) 249 0 [vo 11, vi x0, vi x1, vi x2, vi x3, none, none, none, none, none, none] [] (sm_G0 nL) B Q = Q (vi r) (sm_G0 nL) B) := by
  obtain ⟨dA, td, htd, dB⟩ := hD
  obtain ⟨t, s, P, hV, hP24, pa, pb, hCo⟩ := VC_of hS hG hT hH hE hP hC
  obtain ⟨W, hWW⟩ := hW
  obtain ⟨hW20, wa, wb, hWc⟩ := id hWW
  rcases mm_sv x0 P (by omega) with h | ⟨g0, g1, g2⟩ | ⟨c, hc, rfl, c0, c1, c2⟩
  · exact ⟨-1000000, fun d Q => by simp only [T132, h, ↓sm_Br_d, ↓reduceIte, sm_Ck_t, mm_zb0, mm_zb1], fun d Q => by simp only [T249, h, ↓sm_Br_d, ↓reduceIte, sm_Ck_t, mm_zb0, mm_zb1]⟩
  · exact ⟨-1000000, fun d Q => by simp only [T132, g0, pa, pb, g1, g2, ↓sm_Br_d, ↓reduceIte, sm_Ck_t, mm_zb0, mm_zb1], fun d Q => by simp only [T249, g0, pa, pb, g1, g2, ↓sm_Br_d, ↓reduceIte, sm_Ck_t, mm_zb0, mm_zb1]⟩
  have c24 : nI c < (24 : Int32) := nI_lt (show c < 24 by omega) (by decide)
  have ci : sm_in (nI c) 24 = true := mm_in (by omega) (by decide)
  have cc : (nI c).toNatClampNeg = c := nI_clamp (by omega)
  have no : (x3 < 0 ∨ 3 < x3 ∨ W = 0 ∨ x1 < 0 ∨ 99 < x1 ∨ x2 < 0 ∨ 99000 < x2) → ∃ r, (∀ d Q, sm_W (d + 5) 132 0 [vo 10, vi (nI c), vi x1, vi x2, vi x3, none] [] (sm_G0 nL) A Q = Q (vi r) (sm_G0 nL) A) ∧ (∀ d Q, sm_W (d + 4) 249 0 [vo 11, vi (nI c), vi x1, vi x2, vi x3, none, none, none, none, none, none] [] (sm_G0 nL) B Q = Q (vi r) (sm_G0 nL) B) := fun hbad => by
    have hz : (nI W = 0) = (W = 0) := propext (nI_eq (a := W) (b := 0) (by omega) (by decide))
    by_cases q1 : x3 < 0
    · by_cases q4 : x1 < 0
      · exact ⟨-1000000, fun d Q => by simp only [T132, c0, pa, pb, c1, c2, c24, ci, q1, q4, ↓sm_Br_d, ↓reduceIte, sm_Ck_t, mm_zb0, mm_zb1], fun d Q => by simp only [T249, c0, pa, pb, c1, c2, c24, ci, q1, q4, ↓sm_Br_d, ↓reduceIte, sm_Ck_t, mm_zb0, mm_zb1]⟩
      · by_cases q5 : 99 < x1
        · exact ⟨-1000000, fun d Q => by simp only [T132, c0, pa, pb, c1, c2, c24, ci, q1, q4, q5, ↓sm_Br_d, ↓reduceIte, sm_Ck_t, mm_zb0, mm_zb1], fun d Q => by simp only [T249, c0, pa, pb, c1, c2, c24, ci, q1, q4, q5, ↓sm_Br_d, ↓reduceIte, sm_Ck_t, mm_zb0, mm_zb1]⟩
        · by_cases q6 : x2 < 0
          · exact ⟨-1000000, fun d Q => by simp only [T132, c0, pa, pb, c1, c2, c24, ci, q1, q4, q5, q6, ↓sm_Br_d, ↓reduceIte, sm_Ck_t, mm_zb0, mm_zb1], fun d Q => by simp only [T249, c0, pa, pb, c1, c2, c24, ci, q1, q4, q5, q6, ↓sm_Br_d, ↓reduceIte, sm_Ck_t, mm_zb0, mm_zb1]⟩
          · by_cases q7 : 99000 < x2
            · exact ⟨-1000000, fun d Q => by simp only [T132, c0, pa, pb, c1, c2, c24, ci, q1, q4, q5, q6, q7, ↓sm_Br_d, ↓reduceIte, sm_Ck_t, mm_zb0, mm_zb1], fun d Q => by simp only [T249, c0, pa, pb, c1, c2, c24, ci, q1, q4, q5, q6, q7, ↓sm_Br_d, ↓reduceIte, sm_Ck_t, mm_zb0, mm_zb1]⟩
            · exact ⟨-1000000, fun d Q => by simp only [T132, c0, pa, pb, c1, c2, c24, ci, q1, q4, q5, q6, q7, ↓sm_Br_d, ↓reduceIte, sm_Ck_t, mm_zb0, mm_zb1], fun d Q => by simp only [T249, c0, pa, pb, c1, c2, c24, ci, q1, q4, q5, q6, q7, ↓sm_Br_d, ↓reduceIte, sm_Ck_t, mm_zb0, mm_zb1]⟩
    · by_cases q2 : 3 < x3
      · by_cases q4 : x1 < 0
        · exact ⟨-1000000, fun d Q => by simp only [T132, c0, pa, pb, c1, c2, c24, ci, q1, q2, q4, ↓sm_Br_d, ↓reduceIte, sm_Ck_t, mm_zb0, mm_zb1], fun d Q => by simp only [T249, c0, pa, pb, c1, c2, c24, ci, q1, q2, q4, ↓sm_Br_d, ↓reduceIte, sm_Ck_t, mm_zb0, mm_zb1]⟩
        · by_cases q5 : 99 < x1
          · exact ⟨-1000000, fun d Q => by simp only [T132, c0, pa, pb, c1, c2, c24, ci, q1, q2, q4, q5, ↓sm_Br_d, ↓reduceIte, sm_Ck_t, mm_zb0, mm_zb1], fun d Q => by simp only [T249, c0, pa, pb, c1, c2, c24, ci, q1, q2, q4, q5, ↓sm_Br_d, ↓reduceIte, sm_Ck_t, mm_zb0, mm_zb1]⟩
          · by_cases q6 : x2 < 0
            · exact ⟨-1000000, fun d Q => by simp only [T132, c0, pa, pb, c1, c2, c24, ci, q1, q2, q4, q5, q6, ↓sm_Br_d, ↓reduceIte, sm_Ck_t, mm_zb0, mm_zb1], fun d Q => by simp only [T249, c0, pa, pb, c1, c2, c24, ci, q1, q2, q4, q5, q6, ↓sm_Br_d, ↓reduceIte, sm_Ck_t, mm_zb0, mm_zb1]⟩
            · by_cases q7 : 99000 < x2
              · exact ⟨-1000000, fun d Q => by simp only [T132, c0, pa, pb, c1, c2, c24, ci, q1, q2, q4, q5, q6, q7, ↓sm_Br_d, ↓reduceIte, sm_Ck_t, mm_zb0, mm_zb1], fun d Q => by simp only [T249, c0, pa, pb, c1, c2, c24, ci, q1, q2, q4, q5, q6, q7, ↓sm_Br_d, ↓reduceIte, sm_Ck_t, mm_zb0, mm_zb1]⟩
              · exact ⟨-1000000, fun d Q => by simp only [T132, c0, pa, pb, c1, c2, c24, ci, q1, q2, q4, q5, q6, q7, ↓sm_Br_d, ↓reduceIte, sm_Ck_t, mm_zb0, mm_zb1], fun d Q => by simp only [T249, c0, pa, pb, c1, c2, c24, ci, q1, q2, q4, q5, q6, q7, ↓sm_Br_d, ↓reduceIte, sm_Ck_t, mm_zb0, mm_zb1]⟩
      · by_cases q3 : W = 0
        · by_cases q4 : x1 < 0
          · exact ⟨-1000000, fun d Q => by simp only [T132, c0, pa, pb, c1, c2, c24, ci, wa, wb, hz, eq_true q3, q1, q2, q4, ↓sm_Br_d, ↓reduceIte, sm_Ck_t, mm_zb0, mm_zb1], fun d Q => by simp only [T249, c0, pa, pb, c1, c2, c24, ci, wa, wb, hz, eq_true q3, q1, q2, q4, ↓sm_Br_d, ↓reduceIte, sm_Ck_t, mm_zb0, mm_zb1]⟩
          · by_cases q5 : 99 < x1
            · exact ⟨-1000000, fun d Q => by simp only [T132, c0, pa, pb, c1, c2, c24, ci, wa, wb, hz, eq_true q3, q1, q2, q4, q5, ↓sm_Br_d, ↓reduceIte, sm_Ck_t, mm_zb0, mm_zb1], fun d Q => by simp only [T249, c0, pa, pb, c1, c2, c24, ci, wa, wb, hz, eq_true q3, q1, q2, q4, q5, ↓sm_Br_d, ↓reduceIte, sm_Ck_t, mm_zb0, mm_zb1]⟩
            · by_cases q6 : x2 < 0
              · exact ⟨-1000000, fun d Q => by simp only [T132, c0, pa, pb, c1, c2, c24, ci, wa, wb, hz, eq_true q3, q1, q2, q4, q5, q6, ↓sm_Br_d, ↓reduceIte, sm_Ck_t, mm_zb0, mm_zb1], fun d Q => by simp only [T249, c0, pa, pb, c1, c2, c24, ci, wa, wb, hz, eq_true q3, q1, q2, q4, q5, q6, ↓sm_Br_d, ↓reduceIte, sm_Ck_t, mm_zb0, mm_zb1]⟩
              · by_cases q7 : 99000 < x2
                · exact ⟨-1000000, fun d Q => by simp only [T132, c0, pa, pb, c1, c2, c24, ci, wa, wb, hz, eq_true q3, q1, q2, q4, q5, q6, q7, ↓sm_Br_d, ↓reduceIte, sm_Ck_t, mm_zb0, mm_zb1], fun d Q => by simp only [T249, c0, pa, pb, c1, c2, c24, ci, wa, wb, hz, eq_true q3, q1, q2, q4, q5, q6, q7, ↓sm_Br_d, ↓reduceIte, sm_Ck_t, mm_zb0, mm_zb1]⟩
                · exact ⟨-1000000, fun d Q => by simp only [T132, c0, pa, pb, c1, c2, c24, ci, wa, wb, hz, eq_true q3, q1, q2, q4, q5, q6, q7, ↓sm_Br_d, ↓reduceIte, sm_Ck_t, mm_zb0, mm_zb1], fun d Q => by simp only [T249, c0, pa, pb, c1, c2, c24, ci, wa, wb, hz, eq_true q3, q1, q2, q4, q5, q6, q7, ↓sm_Br_d, ↓reduceIte, sm_Ck_t, mm_zb0, mm_zb1]⟩
        · by_cases q4 : x1 < 0
          · exact ⟨-1000000, fun d Q => by simp only [T132, c0, pa, pb, c1, c2, c24, ci, wa, wb, hz, q3, q1, q2, q4, ↓sm_Br_d, ↓reduceIte, sm_Ck_t, mm_zb0, mm_zb1], fun d Q => by simp only [T249, c0, pa, pb, c1, c2, c24, ci, wa, wb, hz, q3, q1, q2, q4, ↓sm_Br_d, ↓reduceIte, sm_Ck_t, mm_zb0, mm_zb1]⟩
          · by_cases q5 : 99 < x1
            · exact ⟨-1000000, fun d Q => by simp only [T132, c0, pa, pb, c1, c2, c24, ci, wa, wb, hz, q3, q1, q2, q4, q5, ↓sm_Br_d, ↓reduceIte, sm_Ck_t, mm_zb0, mm_zb1], fun d Q => by simp only [T249, c0, pa, pb, c1, c2, c24, ci, wa, wb, hz, q3, q1, q2, q4, q5, ↓sm_Br_d, ↓reduceIte, sm_Ck_t, mm_zb0, mm_zb1]⟩
            · by_cases q6 : x2 < 0
              · exact ⟨-1000000, fun d Q => by simp only [T132, c0, pa, pb, c1, c2, c24, ci, wa, wb, hz, q3, q1, q2, q4, q5, q6, ↓sm_Br_d, ↓reduceIte, sm_Ck_t, mm_zb0, mm_zb1], fun d Q => by simp only [T249, c0, pa, pb, c1, c2, c24, ci, wa, wb, hz, q3, q1, q2, q4, q5, q6, ↓sm_Br_d, ↓reduceIte, sm_Ck_t, mm_zb0, mm_zb1]⟩
              · by_cases q7 : 99000 < x2
                · exact ⟨-1000000, fun d Q => by simp only [T132, c0, pa, pb, c1, c2, c24, ci, wa, wb, hz, q3, q1, q2, q4, q5, q6, q7, ↓sm_Br_d, ↓reduceIte, sm_Ck_t, mm_zb0, mm_zb1], fun d Q => by simp only [T249, c0, pa, pb, c1, c2, c24, ci, wa, wb, hz, q3, q1, q2, q4, q5, q6, q7, ↓sm_Br_d, ↓reduceIte, sm_Ck_t, mm_zb0, mm_zb1]⟩
                · rcases hbad with h | h | h | h | h | h | h
                  · exact absurd h q1
                  · exact absurd h q2
                  · exact absurd h q3
                  · exact absurd h q4
                  · exact absurd h q5
                  · exact absurd h q6
                  · exact absurd h q7
  by_cases q1 : x3 < 0
  · exact no (.inl q1)
  by_cases q2 : 3 < x3
  · exact no (.inr (.inl q2))
  by_cases q3 : W = 0
  · exact no (.inr (.inr (.inl q3)))
  by_cases q4 : x1 < 0
  · exact no (.inr (.inr (.inr (.inl q4))))
  by_cases q5 : 99 < x1
  · exact no (.inr (.inr (.inr (.inr (.inl q5)))))
  by_cases q6 : x2 < 0
  · exact no (.inr (.inr (.inr (.inr (.inr (.inl q6))))))
  by_cases q7 : 99000 < x2
  · exact no (.inr (.inr (.inr (.inr (.inr (.inr q7))))))
  have hz : ¬ nI W = 0 := nI_ne0 (by omega) (by omega)
  obtain ⟨hh, hhb, rfl, -⟩ := (mm_rg x2 99000 (by decide)).resolve_left q6 |>.resolve_left (fun h => q7 h.2.1)
  obtain ⟨⟨e, k, cc0, r, q, z, u, qn, E, S, K, hVC⟩, -⟩ := hCo c hc
  obtain ⟨l, p, b, g1, g2⟩ := go_loop nL hVC hWW hJ hhb x1 x3 (nI td) (dA.trans dB) dB W 0 0 (-1) 0 (by omega)
  refine ⟨if x3 = 0 then l else if x3 = 1 then p else if x3 = 2 then nI (wnn B W t (nI td) 48) else b, fun d Q => ?_, fun d Q => ?_⟩
  · by_cases w2 : x3 = 2
    · simp only [T132, c0, pa, c1, c24, ci, cc, q1, q2, wa, hz, q4, q5, q6, q7, eq_true w2, ↓sm_Br_d, ↓reduceIte, sm_Ck_t, mm_zb0, mm_zb1]
      rw [T133]
      refine (m133 nL hV hWW (nI td) (dA.trans dB) d _ 48 0 (by omega)).trans ?_
      rw [sm_push_s, T132_67]
      subst w2; rfl
    · simp only [T132, c0, pa, c1, c24, ci, cc, q1, q2, wa, hz, q4, q5, q6, q7, w2, ↓sm_Br_d, ↓reduceIte, sm_Ck_t, mm_zb0, mm_zb1]
      rw [T135]
      refine (g1 d _ none none).trans ?_
      rw [sm_push_s, T132_80]
  · simp only [T249, c0, pb, c2, q1, q2, wb, hz, q4, q5, q6, q7, ↓sm_Br_d, ↓reduceIte, sm_Ck_t, mm_zb0, mm_zb1]
    obtain ⟨o9', h4⟩ := g2 d Q none none
    refine Eq.trans h4 ?_
    exact r249n nL hV hWW (nI td) dB d Q _ _ _ _ x3 l p b 48 0 (by omega)
