/-! blocks -/
def wbc (b i : Nat) : Nat := 8 * (2 * (b / 4) + i / 2) + 2 * (b % 4) + i % 2
theorem wbc_lt {b i : Nat} (hb : b < 12) (hi : i < 4) : wbc b i < 48 := by unfold wbc; omega
theorem wbc_a {b i : Nat} (hb : b < 12) (hi : i < 4) : (8 : Int32) * (nI b / 4 * 2 + nI i / 2) + ((nI b - nI b / 4 * 4) * 2 + (nI i - nI i / 2 * 2)) = nI (wbc b i) := by
  rw [show (4 : Int32) = nI 4 from rfl, show (2 : Int32) = nI 2 from rfl, show (8 : Int32) = nI 8 from rfl, pk_rem (by omega) (by decide) (by decide), pk_rem (by omega) (by decide) (by decide), pk_div (by omega) (by decide) (by decide), pk_div (by omega) (by decide) (by decide), pk_mul, pk_mul, nI_add, nI_add, pk_mul, nI_add]
  unfold wbc; congr 1; omega
theorem wbc_b {b i : Nat} (hb : b < 12) (hi : i < 4) : ((8 : Int32) * (2 * (nI b / 4) + nI i / 2)) + (2 * (nI b - nI b / 4 * 4)) + (nI i - nI i / 2 * 2) = nI (wbc b i) := by
  rw [show (4 : Int32) = nI 4 from rfl, show (2 : Int32) = nI 2 from rfl, show (8 : Int32) = nI 8 from rfl, pk_rem (by omega) (by decide) (by decide), pk_rem (by omega) (by decide) (by decide), pk_div (by omega) (by decide) (by decide), pk_div (by omega) (by decide) (by decide), pk_mul, nI_add, pk_mul, pk_mul, nI_add, nI_add]; rfl
def wct (B : sm_M) (kd c y : Int32) : Nat → Nat
  | 0 => 0
  | i + 1 => if wone B kd c y i = true then wct B kd c y i + 1 else wct B kd c y i
theorem wct_le {B : sm_M} {kd c y : Int32} : ∀ i, wct B kd c y i ≤ i
  | 0 => Nat.le_refl _
  | i + 1 => by
    have h := wct_le (B := B) (kd := kd) (c := c) (y := y) i
    unfold wct
    split <;> omega
theorem m139 {A B : sm_M} {t s : Nat} (nL : Nat) (kd c y : Int32) (hV : VW A B t s) (d : Nat) (Q : sm_Q) (o3 o4 : Option sm_V) : sm_W (d + 2) 139 0 [vo 14, vi kd, vi c, vi y, o3, o4] [] (sm_G0 nL) A Q = Q (vi (nI (wct B kd c y t))) (sm_G0 nL) A := by
  obtain ⟨ht, hs, ta, sa, tb, sb, hT, hSv⟩ := hV
  have lp : ∀ j i, i + j = t → sm_W (d + 2) 139 6 [vo 14, vi kd, vi c, vi y, vi (nI (wct B kd c y i)), vi (nI i)] [] (sm_G0 nL) A Q = Q (vi (nI (wct B kd c y t))) (sm_G0 nL) A := by
    intro j
    induction j with
    | zero =>
      intro i hi
      have hi' : i = t := by omega
      subst hi'
      rw [T139_6, ta, mm_bf (nI_nlt (Nat.le_refl _) (by omega))]
    | succ j ih =>
      intro i hi
      have h3 := ih (i + 1) (by omega)
      have hw : wct B kd c y (i + 1) = if wone B kd c y i = true then wct B kd c y i + 1 else wct B kd c y i := rfl
      rw [hw] at h3
      rw [T139_6, ta, mm_bt (nI_lt (by omega) (by omega)), m42s ta ht (by omega), sm_push_s, T139_21, m52 d nL (hT i (by omega)), sm_push_s, T139_27]
      simp only [nI_1]
      cases h : wone B kd c y i with
      | false => rw [h] at h3; rw [mm_bt (by decide)]; exact h3
      | true => rw [h] at h3; rw [mm_bf (by decide)]; exact h3
  rw [T139]; exact lp t 0 (by omega)
def wun1 (B : sm_M) (c y : Int32) (t : Nat) : Nat := if wct B 1 c y t = 0 then 1 else 0
theorem m140 {A B : sm_M} {t s : Nat} (nL : Nat) (c y : Int32) (ey : A 10 0 0 = y) (hV : VW A B t s) (d : Nat) (Q : sm_Q) : sm_W (d + 3) 140 0 [vo 10, vi c] [] (sm_G0 nL) A Q = Q (vi (nI (wun1 B c y t))) (sm_G0 nL) A := by
  have h := wct_le (B := B) (kd := 1) (c := c) (y := y) t
  have ht := hV.1
  rw [T140, ey, m139 nL 1 c y hV d, sm_push_s, T140_13]
  unfold wun1
  by_cases hz : wct B 1 c y t = 0
  · rw [hz, mm_bt (show nI 0 = 0 from rfl)]; rfl
  · rw [mm_bf (nI_ne0 (by omega) (by omega)), if_neg hz]; rfl
def wrs (B : sm_M) (y : Int32) (t b : Nat) : Nat → Int32
  | 0 => 0
  | i + 1 => wrs B y t b i + B 58 0 (wbc b i) * nI (wct B 3 (nI (wbc b i)) y t + wun1 B (nI (wbc b i)) y t)
def wcs (B : sm_M) (y : Int32) (t b : Nat) : Nat → Nat
  | 0 => 3
  | i + 1 => wcs B y t b i + wun1 B (nI (wbc b i)) y t
theorem wun1_le {B : sm_M} {c y : Int32} {t : Nat} : wun1 B c y t ≤ 1 := by unfold wun1; split <;> omega
theorem wcs_le {B : sm_M} {y : Int32} {t b : Nat} : ∀ i, wcs B y t b i ≤ 3 + i
  | 0 => Nat.le_refl _
  | i + 1 => by
    have h := wcs_le (B := B) (y := y) (t := t) (b := b) i
    have h2 := wun1_le (B := B) (c := nI (wbc b i)) (y := y) (t := t)
    unfold wcs; omega
theorem m137 {A B : sm_M} {t s b : Nat} (nL : Nat) (y : Int32) (ey : A 10 0 0 = y) (hV : VW A B t s) (h28 : ∀ c, c < 48 → A 28 0 c = B 58 0 c) (hb : b < 12) (d : Nat) (Q : sm_Q) : sm_W (d + 4) 137 0 [vo 10, vi (nI b), none, none, none, none] [] (sm_G0 nL) A Q = Q (vi (wrs B y t b 4)) (sm_G0 nL) A := by
  have lp : ∀ j i o3 o4, i + j = 4 → sm_W (d + 4) 137 4 [vo 10, vi (nI b), vi (wrs B y t b i), vi (nI i), o3, o4] [] (sm_G0 nL) A Q = Q (vi (wrs B y t b 4)) (sm_G0 nL) A := by
    intro j
    induction j with
    | zero =>
      intro i o3 o4 hi
      have hi' : i = 4 := by omega
      subst hi'
      rw [T137_4, mm_bf (by decide)]
    | succ j ih =>
      intro i o3 o4 hi
      have h3 := fun o3 o4 => ih (i + 1) o3 o4 (by omega)
      have i4 : nI i < (4 : Int32) := nI_lt (show i < 4 by omega) (by decide)
      have hc := wbc_lt hb (show i < 4 by omega)
      have c48 : nI (wbc b i) < (48 : Int32) := nI_lt hc (by decide)
      have cin : sm_in (nI (wbc b i)) 48 = true := mm_in hc (by decide)
      have ccl : (nI (wbc b i)).toNatClampNeg = wbc b i := nI_clamp (by omega)
      have hw : wrs B y t b (i + 1) = wrs B y t b i + B 58 0 (wbc b i) * nI (wct B 3 (nI (wbc b i)) y t + wun1 B (nI (wbc b i)) y t) := rfl
      rw [T137_4, mm_bt i4, wbc_a hb (by omega), ey, m139 nL 3 _ y hV (d + 1), sm_push_s, T137_30, m140 nL _ y ey hV d, sm_push_s, T137_36]
      have c0 : ¬ nI (wbc b i) < 0 := nI_pos (by omega)
      simp only [mm_bf c0, mm_bt c48, mm_ck cin, ccl, h28 _ hc, nI_1, Int32.add_zero]
      rw [hw] at h3
      by_cases hu : wun1 B (nI (wbc b i)) y t = 0
      · rw [hu] at h3
        rw [hu, mm_bt (show nI 0 = 0 from rfl)]; exact h3 _ _
      · have hu1 : wun1 B (nI (wbc b i)) y t = 1 := by
          have := wun1_le (B := B) (c := nI (wbc b i)) (y := y) (t := t)
          omega
        rw [hu1] at h3
        rw [hu1, mm_bf (show ¬ nI 1 = 0 by decide)]; exact h3 _ _
  rw [T137]; exact lp 4 0 none none (by omega)
theorem m142 {A B : sm_M} {t s b : Nat} (nL : Nat) (y : Int32) (ey : A 10 0 0 = y) (hV : VW A B t s) (hb : b < 12) (d : Nat) (Q : sm_Q) : sm_W (d + 4) 142 0 [vo 10, vi (nI b), none, none] [] (sm_G0 nL) A Q = Q (vi (nI (wcs B y t b 4))) (sm_G0 nL) A := by
  have lp : ∀ j i, i + j = 4 → sm_W (d + 4) 142 4 [vo 10, vi (nI b), vi (nI (wcs B y t b i)), vi (nI i)] [] (sm_G0 nL) A Q = Q (vi (nI (wcs B y t b 4))) (sm_G0 nL) A := by
    intro j
    induction j with
    | zero =>
      intro i hi
      have hi' : i = 4 := by omega
      subst hi'
      rw [T142_4, mm_bf (by decide)]
    | succ j ih =>
      intro i hi
      have h3 := ih (i + 1) (by omega)
      have i4 : nI i < (4 : Int32) := nI_lt (show i < 4 by omega) (by decide)
      have hw : wcs B y t b (i + 1) = wcs B y t b i + wun1 B (nI (wbc b i)) y t := rfl
      rw [T142_4, mm_bt i4, wbc_a hb (by omega), m140 nL _ y ey hV (d + 0), sm_push_s, T142_18]
      simp only [nI_1]
      rw [hw] at h3
      by_cases hu : wun1 B (nI (wbc b i)) y t = 0
      · rw [hu] at h3
        rw [hu, mm_bt (show nI 0 = 0 from rfl)]; exact h3
      · have hu1 : wun1 B (nI (wbc b i)) y t = 1 := by
          have := wun1_le (B := B) (c := nI (wbc b i)) (y := y) (t := t)
          omega
        rw [hu1] at h3
        rw [hu1, mm_bf (show ¬ nI 1 = 0 by decide)]; exact h3
  rw [T142]; exact lp 4 0 (by omega)
/-! there is water where a depth stands -/
theorem wlat_n {B : sm_M} {c y : Int32} {s : Nat} : ∀ {i : Nat}, wlat B c y s i = none → ∀ k, k < i → wone B 1 c y k = true → ¬ B 61 0 k = nI s
  | 0, _ => fun k hk => absurd hk (Nat.not_lt_zero _)
  | i + 1, h => by
    intro k hk ho
    unfold wlat at h
    by_cases hw : wone B 1 c y i = true
    · rw [if_pos hw] at h
      by_cases hs : B 61 0 i = nI s
      · rw [if_pos hs] at h; cases h
      · rw [if_neg hs] at h
        by_cases hki : k = i
        · subst hki; exact hs
        · exact wlat_n h k (by omega) ho
    · rw [if_neg hw] at h
      by_cases hki : k = i
      · subst hki; exact absurd ho hw
      · exact wlat_n h k (by omega) ho
theorem wct_0 {B : sm_M} {kd c y : Int32} : ∀ {i : Nat}, wct B kd c y i = 0 ↔ ∀ k, k < i → wone B kd c y k = false
  | 0 => ⟨fun _ k hk => absurd hk (Nat.not_lt_zero _), fun _ => rfl⟩
  | i + 1 => by
    have ih := wct_0 (B := B) (kd := kd) (c := c) (y := y) (i := i)
    unfold wct
    by_cases hw : wone B kd c y i = true
    · rw [if_pos hw]
      exact ⟨fun h => by omega, fun h => by rw [h i (Nat.lt_succ_self _)] at hw; exact absurd hw (by decide)⟩
    · rw [if_neg hw, ih]
      refine ⟨fun h k hk => ?_, fun h k hk => h k (by omega)⟩
      by_cases hki : k = i
      · subst hki; simpa using hw
      · exact h k (by omega)
theorem WW_un {A B : sm_M} {t s : Nat} (hV : VW A B t s) (o : Option Nat) (c y : Int32) : mb (WW B o c y t s).isSome = nI (1 - wun1 B c y t) := by
  obtain ⟨ht, hs, ta, sa, tb, sb, hT, hSv⟩ := hV
  unfold wun1
  cases hW : WW B o c y t s with
  | none =>
    have h1 := WW_n hW
    have h2 := wbs_n h1
    have h3 : wct B 1 c y t = 0 := wct_0.mpr (fun k hk => by
      cases hw : wone B 1 c y k with
      | false => rfl
      | true =>
        obtain ⟨v, hv, ev⟩ := (hT k hk).2.2.2.2.2.2.2.2.1
        exact absurd ev (wlat_n (h2 v hv) k hk hw))
    rw [if_pos h3]; rfl
  | some v =>
    obtain ⟨bt, w, q⟩ := v
    obtain ⟨h1, h2, h3, b, m, hb, hbs, hl, -⟩ := WW_p hW
    have h4 : ¬ wct B 1 c y t = 0 := fun h => by
      have h5 := (wlat_p hl).2.1
      rw [wct_0.mp h bt h1] at h5; exact absurd h5 (by decide)
    rw [if_neg h4]; rfl
theorem wone_RB (B : sm_M) (kd c y : Int32) (i : Nat) : wone (RB B) kd c y i = wone B kd c y i := rfl
theorem wct_RB (B : sm_M) (kd c y : Int32) : ∀ i, wct (RB B) kd c y i = wct B kd c y i
  | 0 => rfl
  | i + 1 => by
    have ih := wct_RB B kd c y i
    unfold wct
    rw [ih, wone_RB]
theorem wct_s2 {B B1 : sm_M} (h : Fr sB2 B B1) (kd c y : Int32) (i : Nat) : wct B1 kd c y i = wct B kd c y i := by rw [← wct_RB, RB_s2 h, wct_RB]
theorem wun1_s2 {B B1 : sm_M} (h : Fr sB2 B B1) (c y : Int32) (i : Nat) : wun1 B1 c y i = wun1 B c y i := by unfold wun1; rw [wct_s2 h]
/-! a block, the reference -/
def sB3 (f k : Nat) : Bool := scB f k || (Nat.beq f 11 && (Nat.beq k 61 || Nat.beq k 62))
theorem sB3_w {B B1 : sm_M} (h : Fr sB3 B B1) : Fr sB2 B B1 := Fr_w h (fun f k hk => by
  unfold sB2 at hk; unfold sB3
  simp only [Bool.or_eq_false_iff] at hk ⊢
  exact ⟨hk.1.1.1.1, hk.2⟩)
theorem sB3_s {B B1 : sm_M} (h : Fr scB B B1) : Fr sB3 B B1 := Fr_w h (fun f k hk => by
  unfold sB3 at hk
  simp only [Bool.or_eq_false_iff] at hk
  exact hk.1)
theorem r252b {A B M : sm_M} {t s cell : Nat} (nL : Nat) (y : Int32) (hV : VW A B t s) (hM : Fr sB2 B M) (ey : B 11 0 1 = y) (hc : cell < 48) (d : Nat) (Q : sm_Q) (x0 x1 : Int32) (u : Nat) (hu : u ≤ 1) : ∀ j i, i + j = t → ∃ o4, sm_W (d + 4) 252 73 [vo 11, vi x0, vi x1, vi (nI cell), vi (nI (u + wct B 3 (nI cell) y i)), vi (nI i)] [] (sm_G0 nL) M Q = sm_W (d + 4) 252 12 [vo 11, vi x0, vi (x1 + 1), vi (nI cell), vi (nI (u + wct B 3 (nI cell) y t)), o4] [] (sm_G0 nL) (sm_u M 11 0 61 (M 11 0 61 + B 58 0 cell * nI (u + wct B 3 (nI cell) y t))) Q := by
  obtain ⟨ht, hs, ta, sa, tb, sb, hT, hSv⟩ := hV
  have tm : M 11 0 13 = nI t := (hM 11 0 13 rfl).trans tb
  have ym : M 11 0 1 = y := (hM 11 0 1 rfl).trans ey
  intro j
  induction j with
  | zero =>
    intro i hi
    have hi' : i = t := by omega
    subst hi'
    refine ⟨vi (nI i), ?_⟩
    rw [T252_73, tm, mm_bf (nI_nlt (Nat.le_refl _) (by omega)), mm_ck (mm_in hc (by decide)), nI_clamp (by omega), hM 58 0 cell rfl]
  | succ j ih =>
    intro i hi
    obtain ⟨o4, h3⟩ := ih (i + 1) (by omega)
    refine ⟨o4, ?_⟩
    have ei : sm_in (nI i) 90 = true := mm_in (by omega) (by decide)
    have ec : (nI i).toNatClampNeg = i := nI_clamp (by omega)
    have hw : wct B 3 (nI cell) y (i + 1) = if wone B 3 (nI cell) y i = true then wct B 3 (nI cell) y i + 1 else wct B 3 (nI cell) y i := rfl
    have hl := wct_le (B := B) (kd := 3) (c := nI cell) (y := y) i
    have e59 : M 59 0 i = B 59 0 i := hM 59 0 i rfl
    have e60 : M 60 0 i = B 60 0 i := hM 60 0 i rfl
    have est : wst M y i = wst B y i := by unfold wst; rw [hM 63 0 i rfl, hM 64 0 i rfl]
    unfold wone at hw
    rw [T252_73, tm, mm_bt (nI_lt (by omega) (by omega)), mm_ck ei, ec, e59]
    simp only [mm_ck ei, e60, ym, nI_1, Int32.add_zero]
    by_cases h1 : B 59 0 i = 3
    · rw [mm_bt h1]
      by_cases h2 : B 60 0 i = nI cell
      · rw [mm_bt h2, r193 (d + 3) nL (show i < 90 by omega), sm_push_s, est, T252_116]
        simp only [nI_1, Int32.add_zero]
        simp only [eq_true h1, eq_true h2, decide_true, Bool.true_and] at hw
        cases h4 : wst B y i with
        | false => rw [h4] at hw; simp only [Bool.false_eq_true, ↓reduceIte] at hw; rw [hw] at h3; rw [mm_bt (by decide)]; exact h3
        | true => rw [h4] at hw; simp only [↓reduceIte] at hw; rw [hw] at h3; rw [mm_bf (by decide)]; exact h3
      · simp only [h2, decide_false, Bool.and_false, Bool.false_and, Bool.false_eq_true, ↓reduceIte] at hw
        rw [hw] at h3
        rw [mm_bf h2]; exact h3
    · simp only [h1, decide_false, Bool.false_and, Bool.false_eq_true, ↓reduceIte] at hw
      rw [hw] at h3
      rw [mm_bf h1]; exact h3
theorem r252 {A B : sm_M} {t s n b : Nat} (nL : Nat) (y : Int32) (hV : VW A B t s) (hn : n ≤ 10) (eb : B 11 0 27 = nI n) (ey : B 11 0 1 = y) (hb : b < 12) : ∀ B0, Fr sB2 B B0 → ∃ B2, (∀ d Q, sm_W (d + 4) 252 0 [vo 11, vi (nI b), none, none, none, none] [] (sm_G0 nL) B0 Q = Q none (sm_G0 nL) B2) ∧ Fr sB3 B0 B2 ∧ B2 11 0 61 = wrs B y t b 4 ∧ B2 11 0 62 = nI (wcs B y t b 4) := by
  intro B0 hB0
  have lp : ∀ j i B1, i + j = 4 → Fr sB3 B0 B1 → B1 11 0 61 = wrs B y t b i → B1 11 0 62 = nI (wcs B y t b i) → ∃ B2, (∀ d Q o2 o3 o4, sm_W (d + 4) 252 12 [vo 11, vi (nI b), vi (nI i), o2, o3, o4] [] (sm_G0 nL) B1 Q = Q none (sm_G0 nL) B2) ∧ Fr sB3 B0 B2 ∧ B2 11 0 61 = wrs B y t b 4 ∧ B2 11 0 62 = nI (wcs B y t b 4) := by
    intro j
    induction j with
    | zero =>
      intro i B1 hi hB e1 e2
      have hi' : i = 4 := by omega
      subst hi'
      exact ⟨B1, fun d Q o2 o3 o4 => by rw [T252_12, mm_bf (by decide)], hB, e1, e2⟩
    | succ j ih =>
      intro i B1 hi hB e1 e2
      have hBB : Fr sB2 B B1 := Fr_t hB0 (sB3_w hB)
      have i4 : nI i < (4 : Int32) := nI_lt (show i < 4 by omega) (by decide)
      have hc := wbc_lt hb (show i < 4 by omega)
      have hV1 : VW A B1 t s := VW_s2 hV (Fr_r _ _) hBB
      obtain ⟨B2, q1, q2, -⟩ := r216 (A := A) (B := B1) nL (nI (wbc b i)) y hV1 hn ((hBB 11 0 27 rfl).trans eb) (Fr_r scB B1)
      rw [WW_un hV1, wun1_s2 hBB] at q1
      have hu := wun1_le (B := B) (c := nI (wbc b i)) (y := y) (t := t)
      have c2 : B2 11 0 62 = nI (wcs B y t b i) := (q2 11 0 62 rfl).trans e2
      have r2 : B2 11 0 61 = wrs B y t b i := (q2 11 0 61 rfl).trans e1
      have hB2 : Fr sB2 B B2 := Fr_t hBB (sB2_w q2)
      have hM : Fr sB2 B (sm_u B2 11 0 62 (nI (wcs B y t b (i + 1)))) := Fr_u hB2 rfl
      have hst : ∀ d Q o2 o3 o4, sm_W (d + 4) 252 12 [vo 11, vi (nI b), vi (nI i), o2, o3, o4] [] (sm_G0 nL) B1 Q = sm_W (d + 4) 252 73 [vo 11, vi (nI b), vi (nI i), vi (nI (wbc b i)), vi (nI (wun1 B (nI (wbc b i)) y t + wct B 3 (nI (wbc b i)) y 0)), vi (nI 0)] [] (sm_G0 nL) (sm_u B2 11 0 62 (nI (wcs B y t b (i + 1)))) Q := fun d Q o2 o3 o4 => by
        rw [T252_12, mm_bt i4, wbc_b hb (by omega), (hBB 11 0 1 rfl).trans ey, q1 d, sm_push_s, T252_49, c2]
        simp only [nI_1, Int32.add_zero]
        by_cases hz : wun1 B (nI (wbc b i)) y t = 0
        · have hw : wcs B y t b (i + 1) = wcs B y t b i := by show wcs B y t b i + wun1 B (nI (wbc b i)) y t = _; rw [hz]; rfl
          rw [hz, hw, mm_bf (show ¬ nI (1 - 0) = 0 by decide)]; rfl
        · have hz1 : wun1 B (nI (wbc b i)) y t = 1 := by omega
          have hw : wcs B y t b (i + 1) = wcs B y t b i + 1 := by show wcs B y t b i + wun1 B (nI (wbc b i)) y t = _; rw [hz1]
          rw [hz1, hw, mm_bt (show nI (1 - 1) = 0 by decide)]; rfl
      have hr61 : sm_u B2 11 0 62 (nI (wcs B y t b (i + 1))) 11 0 61 = wrs B y t b i := (mm_un (by omega)).trans r2
      have hrs : wrs B y t b i + B 58 0 (wbc b i) * nI (wun1 B (nI (wbc b i)) y t + wct B 3 (nI (wbc b i)) y t) = wrs B y t b (i + 1) := by
        show _ = wrs B y t b i + B 58 0 (wbc b i) * nI (wct B 3 (nI (wbc b i)) y t + wun1 B (nI (wbc b i)) y t)
        rw [Nat.add_comm]
      obtain ⟨B3, p1, p2⟩ := ih (i + 1) (sm_u (sm_u B2 11 0 62 (nI (wcs B y t b (i + 1)))) 11 0 61 (wrs B y t b (i + 1))) (by omega) (Fr_u (Fr_u (Fr_t hB (sB3_s q2)) rfl) rfl) mm_up ((mm_un (by omega)).trans mm_up)
      refine ⟨B3, fun d Q o2 o3 o4 => ?_, p2⟩
      obtain ⟨o4', h⟩ := r252b nL y hV hM ey hc d Q (nI b) (nI i) (wun1 B (nI (wbc b i)) y t) hu t 0 (by omega)
      rw [hr61, hrs, nI_1] at h
      exact ((hst d Q o2 o3 o4).trans h).trans (p1 d Q _ _ _)
  obtain ⟨B2, g1, g2⟩ := lp 4 0 (sm_u (sm_u B0 11 0 61 0) 11 0 62 3) (by omega) (Fr_u (Fr_u (Fr_r _ _) rfl) rfl) ((mm_un (by omega)).trans mm_up) mm_up
  exact ⟨B2, fun d Q => by rw [T252]; exact g1 d Q _ _ _, g2⟩
theorem p136 {A B : sm_M} (hD : J_day A B) (hJ : J_sea A B) (hS : J_srv A B) (hG : J_thg A B) (hR : J_rul A B) (x0 x1 : Int32) (nL : Nat) : ∃ r B', (∀ d Q, sm_W (d + 5) 136 0 [vo 10, vi x0, vi x1] [] (sm_G0 nL) A Q = Q (vi r) (sm_G0 nL) A) ∧ (∀ d Q, sm_W (d + 5) 251 0 [vo 11, vi x0, vi x1] [] (sm_G0 nL) B Q = Q (vi r) (sm_G0 nL) B') ∧ Fr sB2 B B' := by
  obtain ⟨dA, y, hy, dB⟩ := hD
  obtain ⟨t, s, hV⟩ := VW_of hS hG
  obtain ⟨n, hn, ea, eb, -⟩ := hR
  rcases mm_rg x0 11 (by decide) with h | ⟨h0, h1, h2⟩ | ⟨b, hb, rfl, b0, b1, b2, -⟩
  · exact ⟨-1, B, fun d Q => by simp only [T136, h, ↓sm_Br_d, ↓reduceIte, sm_Ck_t, mm_zb0, mm_zb1], fun d Q => by simp only [T251, h, ↓sm_Br_d, ↓reduceIte, sm_Ck_t, mm_zb0, mm_zb1], Fr_r _ _⟩
  · have h1' : (11 : Int32) < x0 := h1
    have h2' : ¬ x0 < (12 : Int32) := h2
    exact ⟨-1, B, fun d Q => by simp only [T136, h0, h2', ↓sm_Br_d, ↓reduceIte, sm_Ck_t, mm_zb0, mm_zb1], fun d Q => by simp only [T251, h0, h1', ↓sm_Br_d, ↓reduceIte, sm_Ck_t, mm_zb0, mm_zb1], Fr_r _ _⟩
  have b1' : ¬ (11 : Int32) < nI b := b1
  have b2' : nI b < (12 : Int32) := b2
  by_cases a0 : x1 < 0
  · exact ⟨-1, B, fun d Q => by simp only [T136, b0, b2', a0, ↓sm_Br_d, ↓reduceIte, sm_Ck_t, mm_zb0, mm_zb1], fun d Q => by simp only [T251, b0, b1', a0, ↓sm_Br_d, ↓reduceIte, sm_Ck_t, mm_zb0, mm_zb1], Fr_r _ _⟩
  by_cases a1 : 1 < x1
  · exact ⟨-1, B, fun d Q => by simp only [T136, b0, b2', a0, a1, ↓sm_Br_d, ↓reduceIte, sm_Ck_t, mm_zb0, mm_zb1], fun d Q => by simp only [T251, b0, b1', a0, a1, ↓sm_Br_d, ↓reduceIte, sm_Ck_t, mm_zb0, mm_zb1], Fr_r _ _⟩
  obtain ⟨B2, g1, g2, g3, g4⟩ := r252 (A := A) nL (nI y) hV hn eb dB (show b < 12 by omega) B (Fr_r _ _)
  have h28 : ∀ c, c < 48 → A 28 0 c = B 58 0 c := fun c hc => (hJ.2.2.2 c hc).2
  refine ⟨if x1 = 0 then wrs B (nI y) t b 4 else nI (wcs B (nI y) t b 4), B2, fun d Q => ?_, fun d Q => ?_, sB3_w g2⟩
  · by_cases z : x1 = 0
    · simp only [T136, b0, b2', a0, a1, eq_true z, ↓sm_Br_d, ↓reduceIte, sm_Ck_t, mm_zb0, mm_zb1]
      rw [m137 nL (nI y) (dA.trans dB) hV h28 (show b < 12 by omega) d, sm_push_s, T136_30]
    · simp only [T136, b0, b2', a0, a1, z, ↓sm_Br_d, ↓reduceIte, sm_Ck_t, mm_zb0, mm_zb1]
      rw [m142 nL (nI y) (dA.trans dB) hV (show b < 12 by omega) d, sm_push_s, T136_38]
  · simp only [T251, b0, b1', a0, a1, ↓sm_Br_d, ↓reduceIte, sm_Ck_t, mm_zb0, mm_zb1]
    rw [g1, sm_push_n, T251_26, g3, g4]; simp only [mm_q Q]
