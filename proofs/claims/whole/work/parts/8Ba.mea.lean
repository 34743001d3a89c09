/-! plan -/
def wsu (F : Nat → Int32) (x : Nat) : Nat → Int32
  | 0 => 0
  | b + 1 => if x.testBit b = true then wsu F x b + F b else wsu F x b
theorem wsu_0 (F : Nat → Int32) : ∀ n, wsu F 0 n = 0
  | 0 => rfl
  | n + 1 => by
    have ih := wsu_0 F n
    show (if Nat.testBit 0 n = true then _ else wsu F 0 n) = 0
    rw [Nat.zero_testBit]; simpa using ih
theorem wsu_pw (F : Nat → Int32) (b : Nat) : ∀ n, wsu F (2 ^ b) n = if b < n then F b else 0
  | 0 => rfl
  | n + 1 => by
    have ih := wsu_pw F b n
    show (if (2 ^ b).testBit n = true then wsu F (2 ^ b) n + F n else wsu F (2 ^ b) n) = _
    rw [Nat.testBit_two_pow, ih]
    by_cases h : b = n
    · subst h
      simp
    · have h2 : (b < n + 1) = (b < n) := propext (by omega)
      simp [h, h2]
theorem mm_rc (a b c : Int32) : a + b + c = a + c + b := by rw [Int32.add_assoc, Int32.add_comm b c, ← Int32.add_assoc]
theorem wpw_i : ∀ v, v < 12 → ∀ b, b < 12 → 2 ^ v = 2 ^ b → v = b := by decide
theorem wsu_sp (F : Nat → Int32) (x m : Nat) : ∀ n, wsu F x n = wsu F (x &&& m) n + wsu F (x ^^^ (x &&& m)) n
  | 0 => rfl
  | n + 1 => by
    have ih := wsu_sp F x m n
    show (if x.testBit n = true then wsu F x n + F n else wsu F x n) = (if (x &&& m).testBit n = true then wsu F (x &&& m) n + F n else wsu F (x &&& m) n) + (if (x ^^^ (x &&& m)).testBit n = true then wsu F (x ^^^ (x &&& m)) n + F n else wsu F (x ^^^ (x &&& m)) n)
    rw [Nat.testBit_xor, Nat.testBit_and, ih]
    cases x.testBit n <;> cases m.testBit n
    · rfl
    · rfl
    · exact Int32.add_assoc _ _ _
    · exact mm_rc _ _ _
theorem wpw0 : ∀ a, a < 64 → ∀ b, b < 64 → 64 * a + b = 0 ∨ ((64 * a + b &&& (64 * a + b - 1)) < 64 * a + b ∧ ((64 * a + b &&& (64 * a + b - 1)) = 0 → 64 * a + b = 2 ^ Nat.log2 (64 * a + b) ∧ Nat.log2 (64 * a + b) < 12) ∧ (¬ (64 * a + b &&& (64 * a + b - 1)) = 0 → (64 * a + b ^^^ (64 * a + b &&& (64 * a + b - 1))) < 64 * a + b)) := by decide +kernel
theorem wpw (x : Nat) (h0 : 0 < x) (h : x < 4096) : (x &&& (x - 1)) < x ∧ ((x &&& (x - 1)) = 0 → x = 2 ^ Nat.log2 x ∧ Nat.log2 x < 12) ∧ (¬ (x &&& (x - 1)) = 0 → (x ^^^ (x &&& (x - 1))) < x) := by
  have h1 := wpw0 (x / 64) (by omega) (x % 64) (by omega)
  rw [show 64 * (x / 64) + x % 64 = x from by omega] at h1
  exact h1.resolve_left (by omega)
def PA_pl (f k : Nat) : Bool := (Nat.beq f 21 || Nat.beq f 22) && Nat.ble 1 k
theorem m144a {A B : sm_M} {t s : Nat} (nL : Nat) (y : Int32) (ey : A 10 0 0 = y) (hV : VW A B t s) (h28 : ∀ c, c < 48 → A 28 0 c = B 58 0 c) : ∀ j b A1, b + j = 12 → Fr PA_pl A A1 → (∀ v, v < b → A1 21 0 (2 ^ v) = wrs B y t v 4 ∧ A1 22 0 (2 ^ v) = nI (wcs B y t v 4)) → ∃ A2, (∀ d Q o1, sm_W (d + 5) 144 2 [vo 10, vi (nI b), o1] [] (sm_G0 nL) A1 Q = sm_W (d + 5) 144 42 [vo 10, vi 1, o1] [] (sm_G0 nL) A2 Q) ∧ Fr PA_pl A A2 ∧ (∀ v, v < 12 → A2 21 0 (2 ^ v) = wrs B y t v 4 ∧ A2 22 0 (2 ^ v) = nI (wcs B y t v 4)) := by
  intro j
  induction j with
  | zero =>
    intro b A1 hb hA hv
    have hb' : b = 12 := by omega
    subst hb'
    exact ⟨A1, fun d Q o1 => by rw [T144_2, mm_bf (by decide)], hA, hv⟩
  | succ j ih =>
    intro b A1 hb hA hv
    have b12 : nI b < (12 : Int32) := nI_lt (show b < 12 by omega) (by decide)
    have hp : 2 ^ b < 4096 := Nat.pow_lt_pow_right (n := 12) (a := 2) (by decide) (by omega)
    have hp1 : 1 ≤ 2 ^ b := Nat.one_le_two_pow
    have pin : sm_in (nI (2 ^ b)) 4096 = true := mm_in hp (by decide)
    have pcl : (nI (2 ^ b)).toNatClampNeg = 2 ^ b := nI_clamp (by omega)
    have hV1 : ∀ M, Fr PA_pl A M → VW M B t s := fun M hM => by
      obtain ⟨h1, h2, h3, h4, h5, h6, h7, h8⟩ := hV
      refine ⟨h1, h2, (hM 14 0 3 rfl).trans h3, (hM 14 0 1 rfl).trans h4, h5, h6, fun i hi => ?_, fun i hi => ?_⟩
      · have := h7 i hi
        unfold K_thg at this ⊢
        rw [hM 42 i 1 rfl, hM 42 i 2 rfl, hM 42 i 3 rfl, hM 42 i 4 rfl, hM 42 i 5 rfl, hM 42 i 6 rfl]
        exact this
      · have := h8 i hi
        rw [hM 41 i 0 rfl, hM 41 i 1 rfl, hM 41 i 2 rfl]
        exact this
    have hfr : Fr PA_pl A (sm_u A1 21 0 (2 ^ b) (wrs B y t b 4)) := Fr_u hA (show (true && Nat.ble 1 (2 ^ b)) = true from by rw [Nat.ble_eq_true_of_le hp1]; rfl)
    have hfr2 : Fr PA_pl A (sm_u (sm_u A1 21 0 (2 ^ b) (wrs B y t b 4)) 22 0 (2 ^ b) (nI (wcs B y t b 4))) := Fr_u hfr (show (true && Nat.ble 1 (2 ^ b)) = true from by rw [Nat.ble_eq_true_of_le hp1]; rfl)
    obtain ⟨A2, g1, g2⟩ := ih (b + 1) (sm_u (sm_u A1 21 0 (2 ^ b) (wrs B y t b 4)) 22 0 (2 ^ b) (nI (wcs B y t b 4))) (by omega) hfr2 (fun v hvb => by
      by_cases h : v = b
      · subst h
        exact ⟨(mm_up (A := A1) : sm_u A1 21 0 (2 ^ v) (wrs B y t v 4) 21 0 (2 ^ v) = _), mm_up⟩
      · have hne : ¬ (0 = 0 ∧ 2 ^ v = 2 ^ b) := fun hh => h (wpw_i v (by omega) b (by omega) hh.2)
        exact ⟨(mm_un (A := A1) hne : sm_u A1 21 0 (2 ^ b) (wrs B y t b 4) 21 0 (2 ^ v) = _).trans (hv v (by omega)).1, (mm_un hne).trans (hv v (by omega)).2⟩)
    refine ⟨A2, fun d Q o1 => ?_, g2⟩
    rw [T144_2, mm_bt b12, m137 nL y ((hA 10 0 0 rfl).trans ey) (hV1 A1 hA) (fun c hc => (hA 28 0 c rfl).trans (h28 c hc)) (show b < 12 by omega) d, sm_push_s, T144_20, mm_bit (by omega), mm_ck pin, pcl, m142 nL y ((hfr 10 0 0 rfl).trans ey) (hV1 _ hfr) (show b < 12 by omega) d, sm_push_s, T144_33, mm_ck pin, pcl, nI_1, g1]
theorem m144b {A B : sm_M} (nL : Nat) (R C : Nat → Int32) (h0R : A 21 0 0 = 0) (h0C : A 22 0 0 = 0) : ∀ j x A1, 0 < x → x + j = 4096 → Fr PA_pl A A1 → (∀ v, v < 12 → A1 21 0 (2 ^ v) = R v ∧ A1 22 0 (2 ^ v) = C v) → (∀ v, v < x → A1 21 0 v = wsu R v 12 ∧ A1 22 0 v = wsu C v 12) → ∃ A2, (∀ d Q o1, sm_W (d + 5) 144 42 [vo 10, vi (nI x), o1] [] (sm_G0 nL) A1 Q = Q none (sm_G0 nL) A2) ∧ Fr PA_pl A A2 ∧ (∀ v, v < 4096 → A2 21 0 v = wsu R v 12 ∧ A2 22 0 v = wsu C v 12) := by
  intro j
  induction j with
  | zero =>
    intro x A1 hx0 hx hA hp hv
    have hx' : x = 4096 := by omega
    subst hx'
    exact ⟨A1, fun d Q o1 => by rw [T144_42, mm_bf (by decide)], hA, hv⟩
  | succ j ih =>
    intro x A1 hx0 hx hA hp hv
    obtain ⟨w1, w2, w3⟩ := wpw x hx0 (by omega)
    have x4 : nI x < (4096 : Int32) := nI_lt (show x < 4096 by omega) (by decide)
    have er : nI x &&& (nI x - 1) = nI (x &&& (x - 1)) := by
      rw [show (1 : Int32) = nI 1 from rfl, pk_sub (show 1 ≤ x by omega), nI_and]
    by_cases hz : (x &&& (x - 1)) = 0
    · obtain ⟨e1, e2⟩ := w2 hz
      obtain ⟨A2, g1, g2⟩ := ih (x + 1) A1 (by omega) (by omega) hA hp (fun v hvx => by
        by_cases h : v = x
        · subst h
          rw [e1, wsu_pw, wsu_pw, if_pos e2, if_pos e2]; exact hp _ e2
        · exact hv v (by omega))
      refine ⟨A2, fun d Q o1 => ?_, g2⟩
      rw [T144_42, mm_bt x4, er, mm_bt (show nI (x &&& (x - 1)) = 0 by rw [hz]; rfl), nI_1, g1]
    · have w3' := w3 hz
      have ri : sm_in (nI (x &&& (x - 1))) 4096 = true := mm_in (by omega) (by decide)
      have rc : (nI (x &&& (x - 1))).toNatClampNeg = x &&& (x - 1) := nI_clamp (by omega)
      have li : sm_in (nI (x ^^^ (x &&& (x - 1)))) 4096 = true := mm_in (by omega) (by decide)
      have lc : (nI (x ^^^ (x &&& (x - 1)))).toNatClampNeg = x ^^^ (x &&& (x - 1)) := nI_clamp (by omega)
      have xi : sm_in (nI x) 4096 = true := mm_in (by omega) (by decide)
      have xc : (nI x).toNatClampNeg = x := nI_clamp (by omega)
      have hb1 : Nat.ble 1 x = true := Nat.ble_eq_true_of_le (by omega)
      have hnp : ∀ v, v < 12 → ¬ (0 = 0 ∧ 2 ^ v = x) := fun v hv12 hh => hz (by
        rw [← hh.2]
        exact (by decide : ∀ v, v < 12 → (2 ^ v &&& (2 ^ v - 1)) = 0) v hv12)
      obtain ⟨A2, g1, g2⟩ := ih (x + 1) (sm_u (sm_u A1 21 0 x (wsu R x 12)) 22 0 x (wsu C x 12)) (by omega) (by omega) (Fr_u (Fr_u hA (show (true && Nat.ble 1 x) = true from by rw [hb1]; rfl)) (show (true && Nat.ble 1 x) = true from by rw [hb1]; rfl)) (fun v hv12 => ⟨(mm_un (A := A1) (hnp v hv12) : sm_u A1 21 0 x (wsu R x 12) 21 0 (2 ^ v) = _).trans (hp v hv12).1, (mm_un (hnp v hv12)).trans (hp v hv12).2⟩) (fun v hvx => by
        by_cases h : v = x
        · subst h; exact ⟨(mm_up (A := A1) : sm_u A1 21 0 v (wsu R v 12) 21 0 v = _), mm_up⟩
        · exact ⟨(mm_un (A := A1) (fun hh => h hh.2) : sm_u A1 21 0 x (wsu R x 12) 21 0 v = _).trans (hv v (by omega)).1, (mm_un (fun hh => h hh.2)).trans (hv v (by omega)).2⟩)
      refine ⟨A2, fun d Q o1 => ?_, g2⟩
      have sR := wsu_sp R x (x - 1) 12
      have sC := wsu_sp C x (x - 1) 12
      obtain ⟨r1, r2⟩ := hv (x &&& (x - 1)) w1
      obtain ⟨l1, l2⟩ := hv (x ^^^ (x &&& (x - 1))) w3'
      rw [T144_42, mm_bt x4, er, mm_bf (nI_ne0 (by omega) (by omega)), nI_xor]
      simp only [mm_ck ri, mm_ck li, mm_ck xi, rc, lc, xc, r1, r2, l1, l2, ← sR, ← sC, nI_1]
      exact g1 d Q _
/-- the best set up to one -/
def wpl (F C : Nat → Int32) (days : Int32) : Nat → Nat
  | 0 => 0
  | n + 1 => if days < C (n + 1) then wpl F C days n else if F (n + 1) < F (wpl F C days n) then wpl F C days n else if F (n + 1) = F (wpl F C days n) then (if C (n + 1) < C (wpl F C days n) then n + 1 else wpl F C days n) else n + 1
theorem wpl_le {F C : Nat → Int32} {days : Int32} : ∀ n, wpl F C days n ≤ n
  | 0 => Nat.le_refl _
  | n + 1 => by
    have h := wpl_le (F := F) (C := C) (days := days) n
    unfold wpl
    split
    · omega
    · split
      · omega
      · split
        · split <;> omega
        · omega
theorem mm_tri (x y : Int32) : (x < y ∧ ¬ y < x ∧ ¬ x = y ∧ ¬ y = x) ∨ (x = y) ∨ (y < x ∧ ¬ x < y ∧ ¬ x = y ∧ ¬ y = x) := by
  simp only [Int32.lt_iff_toInt_lt, ← Int32.toInt_inj]
  omega
theorem m145 {A : sm_M} (nL : Nat) (F C : Nat → Int32) (hF : ∀ v, v < 4096 → A 21 0 v = F v ∧ A 22 0 v = C v) (days : Int32) (d : Nat) (Q : sm_Q) : ∀ j n o3, n + 1 + j = 4096 → sm_W d 145 4 [vo 10, vi days, vi (nI (wpl F C days n)), vi (nI (n + 1)), o3] [] (sm_G0 nL) A Q = Q (vi (nI (wpl F C days 4095))) (sm_G0 nL) A := by
  intro j
  induction j with
  | zero =>
    intro n o3 hn
    have hn' : n = 4095 := by omega
    subst hn'
    rw [T145_4, mm_bf (by decide)]
  | succ j ih =>
    intro n o3 hn
    have h3 := fun o => ih (n + 1) o (by omega)
    have hl := wpl_le (F := F) (C := C) (days := days) n
    have hw : wpl F C days (n + 1) = if days < C (n + 1) then wpl F C days n else if F (n + 1) < F (wpl F C days n) then wpl F C days n else if F (n + 1) = F (wpl F C days n) then (if C (n + 1) < C (wpl F C days n) then n + 1 else wpl F C days n) else n + 1 := rfl
    generalize wpl F C days n = b at hw hl ⊢
    have n4 : nI (n + 1) < (4096 : Int32) := nI_lt (show n + 1 < 4096 by omega) (by decide)
    have ni : sm_in (nI (n + 1)) 4096 = true := mm_in (by omega) (by decide)
    have nc : (nI (n + 1)).toNatClampNeg = n + 1 := nI_clamp (by omega)
    have bi : sm_in (nI b) 4096 = true := mm_in (by omega) (by decide)
    have bc : (nI b).toNatClampNeg = b := nI_clamp (by omega)
    obtain ⟨f1, c1⟩ := hF (n + 1) (by omega)
    obtain ⟨f2, c2⟩ := hF b (by omega)
    rw [T145_4, mm_bt n4]
    simp only [mm_ck ni, mm_ck bi, nc, bc, f1, c1, f2, c2, nI_1]
    rcases mm_tri (F b) (F (n + 1)) with ⟨t1, t2, t3, t4⟩ | t1 | ⟨t1, t2, t3, t4⟩
    · rw [mm_bt t1]
      by_cases hd : days < C (n + 1)
      · rw [if_pos hd] at hw; rw [hw] at h3; rw [mm_bt hd]; exact h3 _
      · rw [if_neg hd, if_neg t2, if_neg t4] at hw; rw [hw] at h3; rw [mm_bf hd]; exact h3 _
    · have t2 : ¬ F b < F (n + 1) := by rw [t1]; exact fun h => Int32.lt_irrefl h
      have t3 : ¬ F (n + 1) < F b := by rw [t1]; exact fun h => Int32.lt_irrefl h
      rw [mm_bf t2, mm_bt t1.symm]
      by_cases hd : days < C (n + 1)
      · rw [if_pos hd] at hw
        rw [hw] at h3
        by_cases hc : C (n + 1) < C b
        · rw [mm_bt hc, mm_bt hd]; exact h3 _
        · rw [mm_bf hc]; exact h3 _
      · rw [if_neg hd, if_neg t3, if_pos t1.symm] at hw
        by_cases hc : C (n + 1) < C b
        · rw [if_pos hc] at hw; rw [hw] at h3; rw [mm_bt hc, mm_bf hd]; exact h3 _
        · rw [if_neg hc] at hw; rw [hw] at h3; rw [mm_bf hc]; exact h3 _
    · rw [mm_bf t2, mm_bf t4]
      by_cases hd : days < C (n + 1)
      · rw [if_pos hd] at hw; rw [hw] at h3; exact h3 _
      · rw [if_neg hd, if_pos t1] at hw; rw [hw] at h3; exact h3 _
theorem r253a {A B : sm_M} {t s n : Nat} (nL : Nat) (y : Int32) (hV : VW A B t s) (hn : n ≤ 10) (eb : B 11 0 27 = nI n) (ey : B 11 0 1 = y) : ∀ j b B1, b + j = 12 → Fr sB2 B B1 → (∀ v, v < b → B1 93 0 v = wrs B y t v 4 ∧ B1 94 0 v = nI (wcs B y t v 4)) → ∃ B2, (∀ d Q x0 x1 o3 o4 o5 o6 o7 o8, sm_W (d + 5) 253 24 [vo 11, vi x0, vi x1, vi (nI b), o3, o4, o5, o6, o7, o8] [] (sm_G0 nL) B1 Q = sm_W (d + 5) 253 72 [vo 11, vi x0, vi x1, vi 0, vi 0, vi 0, vi 1, o6, o7, o8] [] (sm_G0 nL) B2 Q) ∧ Fr sB2 B B2 ∧ (∀ v, v < 12 → B2 93 0 v = wrs B y t v 4 ∧ B2 94 0 v = nI (wcs B y t v 4)) := by
  intro j
  induction j with
  | zero =>
    intro b B1 hb hB hv
    have hb' : b = 12 := by omega
    subst hb'
    exact ⟨B1, fun d Q x0 x1 o3 o4 o5 o6 o7 o8 => by rw [T253_24, mm_bf (by decide)], hB, hv⟩
  | succ j ih =>
    intro b B1 hb hB hv
    have b12 : nI b < (12 : Int32) := nI_lt (show b < 12 by omega) (by decide)
    have bi : sm_in (nI b) 12 = true := mm_in (by omega) (by decide)
    have bc : (nI b).toNatClampNeg = b := nI_clamp (by omega)
    obtain ⟨B2, g1, g2, g3, g4⟩ := r252 (A := A) nL y hV hn eb ey (show b < 12 by omega) B1 hB
    obtain ⟨B3, q1, q2⟩ := ih (b + 1) (sm_u (sm_u B2 93 0 b (wrs B y t b 4)) 94 0 b (nI (wcs B y t b 4))) (by omega) (Fr_u (Fr_u (Fr_t hB (sB3_w g2)) rfl) rfl) (fun v hvb => by
      by_cases h : v = b
      · subst h; exact ⟨(mm_up (A := B2) : sm_u B2 93 0 v (wrs B y t v 4) 93 0 v = _), mm_up⟩
      · exact ⟨(mm_un (A := B2) (fun hh => h hh.2) : sm_u B2 93 0 b (wrs B y t b 4) 93 0 v = _).trans ((g2 93 0 v rfl).trans (hv v (by omega)).1), (mm_un (fun hh => h hh.2)).trans ((g2 94 0 v rfl).trans (hv v (by omega)).2)⟩)
    refine ⟨B3, fun d Q x0 x1 o3 o4 o5 o6 o7 o8 => ?_, q2⟩
    have e62 : sm_u B2 93 0 b (B2 11 0 61) 11 0 62 = B2 11 0 62 := rfl
    rw [T253_24, mm_bt b12, g1 d, sm_push_n, T253_35, mm_ck bi, mm_ck bi, bc, nI_1]
    rw [g3, g4]
    exact q1 d Q _ _ _ _ _ _ _ _
theorem r253b {B : sm_M} (nL : Nat) (R C : Nat → Int32) (hB : ∀ v, v < 12 → B 93 0 v = R v ∧ B 94 0 v = C v) {x : Nat} (hx : x < 2 ^ 31) (d : Nat) (Q : sm_Q) (x0 x1 x2 x3 x4 : Int32) : ∀ j b, b + j = 12 → sm_W (d + 5) 253 89 [vo 11, vi x0, vi x1, vi x2, vi x3, vi x4, vi (nI x), vi (wsu R x b), vi (wsu C x b), vi (nI b)] [] (sm_G0 nL) B Q = sm_W (d + 5) 253 89 [vo 11, vi x0, vi x1, vi x2, vi x3, vi x4, vi (nI x), vi (wsu R x 12), vi (wsu C x 12), vi (nI 12)] [] (sm_G0 nL) B Q := by
  intro j
  induction j with
  | zero =>
    intro b hb
    have hb' : b = 12 := by omega
    subst hb'; rfl
  | succ j ih =>
    intro b hb
    have h3 := ih (b + 1) (by omega)
    have b12 : nI b < (12 : Int32) := nI_lt (show b < 12 by omega) (by decide)
    have bi : sm_in (nI b) 12 = true := mm_in (by omega) (by decide)
    have bc : (nI b).toNatClampNeg = b := nI_clamp (by omega)
    obtain ⟨e1, e2⟩ := hB b (by omega)
    have hbt := wbt_tb hx (show b < 32 by omega)
    have hR : wsu R x (b + 1) = if x.testBit b = true then wsu R x b + R b else wsu R x b := rfl
    have hC : wsu C x (b + 1) = if x.testBit b = true then wsu C x b + C b else wsu C x b := rfl
    rw [hR, hC] at h3
    rw [T253_89, mm_bt b12, mm_ck bi, mm_ck bi, bc, e1, e2, nI_1]
    by_cases h : x.testBit b = true
    · rw [if_pos h, if_pos h] at h3
      have h0 : ¬ (nI x >>> (nI b &&& 31)) &&& 1 = 0 := fun hh => absurd ((hbt.mpr h).symm.trans hh) (by decide)
      rw [mm_bf h0]; exact h3
    · rw [if_neg h, if_neg h] at h3
      have h0 : (nI x >>> (nI b &&& 31)) &&& 1 = 0 := (wbt_01 (nI x) (nI b)).resolve_right (fun hh => h (hbt.mp hh))
      rw [mm_bt h0]; exact h3
theorem r253c {B : sm_M} (nL : Nat) (R C : Nat → Int32) (hB : ∀ v, v < 12 → B 93 0 v = R v ∧ B 94 0 v = C v) (d : Nat) (Q : sm_Q) (x0 x1 : Int32) : ∀ j n o6 o7 o8, n + 1 + j = 4096 → sm_W (d + 5) 253 72 [vo 11, vi x0, vi x1, vi (nI (wpl (fun v => wsu R v 12) (fun v => wsu C v 12) x0 n)), vi (wsu R (wpl (fun v => wsu R v 12) (fun v => wsu C v 12) x0 n) 12), vi (wsu C (wpl (fun v => wsu R v 12) (fun v => wsu C v 12) x0 n) 12), vi (nI (n + 1)), o6, o7, o8] [] (sm_G0 nL) B Q = Q (vi (if x1 = 0 then wsu R (wpl (fun v => wsu R v 12) (fun v => wsu C v 12) x0 4095) 12 else if x1 = 1 then wsu C (wpl (fun v => wsu R v 12) (fun v => wsu C v 12) x0 4095) 12 else nI (wpl (fun v => wsu R v 12) (fun v => wsu C v 12) x0 4095))) (sm_G0 nL) B := by
  intro j
  induction j with
  | zero =>
    intro n o6 o7 o8 hn
    have hn' : n = 4095 := by omega
    subst hn'
    rw [T253_72, mm_bf (by decide)]; simp only [mm_q Q]
  | succ j ih =>
    intro n o6 o7 o8 hn
    have h3 := fun o6 o7 o8 => ih (n + 1) o6 o7 o8 (by omega)
    have hw : wpl (fun v => wsu R v 12) (fun v => wsu C v 12) x0 (n + 1) = if x0 < wsu C (n + 1) 12 then wpl (fun v => wsu R v 12) (fun v => wsu C v 12) x0 n else if wsu R (n + 1) 12 < wsu R (wpl (fun v => wsu R v 12) (fun v => wsu C v 12) x0 n) 12 then wpl (fun v => wsu R v 12) (fun v => wsu C v 12) x0 n else if wsu R (n + 1) 12 = wsu R (wpl (fun v => wsu R v 12) (fun v => wsu C v 12) x0 n) 12 then (if wsu C (n + 1) 12 < wsu C (wpl (fun v => wsu R v 12) (fun v => wsu C v 12) x0 n) 12 then n + 1 else wpl (fun v => wsu R v 12) (fun v => wsu C v 12) x0 n) else n + 1 := rfl
    have n4 : nI (n + 1) < (4096 : Int32) := nI_lt (show n + 1 < 4096 by omega) (by decide)
    generalize hbb : wpl (fun v => wsu R v 12) (fun v => wsu C v 12) x0 n = b at hw ⊢
    rw [T253_72, mm_bt n4]
    refine (r253b nL R C hB (show n + 1 < 2 ^ 31 by omega) d Q x0 x1 _ _ _ 12 0 (by omega)).trans ?_
    rw [T253_89, mm_bf (show ¬ nI 12 < 12 by decide), nI_1]
    by_cases hd : x0 < wsu C (n + 1) 12
    · rw [if_pos hd] at hw; rw [hw] at h3; rw [mm_bt hd]; exact h3 _ _ _
    · rw [if_neg hd] at hw; rw [mm_bf hd]
      by_cases h1 : wsu R (n + 1) 12 < wsu R b 12
      · rw [if_pos h1] at hw; rw [hw] at h3; rw [mm_bt h1]; exact h3 _ _ _
      · rw [if_neg h1] at hw; rw [mm_bf h1]
        by_cases h2 : wsu R (n + 1) 12 = wsu R b 12
        · rw [if_pos h2] at hw; rw [mm_bt h2]
          by_cases h4 : wsu C (n + 1) 12 < wsu C b 12
          · rw [if_pos h4] at hw; rw [hw] at h3; rw [mm_bt h4]; exact h3 _ _ _
          · rw [if_neg h4] at hw; rw [hw] at h3; rw [mm_bf h4]; exact h3 _ _ _
        · rw [if_neg h2] at hw; rw [hw] at h3; rw [mm_bf h2]; exact h3 _ _ _
def J_set (A : sm_M) : Prop := A 21 0 0 = 0 ∧ A 22 0 0 = 0
theorem p143 {A B : sm_M} (hD : J_day A B) (hJ : J_sea A B) (hS : J_srv A B) (hG : J_thg A B) (hR : J_rul A B) (hZ : J_set A) (x0 x1 : Int32) (nL : Nat) : ∃ r A' B', (∀ d Q, sm_W (d + 6) 143 0 [vo 10, vi x0, vi x1, none] [] (sm_G0 nL) A Q = Q (vi r) (sm_G0 nL) A') ∧ (∀ d Q, sm_W (d + 5) 253 0 [vo 11, vi x0, vi x1, none, none, none, none, none, none, none] [] (sm_G0 nL) B Q = Q (vi r) (sm_G0 nL) B') ∧ Fr PA_pl A A' ∧ Fr sB2 B B' := by
  obtain ⟨dA, y, hy, dB⟩ := hD
  obtain ⟨t, s, hV⟩ := VW_of hS hG
  obtain ⟨n, hn, ea, eb, -⟩ := hR
  have er : ∀ r : Int32, (∀ d Q, sm_W (d + 6) 143 0 [vo 10, vi x0, vi x1, none] [] (sm_G0 nL) A Q = Q (vi r) (sm_G0 nL) A) → (∀ d Q, sm_W (d + 5) 253 0 [vo 11, vi x0, vi x1, none, none, none, none, none, none, none] [] (sm_G0 nL) B Q = Q (vi r) (sm_G0 nL) B) → ∃ r A' B', (∀ d Q, sm_W (d + 6) 143 0 [vo 10, vi x0, vi x1, none] [] (sm_G0 nL) A Q = Q (vi r) (sm_G0 nL) A') ∧ (∀ d Q, sm_W (d + 5) 253 0 [vo 11, vi x0, vi x1, none, none, none, none, none, none, none] [] (sm_G0 nL) B Q = Q (vi r) (sm_G0 nL) B') ∧ Fr PA_pl A A' ∧ Fr sB2 B B' := fun r h1 h2 => ⟨r, A, B, h1, h2, Fr_r _ _, Fr_r _ _⟩
  by_cases a0 : x0 < 0
  · exact er (-5) (fun d Q => by simp only [T143, a0, ↓sm_Br_d, ↓reduceIte, sm_Ck_t, mm_zb0, mm_zb1]) (fun d Q => by simp only [T253, a0, ↓sm_Br_d, ↓reduceIte, sm_Ck_t, mm_zb0, mm_zb1])
  by_cases a1 : 99 < x0
  · exact er (-5) (fun d Q => by simp only [T143, a0, a1, ↓sm_Br_d, ↓reduceIte, sm_Ck_t, mm_zb0, mm_zb1]) (fun d Q => by simp only [T253, a0, a1, ↓sm_Br_d, ↓reduceIte, sm_Ck_t, mm_zb0, mm_zb1])
  by_cases b0 : x1 < 0
  · exact er (-5) (fun d Q => by simp only [T143, a0, a1, b0, ↓sm_Br_d, ↓reduceIte, sm_Ck_t, mm_zb0, mm_zb1]) (fun d Q => by simp only [T253, a0, a1, b0, ↓sm_Br_d, ↓reduceIte, sm_Ck_t, mm_zb0, mm_zb1])
  by_cases b1 : 2 < x1
  · exact er (-5) (fun d Q => by simp only [T143, a0, a1, b0, b1, ↓sm_Br_d, ↓reduceIte, sm_Ck_t, mm_zb0, mm_zb1]) (fun d Q => by simp only [T253, a0, a1, b0, b1, ↓sm_Br_d, ↓reduceIte, sm_Ck_t, mm_zb0, mm_zb1])
  have h28 : ∀ c, c < 48 → A 28 0 c = B 58 0 c := fun c hc => (hJ.2.2.2 c hc).2
  obtain ⟨A1, m1, m2, m3⟩ := m144a (A := A) (B := B) nL (nI y) (dA.trans dB) hV h28 12 0 A (by omega) (Fr_r _ _) (fun v hv => absurd hv (Nat.not_lt_zero _))
  obtain ⟨A2, p1, p2, p3⟩ := m144b (A := A) (B := B) nL (fun v => wrs B (nI y) t v 4) (fun v => nI (wcs B (nI y) t v 4)) hZ.1 hZ.2 4095 1 A1 (by omega) (by omega) m2 m3 (fun v hv => by
    have hv0 : v = 0 := by omega
    subst hv0
    exact ⟨(m2 21 0 0 rfl).trans (hZ.1.trans (wsu_0 _ 12).symm), (m2 22 0 0 rfl).trans (hZ.2.trans (wsu_0 _ 12).symm)⟩)
  obtain ⟨B2, r1, r2, r3⟩ := r253a (A := A) nL (nI y) hV hn eb dB 12 0 B (by omega) (Fr_r _ _) (fun v hv => absurd hv (Nat.not_lt_zero _))
  have hl := wpl_le (F := fun v => wsu (fun v => wrs B (nI y) t v 4) v 12) (C := fun v => wsu (fun v => nI (wcs B (nI y) t v 4)) v 12) (days := x0) 4095
  have hB := fun d Q o6 o7 o8 => r253c (B := B2) nL (fun v => wrs B (nI y) t v 4) (fun v => nI (wcs B (nI y) t v 4)) r3 d Q x0 x1 4095 0 o6 o7 o8 (by omega)
  have hA := fun d Q o3 => m145 (A := A2) nL (fun v => wsu (fun v => wrs B (nI y) t v 4) v 12) (fun v => wsu (fun v => nI (wcs B (nI y) t v 4)) v 12) p3 x0 d Q 4095 0 o3 (by omega)
  refine ⟨if x1 = 0 then wsu (fun v => wrs B (nI y) t v 4) (wpl (fun v => wsu (fun v => wrs B (nI y) t v 4) v 12) (fun v => wsu (fun v => nI (wcs B (nI y) t v 4)) v 12) x0 4095) 12 else if x1 = 1 then wsu (fun v => nI (wcs B (nI y) t v 4)) (wpl (fun v => wsu (fun v => wrs B (nI y) t v 4) v 12) (fun v => wsu (fun v => nI (wcs B (nI y) t v 4)) v 12) x0 4095) 12 else nI (wpl (fun v => wsu (fun v => wrs B (nI y) t v 4) v 12) (fun v => wsu (fun v => nI (wcs B (nI y) t v 4)) v 12) x0 4095), A2, B2, fun d Q => ?_, fun d Q => ?_, p2, r2⟩
  rotate_left
  · simp only [T253, a0, a1, b0, b1, ↓sm_Br_d, ↓reduceIte, sm_Ck_t, mm_zb0, mm_zb1]
    refine (r1 d Q x0 x1 none none none none none none).trans ?_
    have hq := hB d Q none none none
    rw [show ∀ F C, wpl F C x0 0 = 0 from fun _ _ => rfl, wsu_0, wsu_0] at hq
    exact hq
  · simp only [T143, a0, a1, b0, b1, ↓sm_Br_d, ↓reduceIte, sm_Ck_t, mm_zb0, mm_zb1]
    rw [T144]
    refine (m1 d _ none).trans ?_
    refine (p1 d _ none).trans ?_
    rw [sm_push_n, T143_26, T145]
    refine (hA (d + 5) _ none).trans ?_
    obtain ⟨e1, e2⟩ := p3 _ (show wpl (fun v => wsu (fun v => wrs B (nI y) t v 4) v 12) (fun v => wsu (fun v => nI (wcs B (nI y) t v 4)) v 12) x0 4095 < 4096 by omega)
    rw [sm_push_s, T143_31, mm_ck (mm_in (show wpl (fun v => wsu (fun v => wrs B (nI y) t v 4) v 12) (fun v => wsu (fun v => nI (wcs B (nI y) t v 4)) v 12) x0 4095 < 4096 by omega) (by decide)), mm_ck (mm_in (show wpl (fun v => wsu (fun v => wrs B (nI y) t v 4) v 12) (fun v => wsu (fun v => nI (wcs B (nI y) t v 4)) v 12) x0 4095 < 4096 by omega) (by decide)), nI_clamp (show wpl (fun v => wsu (fun v => wrs B (nI y) t v 4) v 12) (fun v => wsu (fun v => nI (wcs B (nI y) t v 4)) v 12) x0 4095 < 2 ^ 31 by omega), e1, e2]
    by_cases c2 : x1 = 2
    · subst c2; rw [mm_bt rfl]; rfl
    · by_cases c0 : x1 = 0
      · subst c0; rw [mm_bf c2, mm_bt rfl]; rfl
      · have c1 : x1 = 1 := by
          obtain ⟨j, hj, rfl, -⟩ := (mm_rg x1 2 (by decide)).resolve_left b0 |>.resolve_left (fun h => b1 h.2.1)
          have h5 : j = 0 ∨ j = 1 ∨ j = 2 := by omega
          rcases h5 with rfl | rfl | rfl
          · exact absurd rfl c0
          · rfl
          · exact absurd rfl c2
        subst c1; rw [mm_bf c2, mm_bf c0]; rfl
