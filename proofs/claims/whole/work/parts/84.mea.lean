/-! meaning: helpers -/
abbrev cl (x : Int32) : Nat := x.toNatClampNeg
abbrev vi (x : Int32) : Option sm_V := some (Sum.inl x)
abbrev vo (f : Nat) : Option sm_V := some (Sum.inr (Sum.inr (some (f, 0))))
theorem mm_in {n N : Nat} (h : n < N) (hN : N < 2 ^ 31) : sm_in (nI n) N = true := sm_in_iff.mpr (nI_in h hN)
theorem mm_d {p : Prop} [Decidable p] (h : p) : decide p = true := decide_eq_true h
theorem mm_n {p : Prop} [Decidable p] (h : ¬ p) : decide p = false := decide_eq_false h
theorem mm_bt {p : Prop} [Decidable p] {A B : Prop} (h : p) : sm_Br (decide p) A B = A := by rw [decide_eq_true h]; rfl
theorem mm_bf {p : Prop} [Decidable p] {A B : Prop} (h : ¬ p) : sm_Br (decide p) A B = B := by rw [decide_eq_false h]; rfl
theorem mm_ck {c : Bool} {A : Prop} (h : c = true) : sm_Ck c A = A := by rw [h]; rfl
theorem mm_cn {p : Prop} [Decidable p] {A : Prop} (h : ¬ p) : sm_Ck (!decide p) A = A := by rw [decide_eq_false h]; rfl
theorem mm_2 : (2 : Int32) = nI 2 := rfl
theorem mm_4 : (4 : Int32) = nI 4 := rfl
/-! the tide -/
def wp (am pe ph h : Nat) : Nat := if 2 * ((h + ph) % pe) < pe then am * (pe - 2 * ((h + ph) % pe)) / pe else am * (2 * ((h + ph) % pe) - pe) / pe
theorem wp_le (am pe ph h : Nat) : wp am pe ph h ≤ am := by
  unfold wp
  rcases Nat.eq_zero_or_pos pe with h0 | h0
  · subst h0; simp
  · have hr := Nat.mod_lt (h + ph) h0
    split
    · exact Nat.div_le_of_le_mul (by rw [Nat.mul_comm pe am]; exact Nat.mul_le_mul_left am (by omega))
    · exact Nat.div_le_of_le_mul (by rw [Nat.mul_comm pe am]; exact Nat.mul_le_mul_left am (by omega))
theorem m25 (d : Nat) {q am pe ph h : Nat} (o2 o3 : Option sm_V) (A : sm_M) (nL : Nat) (Q : sm_Q) (hq : q < 16) (ha : am ≤ 30) (hp : 1 ≤ pe) (hp2 : pe ≤ 40) (hph : ph ≤ 39) (hh : h < 200000) (e0 : A 30 0 q = nI am) (e1 : A 31 0 q = nI pe) (e2 : A 32 0 q = nI ph) :
    sm_W (d + 1) 25 0 [vo 12, vi (nI q), vi (nI h), o2, o3] [] (sm_G0 nL) A Q = Q (vi (nI (wp am pe ph h))) (sm_G0 nL) A := by
  have hr := Nat.mod_lt (h + ph) (show 0 < pe by omega)
  rw [T25, nI_clamp (by omega : q < 2 ^ 31), e0, e1, e2]
  rw [mm_ck (mm_in hq (by decide)), mm_ck (mm_in hq (by decide)), mm_ck (mm_in hq (by decide))]
  rw [show (1 : Int32) = nI 1 from rfl, mm_bf (nI_nlt hp (by omega)), mm_cn (nI_ne0 hp (by omega)), mm_cn (nI_ne0 hp (by omega)), mm_cn (nI_ne0 hp (by omega)), nI_add, pk_rem (by omega) hp (by omega), mm_2, pk_mul]
  unfold wp
  by_cases hc : 2 * ((h + ph) % pe) < pe
  · rw [mm_bt (pk_sneg (by omega) hc), if_pos hc, Int32.neg_sub, pk_sub (by omega), pk_mul, pk_div (Nat.lt_of_le_of_lt (Nat.mul_le_mul ha (show pe - 2 * ((h + ph) % pe) ≤ 40 by omega)) (by decide)) hp (by omega)]
  · rw [pk_sub (by omega), mm_bf (nI_pos (by omega)), if_neg hc, pk_mul, pk_div (Nat.lt_of_le_of_lt (Nat.mul_le_mul ha (show 2 * ((h + ph) % pe) - pe ≤ 40 by omega)) (by decide)) hp (by omega)]
def wpB (B : sm_M) (h q : Nat) : Nat := wp (cl (B 54 0 q)) (cl (B 55 0 q)) (cl (B 56 0 q)) h
def wsum (B : sm_M) (h g : Nat) : Nat → Nat
  | 0 => 0
  | n + 1 => wsum B h g n + wpB B h (4 * g + n)
def wtide (B : sm_M) (c h : Nat) : Nat := if B 57 0 c < 0 then 0 else wsum B h (cl (B 57 0 c)) (cl (B 53 0 (cl (B 57 0 c))))
def IB_sea (B : sm_M) : Prop := (∀ g, g < 4 → ∃ n, n ≤ 4 ∧ B 53 0 g = nI n ∧ ∀ i, i < n → ∃ am pe ph, am ≤ 30 ∧ 1 ≤ pe ∧ pe ≤ 40 ∧ ph ≤ 39 ∧ B 54 0 (4 * g + i) = nI am ∧ B 55 0 (4 * g + i) = nI pe ∧ B 56 0 (4 * g + i) = nI ph) ∧ (∀ c, c < 48 → B 57 0 c = -1 ∨ ∃ g, g < 4 ∧ B 57 0 c = nI g)
def IP_sea (A B : sm_M) : Prop := (∀ g, g < 4 → A 29 0 g = B 53 0 g) ∧ (∀ q, q < 16 → A 30 0 q = B 54 0 q ∧ A 31 0 q = B 55 0 q ∧ A 32 0 q = B 56 0 q) ∧ (∀ c, c < 48 → A 27 0 c = B 57 0 c ∧ A 28 0 c = B 58 0 c)
theorem wsum_le {B : sm_M} {h g m : Nat} (hm : ∀ i, i < m → cl (B 54 0 (4 * g + i)) ≤ 30) : wsum B h g m ≤ 30 * m := by
  induction m with
  | zero => exact Nat.zero_le _
  | succ m ih =>
    have h1 := ih (fun i hi => hm i (by omega))
    have h2 := wp_le (cl (B 54 0 (4 * g + m))) (cl (B 55 0 (4 * g + m))) (cl (B 56 0 (4 * g + m))) h
    have h3 := hm m (by omega)
    show wsum B h g m + wpB B h (4 * g + m) ≤ 30 * (m + 1)
    unfold wpB; omega
theorem m24_33 (d : Nat) (o0 : Option sm_V) {A B : sm_M} (hP : IP_sea A B) {g h n : Nat} (hg : g < 4) (hh : h < 200000) (hn : n ≤ 4) (en : B 53 0 g = nI n) (hB : ∀ i, i < n → ∃ am pe ph, am ≤ 30 ∧ 1 ≤ pe ∧ pe ≤ 40 ∧ ph ≤ 39 ∧ B 54 0 (4 * g + i) = nI am ∧ B 55 0 (4 * g + i) = nI pe ∧ B 56 0 (4 * g + i) = nI ph) (nL : Nat) (Q : sm_Q) : ∀ (j i : Nat), i + j = n →
    sm_W (d + 2) 24 33 [vo 12, o0, vi (nI h), vi (nI g), vi (nI (wsum B h g i)), vi (nI i)] [] (sm_G0 nL) A Q = Q (vi (nI (wsum B h g n))) (sm_G0 nL) A := by
  intro j
  induction j with
  | zero =>
    intro i hi
    have hi' : i = n := by omega
    subst hi'
    rw [T24_33, mm_ck (mm_in hg (by decide)), nI_clamp (by omega), hP.1 g hg, en, mm_bf (nI_nlt (Nat.le_refl _) (by omega))]
  | succ j ih =>
    intro i hi
    obtain ⟨am, pe, ph, ha, hp, hp2, hph, e0, e1, e2⟩ := hB i (by omega)
    have hq := hP.2.1 (4 * g + i) (by omega)
    rw [T24_33, mm_ck (mm_in hg (by decide)), nI_clamp (by omega), hP.1 g hg, en, mm_bt (nI_lt (by omega) (by omega)), mm_4, mm_bt (nI_lt (by omega) (by omega)), pk_mul, nI_add]
    rw [m25 d none none A nL _ (by omega) ha hp hp2 hph hh (hq.1.trans e0) (hq.2.1.trans e1) (hq.2.2.trans e2), sm_push_s, T24_63, nI_add, nI_1]
    have := ih (i + 1) (by omega)
    rw [show wsum B h g (i + 1) = wsum B h g i + wp am pe ph h from by
      show wsum B h g i + wpB B h (4 * g + i) = _
      unfold wpB cl; rw [e0, e1, e2, nI_clamp (by omega), nI_clamp (by omega), nI_clamp (by omega)]] at this
    exact this
theorem m24 (d : Nat) (o2 o3 o4 : Option sm_V) {A B : sm_M} (hI : IB_sea B) (hP : IP_sea A B) {c h : Nat} (hc : c < 48) (hh : h < 200000) (nL : Nat) (Q : sm_Q) :
    sm_W (d + 2) 24 0 [vo 12, vi (nI c), vi (nI h), o2, o3, o4] [] (sm_G0 nL) A Q = Q (vi (nI (wtide B c h))) (sm_G0 nL) A := by
  rw [T24, mm_bf (nI_pos (by omega)), show (48 : Int32) = nI 48 from rfl, mm_bt (nI_lt hc (by decide)), mm_ck (mm_in hc (by decide)), nI_clamp (by omega), (hP.2.2 c hc).1]
  unfold wtide cl
  rcases hI.2 c hc with e | ⟨g, hg, e⟩
  · rw [e, mm_bt (by decide), if_pos (by decide)]; rfl
  · obtain ⟨n, hn, en, hB⟩ := hI.1 g hg
    rw [e, mm_bf (nI_pos (by omega)), mm_4, mm_bt (nI_lt hg (by decide)), if_neg (nI_pos (by omega)), nI_clamp (by omega), en, nI_clamp (by omega)]
    exact m24_33 d _ hP hg hh hn en hB nL Q n 0 (by omega)
theorem r173_13 (d : Nat) (o0 : Option sm_V) {B : sm_M} {g h n : Nat} (hg : g < 4) (hh : h < 200000) (hn : n ≤ 4) (en : B 53 0 g = nI n) (hB : ∀ i, i < n → ∃ am pe ph, am ≤ 30 ∧ 1 ≤ pe ∧ pe ≤ 40 ∧ ph ≤ 39 ∧ B 54 0 (4 * g + i) = nI am ∧ B 55 0 (4 * g + i) = nI pe ∧ B 56 0 (4 * g + i) = nI ph) (nL : Nat) (Q : sm_Q) : ∀ (j i : Nat) (o5 : Option sm_V), i + j = n →
    sm_W (d + 1) 173 13 [vo 11, o0, vi (nI h), vi (nI g), vi (nI (wsum B h g i)), vi (nI i), o5] [] (sm_G0 nL) B Q = Q (vi (nI (wsum B h g n))) (sm_G0 nL) B := by
  intro j
  induction j with
  | zero =>
    intro i o5 hi
    have hi' : i = n := by omega
    subst hi'
    rw [T173_13, mm_bf (nI_pos (by omega)), mm_ck (mm_in hg (by decide)), nI_clamp (by omega), en, mm_bf (nI_nlt (Nat.le_refl _) (by omega))]
  | succ j ih =>
    intro i o5 hi
    obtain ⟨am, pe, ph, ha, hp, hp2, hph, e0, e1, e2⟩ := hB i (by omega)
    have hr := Nat.mod_lt (h + ph) (show 0 < pe by omega)
    have h3 := ih (i + 1) (vi (nI (4 * g + i))) (by omega)
    rw [show wsum B h g (i + 1) = wsum B h g i + wp am pe ph h from by
      show wsum B h g i + wpB B h (4 * g + i) = _
      unfold wpB cl; rw [e0, e1, e2, nI_clamp (by omega), nI_clamp (by omega), nI_clamp (by omega)]] at h3
    have hI : sm_in (nI (4 * g + i)) 16 = true := mm_in (by omega) (by decide)
    have hz : ¬ nI pe = 0 := nI_ne0 hp (by omega)
    rw [T173_13, mm_bf (nI_pos (by omega)), mm_ck (mm_in hg (by decide)), nI_clamp (by omega : g < 2 ^ 31), en, mm_bt (nI_lt (by omega) (by omega)), mm_4, mm_2, pk_mul, nI_add (4 * g) i, nI_clamp (by omega : 4 * g + i < 2 ^ 31), e0, e1, e2, nI_add h ph, pk_rem (by omega) hp (by omega), pk_mul]
    simp only [mm_ck hI, mm_cn hz]
    by_cases hc : 2 * ((h + ph) % pe) < pe
    · have hw : wp am pe ph h = am * (pe - 2 * ((h + ph) % pe)) / pe := if_pos hc
      rw [hw] at h3
      rw [mm_bt (nI_lt hc (by omega)), pk_sub (by omega), pk_mul, pk_div (Nat.lt_of_le_of_lt (Nat.mul_le_mul ha (show pe - 2 * ((h + ph) % pe) ≤ 40 by omega)) (by decide)) hp (by omega), nI_add, nI_1]
      exact h3
    · have hw : wp am pe ph h = am * (2 * ((h + ph) % pe) - pe) / pe := if_neg hc
      rw [hw] at h3
      rw [mm_bf (nI_nlt (by omega) (by omega)), pk_sub (by omega : pe ≤ 2 * ((h + ph) % pe)), pk_mul, pk_div (Nat.lt_of_le_of_lt (Nat.mul_le_mul ha (show 2 * ((h + ph) % pe) - pe ≤ 40 by omega)) (by decide)) hp (by omega), nI_add, nI_1]
      exact h3
theorem r173 (d : Nat) (o2 o3 o4 o5 : Option sm_V) {B : sm_M} (hI : IB_sea B) {c h : Nat} (hc : c < 48) (hh : h < 200000) (nL : Nat) (Q : sm_Q) :
    sm_W (d + 1) 173 0 [vo 11, vi (nI c), vi (nI h), o2, o3, o4, o5] [] (sm_G0 nL) B Q = Q (vi (nI (wtide B c h))) (sm_G0 nL) B := by
  rw [T173, mm_ck (mm_in hc (by decide)), nI_clamp (by omega)]
  unfold wtide cl
  rcases hI.2 c hc with e | ⟨g, hg, e⟩
  · rw [e, T173_13, mm_bt (by decide), if_pos (by decide)]; rfl
  · obtain ⟨n, hn, en, hB⟩ := hI.1 g hg
    rw [e, if_neg (nI_pos (by omega)), nI_clamp (by omega), en, nI_clamp (by omega)]
    exact r173_13 d _ hg hh hn en hB nL Q n 0 o5 (by omega)
theorem mm_ix (x : Int32) (n : Nat) (hn : n < 2 ^ 31) : x < 0 ∨ (¬ x < 0 ∧ nI n < x) ∨ ∃ j : Nat, j ≤ n ∧ x = nI j := by
  by_cases h : x < 0
  · exact .inl h
  · obtain ⟨j, hj, e⟩ := nI_of h
    subst e
    by_cases hc : j ≤ n
    · exact .inr (.inr ⟨j, hc, rfl⟩)
    · exact .inr (.inl ⟨h, nI_lt (by omega) hj⟩)
theorem mm_gt {x : Int32} {n : Nat} (hn : n + 1 < 2 ^ 31) (h : nI n < x) (h0 : ¬ x < 0) : ¬ x < nI (n + 1) := by
  obtain ⟨j, hj, e⟩ := nI_of h0
  subst e
  rw [nI_ltI (by omega) hj] at h
  exact nI_nlt (by omega) hj
theorem mm_lt {x : Int32} {n j : Nat} (hj : j ≤ n) (hn : n < 2 ^ 31) : ¬ nI n < nI j := nI_nlt hj hn
theorem mm_zb0 : sm_zb 0 = true := by decide
theorem mm_zb1 : sm_zb 1 = true := by decide
theorem p22 {A B : sm_M} (hI : IB_sea B) (hP : IP_sea A B) (x0 x1 : Int32) (nL : Nat) : ∃ r : Int32, (∀ d Q, sm_W (d + 3) 22 0 [vo 10, vi x0, vi x1] [] (sm_G0 nL) A Q = Q (vi r) (sm_G0 nL) A) ∧ (∀ d Q, sm_W (d + 2) 171 0 [vo 11, vi x0, vi x1] [] (sm_G0 nL) B Q = Q (vi r) (sm_G0 nL) B) := by
  rcases mm_ix x0 47 (by decide) with h | ⟨h0, h⟩ | ⟨c, hc, rfl⟩
  · exact ⟨-1000000, fun d Q => by rw [T22, mm_bt h], fun d Q => by rw [T171, mm_bt h, mm_ck mm_zb0]⟩
  · have h2 : ¬ x0 < 48 := mm_gt (by decide) h h0
    have h3 : (47 : Int32) < x0 := h
    exact ⟨-1000000, fun d Q => by rw [T22, mm_bf h0, mm_bf h2], fun d Q => by rw [T171, mm_bf h0, mm_bt h3, mm_ck mm_zb0]⟩
  have c0 : ¬ nI c < 0 := nI_pos (by omega)
  have c1 : nI c < 48 := nI_lt (show c < 48 by omega) (by decide)
  have c2 : ¬ (47 : Int32) < nI c := nI_nlt hc (by decide)
  rcases mm_ix x1 99999 (by decide) with h | ⟨h0, h⟩ | ⟨i, hi, rfl⟩
  · exact ⟨-1000000, fun d Q => by rw [T22, mm_bf c0, mm_bt c1, mm_bt h], fun d Q => by rw [T171, mm_bf c0, mm_bf c2, mm_ck mm_zb1, mm_bt h, mm_ck mm_zb0]⟩
  · have h3 : (99999 : Int32) < x1 := h
    exact ⟨-1000000, fun d Q => by rw [T22, mm_bf c0, mm_bt c1, mm_bf h0, mm_bt h3], fun d Q => by rw [T171, mm_bf c0, mm_bf c2, mm_ck mm_zb1, mm_bf h0, mm_bt h3, mm_ck mm_zb0]⟩
  have i0 : ¬ nI i < 0 := nI_pos (by omega)
  have i2 : ¬ (99999 : Int32) < nI i := nI_nlt hi (by decide)
  exact ⟨nI (wtide B c i), fun d Q => by rw [T22, mm_bf c0, mm_bt c1, mm_bf i0, mm_bf i2, m24 d none none none hI hP (by omega) (by omega) nL, sm_push_s, T22_26],
    fun d Q => by rw [T171, mm_bf c0, mm_bf c2, mm_ck mm_zb1, mm_bf i0, mm_bf i2, mm_ck mm_zb1, r173 d none none none none hI (by omega) (by omega) nL, sm_push_s]; exact T171_20 _ _ _ _ _ _ _ _⟩
