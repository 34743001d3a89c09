/-! bare -/
def wbr (B : sm_M) (w f : Int32) (cc : Nat) (y : Int32) (t n : Nat) : Nat → Nat
  | 0 => 0
  | c + 1 => if 1 < wdist c cc then wbr B w f cc y t n c else if wcv B w f (nI c) y (t - (n + 1)) (n + 1) = true then wbr B w f cc y t n c else wbr B w f cc y t n c + 1
theorem wbr_le {B : sm_M} {w f y : Int32} {cc t n : Nat} : ∀ c, wbr B w f cc y t n c ≤ c
  | 0 => Nat.le_refl _
  | c + 1 => by
    have h := wbr_le (B := B) (w := w) (f := f) (y := y) (cc := cc) (t := t) (n := n) c
    unfold wbr
    split
    · omega
    · split <;> omega
theorem wdist_lt {a b : Nat} (ha : a < 2 ^ 20) (hb : b < 2 ^ 20) : wdist a b < 2 ^ 21 := by
  unfold wdist wmx wad
  split <;> split <;> split <;> omega
theorem m47 {A B : sm_M} (d nL : Nat) {t s n m cc : Nat} (hD : J_day A B) (hn : n < t) (ht : t ≤ 90) (hs : s ≤ 12) (ta : A 14 0 3 = nI t) (tn : A 42 n 0 = nI n) (es : A 14 0 1 = nI s) (hT : ∀ i, i < t → K_thg A B s i) (hK : K_srv A B s) (hm : m ≤ 10) (ea : A 13 0 1 = nI m) (hKr : ∀ r, r < m → K_rul A B r) (h0 : A 34 0 0 = -1 ∧ A 34 0 2 = 999 ∧ A 34 0 3 = 0 ∧ A 34 0 4 = 0 ∧ A 34 0 5 = 999 ∧ A 34 0 6 = 210 ∧ A 34 0 7 = 0) (hcc : cc < 48) (ecc : B 60 0 n = nI cc) (Q : sm_Q) : sm_W (d + 3) 47 0 [vo 10, some (Sum.inr (Sum.inr (some (42, n)))), none, none, none] [] (sm_G0 nL) A Q = Q (vi (nI (wbr B (wcl B (wrule B (B 11 0 1) m) 2) (B 62 0 n) cc (B 11 0 1) t n 48))) (sm_G0 nL) A := by
  obtain ⟨dA, y, hy, dB⟩ := hD
  obtain ⟨e0, e1, e2, e3, e4, e5, e6⟩ := wA_eq hKr h0 (B 11 0 1)
  obtain ⟨k1, k2, k3, k4, k5, k6, -⟩ := hT n hn
  rw [T47, dA, m48e (d + 2) nL (B 11 0 1) none none hm ea hKr]
  generalize wrule B (B 11 0 1) m = o at e3 ⊢
  have lp : ∀ j c, c + j = 48 → sm_W (d + 3) 47 20 [vo 10, some (Sum.inr (Sum.inr (some (42, n)))), vi (wcl B o 2), vi (nI (wbr B (wcl B o 2) (B 62 0 n) cc (B 11 0 1) t n c)), vi (nI c)] [] (sm_G0 nL) A Q = Q (vi (nI (wbr B (wcl B o 2) (B 62 0 n) cc (B 11 0 1) t n 48))) (sm_G0 nL) A := by
    intro j
    induction j with
    | zero =>
      intro c hc
      have hc' : c = 48 := by omega
      subst hc'
      rw [T47_20, mm_bf (by decide)]
    | succ j ih =>
      intro c hc
      have h3 := ih (c + 1) (by omega)
      have c48 : nI c < (48 : Int32) := nI_lt (show c < 48 by omega) (by decide)
      have hd := wdist_lt (show c < 2 ^ 20 by omega) (show cc < 2 ^ 20 by omega)
      have h1d : ((1 : Int32) < nI (wdist c cc)) = (1 < wdist c cc) := propext (nI_ltI (a := 1) (by omega) (by omega))
      rw [T47_20, mm_bt c48, k2, ecc, m49 (d + 1) (by omega) (by omega), sm_push_s, T47_36]
      simp only [nI_1]
      have hw : wbr B (wcl B o 2) (B 62 0 n) cc (B 11 0 1) t n (c + 1) = if 1 < wdist c cc then wbr B (wcl B o 2) (B 62 0 n) cc (B 11 0 1) t n c else if wcv B (wcl B o 2) (B 62 0 n) (nI c) (B 11 0 1) (t - (n + 1)) (n + 1) = true then wbr B (wcl B o 2) (B 62 0 n) cc (B 11 0 1) t n c else wbr B (wcl B o 2) (B 62 0 n) cc (B 11 0 1) t n c + 1 := rfl
      by_cases g : 1 < wdist c cc
      · rw [hw, if_pos g] at h3
        rw [mm_bt (h1d.mpr g)]; exact h3
      · rw [hw, if_neg g] at h3
        rw [mm_bf (fun h => g (h1d.mp h)), T51, tn, dA, nI_1]
        refine (m51 d nL ht hs ta es hT hK k4 _ (t - (n + 1)) (n + 1) none (by omega)).trans ?_
        rw [sm_push_s, T47_55]
        simp only [nI_1]
        cases hcv : wcv B (wcl B o 2) (B 62 0 n) (nI c) (B 11 0 1) (t - (n + 1)) (n + 1) with
        | false => rw [hcv] at h3; rw [mm_bt (by decide)]; exact h3
        | true => rw [hcv] at h3; rw [mm_bf (by decide)]; exact h3
  have fin : ∀ (f4 i5 : Nat), Nat.beq (sm_fc f4) 4 = true → A f4 i5 4 = wcl B o 2 → sm_W (d + 3) 47 11 [vo 10, some (Sum.inr (Sum.inr (some (42, n)))), none, none, none] [Sum.inr (Sum.inr (some (f4, i5)))] (sm_G0 nL) A Q = Q (vi (nI (wbr B (wcl B o 2) (B 62 0 n) cc (B 11 0 1) t n 48))) (sm_G0 nL) A := fun f4 i5 hf hv => by
    rw [T47_11, mm_ck hf, hv]; exact lp 48 0 (by omega)
  cases o with
  | none => exact fin 34 0 rfl e3
  | some k => exact fin 36 k rfl e3
theorem r188 {B : sm_M} (d nL : Nat) {t s n m cc : Nat} (hn : n < t) (ht : t ≤ 90) (hs : s ≤ 12) (tb : B 11 0 13 = nI t) (hT : ∀ i, i < t → ∃ v, v < s ∧ B 61 0 i = nI v) (hm : m ≤ 10) (eb : B 11 0 27 = nI m) (hcc : cc < 48) (ecc : B 60 0 n = nI cc) (Q : sm_Q) : sm_W (d + 3) 188 0 [vo 11, vi (nI n), none, none] [] (sm_G0 nL) B Q = Q (vi (nI (wbr B (wcl B (wrule B (B 11 0 1) m) 2) (B 62 0 n) cc (B 11 0 1) t n 48))) (sm_G0 nL) B := by
  have en : sm_in (nI n) 90 = true := mm_in (by omega) (by decide)
  have nc : (nI n).toNatClampNeg = n := nI_clamp (by omega)
  have lp : ∀ j c, c + j = 48 → sm_W (d + 3) 188 4 [vo 11, vi (nI n), vi (nI (wbr B (wcl B (wrule B (B 11 0 1) m) 2) (B 62 0 n) cc (B 11 0 1) t n c)), vi (nI c)] [] (sm_G0 nL) B Q = Q (vi (nI (wbr B (wcl B (wrule B (B 11 0 1) m) 2) (B 62 0 n) cc (B 11 0 1) t n 48))) (sm_G0 nL) B := by
    intro j
    induction j with
    | zero =>
      intro c hc
      have hc' : c = 48 := by omega
      subst hc'
      rw [T188_4, mm_bf (by decide)]
    | succ j ih =>
      intro c hc
      have h3 := ih (c + 1) (by omega)
      have c48 : nI c < (48 : Int32) := nI_lt (show c < 48 by omega) (by decide)
      have hd := wdist_lt (show c < 2 ^ 20 by omega) (show cc < 2 ^ 20 by omega)
      have h1d : ((1 : Int32) < nI (wdist c cc)) = (1 < wdist c cc) := propext (nI_ltI (a := 1) (by omega) (by omega))
      rw [T188_4, mm_bt c48, mm_ck en, nc, ecc, r189 (d + 1) (by omega) (by omega), sm_push_s, T188_21]
      simp only [nI_1, Int32.add_zero]
      have hw : wbr B (wcl B (wrule B (B 11 0 1) m) 2) (B 62 0 n) cc (B 11 0 1) t n (c + 1) = if 1 < wdist c cc then wbr B (wcl B (wrule B (B 11 0 1) m) 2) (B 62 0 n) cc (B 11 0 1) t n c else if wcv B (wcl B (wrule B (B 11 0 1) m) 2) (B 62 0 n) (nI c) (B 11 0 1) (t - (n + 1)) (n + 1) = true then wbr B (wcl B (wrule B (B 11 0 1) m) 2) (B 62 0 n) cc (B 11 0 1) t n c else wbr B (wcl B (wrule B (B 11 0 1) m) 2) (B 62 0 n) cc (B 11 0 1) t n c + 1 := rfl
      by_cases g : 1 < wdist c cc
      · rw [hw, if_pos g] at h3
        rw [mm_bt (h1d.mpr g)]; exact h3
      · rw [hw, if_neg g] at h3
        rw [mm_bf (fun h => g (h1d.mp h)), T190]
        refine (r191 d nL (B 11 0 1) (j := 2) (by decide) none hm eb _).trans ?_
        rw [sm_push_s, T190_9, nI_1]
        refine (r190 d nL ht hs (show n < 90 by omega) tb rfl hT _ (t - (n + 1)) (n + 1) (by omega)).trans ?_
        rw [sm_push_s, T188_31]
        simp only [nI_1, Int32.add_zero]
        cases hcv : wcv B (wcl B (wrule B (B 11 0 1) m) 2) (B 62 0 n) (nI c) (B 11 0 1) (t - (n + 1)) (n + 1) with
        | false => rw [hcv] at h3; rw [mm_bt (by decide)]; exact h3
        | true => rw [hcv] at h3; rw [mm_bf (by decide)]; exact h3
  rw [T188]; exact lp 48 0 (by omega)
theorem J_srvK {A B : sm_M} (h : J_srv A B) : ∃ s, s ≤ 12 ∧ A 14 0 1 = nI s ∧ B 11 0 3 = nI s ∧ K_srv A B s := by
  obtain ⟨se, s, hs, es, hK⟩ := h
  exact ⟨s, hs, se.trans es, es, hK⟩
theorem p46 {A B : sm_M} (hD : J_day A B) (hS : J_srv A B) (hG : J_thg A B) (hR : J_rul A B) (x0 : Int32) (nL : Nat) : ∃ r, (∀ d Q, sm_W (d + 4) 46 0 [vo 10, vi x0, none] [] (sm_G0 nL) A Q = Q (vi r) (sm_G0 nL) A) ∧ (∀ d Q, sm_W (d + 4) 187 0 [vo 11, vi x0] [] (sm_G0 nL) B Q = Q (vi r) (sm_G0 nL) B) := by
  obtain ⟨s, hs, sa, sb, hKs⟩ := J_srvK hS
  obtain ⟨t, s', ht, hs', ta, tb, es', tn, hK, -⟩ := hG
  have : s' = s := by
    have := (nI_eq (a := s') (b := s) (by omega) (by omega)).mp (es'.symm.trans sb)
    exact this
  subst this
  obtain ⟨n, hn, ea, eb, hKr, h0⟩ := hR
  rcases mm_sv x0 t (by omega) with h | ⟨h0, h1, h2⟩ | ⟨i, hi, rfl, v0, v1, v2⟩
  · exact ⟨-1, fun d Q => by rw [T46, m42n ta (.inl h), sm_push_s, T46_8a], fun d Q => by rw [T187, mm_bt h, mm_ck mm_zb0]⟩
  · exact ⟨-1, fun d Q => by rw [T46, m42n ta (.inr ⟨h0, h1⟩), sm_push_s, T46_8a], fun d Q => by rw [T187, mm_bf h0, tb, mm_bt h2, mm_ck mm_zb0]⟩
  obtain ⟨k1, k2, k3, k4, k5, k6, k7, ⟨cc, hcc, ecc⟩, -⟩ := hK i hi
  have ei : sm_in (nI i) 90 = true := mm_in (by omega) (by decide)
  have ec : (nI i).toNatClampNeg = i := nI_clamp (by omega)
  by_cases e3 : B 59 0 i = 3
  rotate_left
  · exact ⟨-2, fun d Q => by rw [T46, m42s ta ht hi, sm_push_s, T46_8, k1, mm_bf e3], fun d Q => by rw [T187, mm_bf v0, tb, mm_bf v2, mm_ck mm_zb1, mm_ck ei, ec, mm_bf e3]⟩
  by_cases he : B 64 0 i < 0
  rotate_left
  · exact ⟨-3, fun d Q => by rw [T46, m42s ta ht hi, sm_push_s, T46_8, k1, mm_bt e3, k6, mm_bf he], fun d Q => by rw [T187, mm_bf v0, tb, mm_bf v2, mm_ck mm_zb1, mm_ck ei, ec, mm_bt e3, mm_ck ei, mm_bf he]⟩
  refine ⟨nI (wbr B (wcl B (wrule B (B 11 0 1) n) 2) (B 62 0 i) cc (B 11 0 1) t i 48), fun d Q => ?_, fun d Q => ?_⟩
  · rw [T46, m42s ta ht hi, sm_push_s, T46_8, k1, mm_bt e3, k6, mm_bt he, m47 d nL hD hi ht hs ta (tn i (by omega)) sa hK hKs hn ea hKr h0 hcc ecc, sm_push_s, T46_41]
  · rw [T187, mm_bf v0, tb, mm_bf v2, mm_ck mm_zb1, mm_ck ei, ec, mm_bt e3, mm_ck ei, mm_bt he, r188 d nL hi ht hs tb (fun j hj => (hK j hj).2.2.2.2.2.2.2.2.1) hn eb hcc ecc, sm_push_s, T187_42]
/-! strike -/
def EAdd (A B A' B' : sm_M) : Prop := ∃ t s i k v c ft, A' = aA (aE A i) t (nI k) (nI v) (nI c) ft ∧ B' = aB0 (bE B i) t (nI k) (nI v) (nI c) ft ∧ B 11 0 13 = nI t ∧ t < 90 ∧ i < t ∧ B 64 0 i < 0 ∧ B 11 0 3 = nI s ∧ s ≤ 12 ∧ 1 ≤ k ∧ k ≤ 6 ∧ v < s ∧ c < 48 ∧ (¬ ft < -99 ∧ ¬ 999 < ft)
theorem EAdd_thg {A B A' B' : sm_M} (h : EAdd A B A' B') (hT : J_thg A B) (hD : J_day A B) : J_thg A' B' := by
  obtain ⟨t, s, i, k, v, c, ft, rfl, rfl, tb, ht, hi, he, es, hs, hk1, hk, hv, hc, hf⟩ := h
  exact J_thg_add0 (J_thg_end hT hD tb (by omega) hi) hD tb es ht hs hk1 hk hv hc hf
theorem EAdd_tel {A B A' B' : sm_M} {m : Nat} (h : EAdd A B A' B') (hT : J_tel 0 m A B) (hD : J_day A B) (hm : m < 2 ^ 30) : J_tel 1 (m + 1) A' B' := by
  obtain ⟨t, s, i, k, v, c, ft, rfl, rfl, tb, ht, hi, he, es, hs, hk1, hk, hv, hc, hf⟩ := h
  exact J_tel_add0 (J_tel_end hT hD tb (by omega) hi he) tb ht (J_tel_c hT hm) _ _ _ _
theorem p55 {A B : sm_M} (hD : J_day A B) (hS : J_srv A B) (hG : J_thg A B) (hR : J_rul A B) (x0 x1 : Int32) (nL : Nat) : ∃ r A' B', (∀ d Q, sm_W (d + 4) 55 0 [vo 10, vi x0, vi x1, none, none] [] (sm_G0 nL) A Q = Q (vi r) (sm_G0 nL) A') ∧ (∀ d Q, sm_W (d + 4) 194 0 [vo 11, vi x0, vi x1] [] (sm_G0 nL) B Q = Q (vi r) (sm_G0 nL) B') ∧ ((A' = A ∧ B' = B) ∨ EAdd A B A' B') := by
  obtain ⟨s, hs, sa, sb, hKs⟩ := J_srvK hS
  obtain ⟨t, s', ht, hs', ta, tb, es', tn, hK, -⟩ := hG
  have : s' = s := by
    have := (nI_eq (a := s') (b := s) (by omega) (by omega)).mp (es'.symm.trans sb)
    exact this
  subst this
  obtain ⟨n, hn, ea, eb, hKr, h0⟩ := hR
  rcases mm_sv x0 t (by omega) with h | ⟨h0, h1, h2⟩ | ⟨i, hi, rfl, v0, v1, v2⟩
  · exact ⟨-1, A, B, fun d Q => by rw [T55, m42n ta (.inl h), sm_push_s, T55_8a], fun d Q => by rw [T194, mm_bt h, mm_ck mm_zb0], .inl ⟨rfl, rfl⟩⟩
  · exact ⟨-1, A, B, fun d Q => by rw [T55, m42n ta (.inr ⟨h0, h1⟩), sm_push_s, T55_8a], fun d Q => by rw [T194, mm_bf h0, tb, mm_bt h2, mm_ck mm_zb0], .inl ⟨rfl, rfl⟩⟩
  obtain ⟨k1, k2, k3, k4, k5, k6, k7, ⟨cc, hcc, ecc⟩, -⟩ := hK i hi
  have ei : sm_in (nI i) 90 = true := mm_in (by omega) (by decide)
  have ec : (nI i).toNatClampNeg = i := nI_clamp (by omega)
  rcases mm_sv x1 s' (by omega) with h | ⟨g0, g1, g2⟩ | ⟨q, hq, rfl, u0, u1, u2⟩
  · exact ⟨-1, A, B, fun d Q => by rw [T55, m42s ta ht hi, sm_push_s, T55_8, mm_bt h], fun d Q => by rw [T194, mm_bf v0, tb, mm_bf v2, mm_ck mm_zb1, mm_bt h, mm_ck mm_zb0], .inl ⟨rfl, rfl⟩⟩
  · exact ⟨-1, A, B, fun d Q => by rw [T55, m42s ta ht hi, sm_push_s, T55_8, mm_bf g0, sa, mm_bf g1], fun d Q => by rw [T194, mm_bf v0, tb, mm_bf v2, mm_ck mm_zb1, mm_bf g0, sb, mm_bt g2, mm_ck mm_zb0], .inl ⟨rfl, rfl⟩⟩
  obtain ⟨q0, q1, q2, q3, q4, q5⟩ := mm_six hq hs
  by_cases e3 : B 59 0 i = 3
  rotate_left
  · exact ⟨-2, A, B, fun d Q => by rw [T55, m42s ta ht hi, sm_push_s, T55_8, mm_bf q0, sa, mm_bt q1, mm_bt q2, mm_ck q3, k1, mm_bf e3], fun d Q => by rw [T194, mm_bf v0, tb, mm_bf v2, mm_ck mm_zb1, mm_bf q0, sb, mm_bf q5, mm_ck mm_zb1, mm_ck ei, ec, mm_bf e3], .inl ⟨rfl, rfl⟩⟩
  by_cases he : B 64 0 i < 0
  rotate_left
  · exact ⟨-3, A, B, fun d Q => by rw [T55, m42s ta ht hi, sm_push_s, T55_8, mm_bf q0, sa, mm_bt q1, mm_bt q2, mm_ck q3, k1, mm_bt e3, k6, mm_bf he], fun d Q => by rw [T194, mm_bf v0, tb, mm_bf v2, mm_ck mm_zb1, mm_bf q0, sb, mm_bf q5, mm_ck mm_zb1, mm_ck ei, ec, mm_bt e3, mm_ck ei, mm_bf he], .inl ⟨rfl, rfl⟩⟩
  have hw := wbr_le (B := B) (w := wcl B (wrule B (B 11 0 1) n) 2) (f := B 62 0 i) (y := B 11 0 1) (cc := cc) (t := t) (n := i) 48
  have kA : ∀ d Q, sm_W (d + 4) 55 0 [vo 10, vi (nI i), vi (nI q), none, none] [] (sm_G0 nL) A Q = sm_W (d + 4) 55 49 [vo 10, vi (nI i), vi (nI q), some (Sum.inr (Sum.inr (some (42, i)))), none] [Sum.inl (nI (wbr B (wcl B (wrule B (B 11 0 1) n) 2) (B 62 0 i) cc (B 11 0 1) t i 48))] (sm_G0 nL) A Q := fun d Q => by
    rw [T55, m42s ta ht hi, sm_push_s, T55_8, mm_bf q0, sa, mm_bt q1, mm_bt q2, mm_ck q3, k1, mm_bt e3, k6, mm_bt he, m47 d nL hD hi ht hs ta (tn i (by omega)) sa hK hKs hn ea hKr h0 hcc ecc, sm_push_s]
  have kB : ∀ d Q, sm_W (d + 4) 194 0 [vo 11, vi (nI i), vi (nI q)] [] (sm_G0 nL) B Q = sm_W (d + 4) 194 45 [vo 11, vi (nI i), vi (nI q)] [Sum.inl (nI (wbr B (wcl B (wrule B (B 11 0 1) n) 2) (B 62 0 i) cc (B 11 0 1) t i 48))] (sm_G0 nL) B Q := fun d Q => by
    rw [T194, mm_bf v0, tb, mm_bf v2, mm_ck mm_zb1, mm_bf q0, sb, mm_bf q5, mm_ck mm_zb1, mm_ck ei, ec, mm_bt e3, mm_ck ei, mm_bt he, r188 d nL hi ht hs tb (fun j hj => (hK j hj).2.2.2.2.2.2.2.2.1) hn eb hcc ecc, sm_push_s]
  generalize wbr B (wcl B (wrule B (B 11 0 1) n) 2) (B 62 0 i) cc (B 11 0 1) t i 48 = z at hw kA kB
  by_cases hz : 0 < nI z
  · exact ⟨-3, A, B, fun d Q => by rw [kA, T55_49, mm_bt hz], fun d Q => by rw [kB, T194_45, mm_bt hz], .inl ⟨rfl, rfl⟩⟩
  by_cases hfu : t = 90
  · subst hfu
    exact ⟨-4, A, B, fun d Q => by rw [kA, T55_49, mm_bf hz, ta, mm_bf (by decide), mm_bt (by decide)], fun d Q => by rw [kB, T194_45, mm_bf hz, tb, mm_bt (by decide)], .inl ⟨rfl, rfl⟩⟩
  have n1 : nI t < (90 : Int32) := nI_lt (show t < 90 by omega) (by decide)
  have n2 : ¬ nI t = (90 : Int32) := fun h => hfu ((nI_eq (by omega) (by decide)).mp (show nI t = nI 90 from h))
  have ti : sm_in (nI t) 90 = true := mm_in (by omega) (by decide)
  have tc : (nI t).toNatClampNeg = t := nI_clamp (by omega)
  refine ⟨nI t, aA (aE A i) t (nI 6) (nI q) (nI cc) 0, aB0 (bE B i) t (nI 6) (nI q) (nI cc) 0, fun d Q => ?_, fun d Q => ?_, .inr ⟨t, s', i, 6, q, cc, 0, rfl, rfl, tb, by omega, hi, he, sb, hs, by omega, by omega, hq, hcc, by decide, by decide⟩⟩
  · rw [kA, T55_49, mm_bf hz, ta, mm_bt n1, mm_ck ti, tc, nI_1, k2, ecc]
    have hr : sm_u (sm_u (sm_u (sm_u (sm_u (sm_u A 42 t 1 (6 : Int32)) 42 t 3 (nI q)) 42 t 2 (nI cc)) 42 t 4 (0 : Int32)) 42 t 5 (A 10 0 0)) 42 t 7 (A 14 0 5) 42 t 0 = nI t := by
      rw [← tn t (by omega)]; simp [sm_u]
    rw [hr, mm_bf (nI_pos (by omega)), ← aEA (by omega)]; rfl
  · have hU : sm_u (sm_u (sm_u B 11 0 2 (B 11 0 2 + 1)) 64 0 i (sm_u B 11 0 2 (B 11 0 2 + 1) 11 0 1)) 66 0 i (sm_u B 11 0 2 (B 11 0 2 + 1) 11 0 2) 11 0 13 = nI t := tb
    have hC : sm_u (sm_u (sm_u B 11 0 2 (B 11 0 2 + 1)) 64 0 i (sm_u B 11 0 2 (B 11 0 2 + 1) 11 0 1)) 66 0 i (sm_u B 11 0 2 (B 11 0 2 + 1) 11 0 2) 60 0 i = nI cc := ecc
    rw [kB, T194_45, mm_bf hz, tb, mm_bf n2]
    simp only [mm_ck ei, ec, hU, hC, mm_ck ti, tc, nI_1]
    rfl
