/-! what was told before which notice: the class counts notices (A 42 . 7, A 42 . 8), the reference counts calls (B 65, B 66; B 85) -/
def K_bef (a b n : Int32) (q C : Nat) (NC : Nat → Nat) : Prop := ∃ u c, u ≤ q ∧ 1 ≤ c ∧ c ≤ C ∧ a = nI u ∧ b = nI c ∧ (∀ j, j < q → (j < u ↔ NC j < c)) ∧ (n = -1 ∨ ∃ j, u ≤ j ∧ j < q ∧ n = nI j)
def K_tel (A B : sm_M) (q C : Nat) (NC : Nat → Nat) (i : Nat) : Prop := A 42 i 9 = B 67 0 i ∧ A 42 i 10 = B 68 0 i ∧ K_bef (A 42 i 7) (B 65 0 i) (B 67 0 i) q C NC ∧ ((B 64 0 i < 0 ∧ A 42 i 8 = -1 ∧ B 68 0 i = -1) ∨ (¬ B 64 0 i < 0 ∧ K_bef (A 42 i 8) (B 66 0 i) (B 68 0 i) q C NC))
def J_tel (e n : Nat) (A B : sm_M) : Prop := ∃ t q C NC, t ≤ 90 ∧ q ≤ 60 ∧ C ≤ n ∧ A 14 0 3 = nI t ∧ B 11 0 13 = nI t ∧ A 14 0 5 = nI q ∧ B 11 0 49 = nI q ∧ B 11 0 2 = nI C ∧ (∀ j, j < q → B 85 0 j = nI (NC j) ∧ NC j + e ≤ C ∧ A 39 0 j = B 86 0 j ∧ ∃ y, y ≤ 9999 ∧ B 86 0 j = nI y) ∧ (∀ i j, i < j → j < q → NC i < NC j) ∧ (∀ i, i < t → K_tel A B q C NC i) ∧ (∀ i, t ≤ i → i < 90 → A 42 i 8 = -1 ∧ A 42 i 9 = -1 ∧ A 42 i 10 = -1)
theorem K_bef_C {a b n : Int32} {q C C' : Nat} {NC : Nat → Nat} (h : K_bef a b n q C NC) (hC : C ≤ C') : K_bef a b n q C' NC := by
  obtain ⟨u, c, h1, h2, h3, h4⟩ := h
  exact ⟨u, c, h1, h2, by omega, h4⟩
theorem J_tel_w {A B : sm_M} {n : Nat} (h : J_tel 1 n A B) : J_tel 0 n A B := by
  obtain ⟨t', q, C, NC, h1, h2, h3, h4, h5, h6, h7, h8, h9, hh⟩ := h
  refine ⟨t', q, C, NC, h1, h2, h3, h4, h5, h6, h7, h8, fun j hj => ?_, hh⟩
  obtain ⟨a1, a2, a3⟩ := h9 j hj
  exact ⟨a1, by omega, a3⟩
theorem J_tel_inc {A B : sm_M} {n : Nat} (h : J_tel 0 n A B) : J_tel 1 (n + 1) A (sm_u B 11 0 2 (B 11 0 2 + 1)) := by
  obtain ⟨t', q, C, NC, h1, h2, h3, h4, h5, h6, h7, h8, h9, h10, h11, h12⟩ := h
  refine ⟨t', q, C + 1, NC, h1, h2, by omega, h4, h5, h6, h7, by simp [sm_u, h8, nI_1], fun j hj => ?_, h10, fun i hi => ?_, h12⟩
  · obtain ⟨a1, a2, a3⟩ := h9 j hj
    exact ⟨a1, by omega, a3⟩
  · obtain ⟨f1, f2, f3, f4⟩ := h11 i hi
    refine ⟨f1, f2, K_bef_C f3 (by omega), ?_⟩
    rcases f4 with f4 | ⟨f4, f5⟩
    · exact .inl f4
    · exact .inr ⟨f4, K_bef_C f5 (by omega)⟩
theorem J_tel_add0 {A B : sm_M} {t m : Nat} (hJ : J_tel 1 m A B) (et : B 11 0 13 = nI t) (ht : t < 90) (h1C : ¬ B 11 0 2 = 0) (kd sv ce ft : Int32) : J_tel 1 m (aA A t kd sv ce ft) (aB0 B t kd sv ce ft) := by
  obtain ⟨t', q, C, NC, h1, h2, h3, h4, h5, h6, h7, h8, h9, h10, h11, h12⟩ := hJ
  have e1 : t' = t := (nI_eq (by omega) (by omega)).mp (h5.symm.trans et)
  subst e1
  have hC : 1 ≤ C := by
    rcases Nat.eq_zero_or_pos C with rfl | h
    · exact absurd h8 h1C
    · exact h
  refine ⟨t' + 1, q, C, NC, by omega, h2, h3, rfl, rfl, h6, h7, h8, h9, h10, fun i hi => ?_, fun i hi hi2 => ?_⟩
  · by_cases hit : i = t'
    · subst hit
      obtain ⟨f1, f2, f3⟩ := h12 i (Nat.le_refl _) ht
      refine ⟨by simp [aA, aB0, sm_u, f2], by simp [aA, aB0, sm_u, f3], ⟨q, C, Nat.le_refl _, hC, Nat.le_refl _, by simp [aA, sm_u, h6], by simp [aB0, sm_u, h8], fun j hj => ⟨fun _ => by have := (h9 j hj).2.1; omega, fun _ => hj⟩, .inl (by simp [aB0, sm_u])⟩, .inl ⟨by simp only [aB0, sm_u]; simp, by simp [aA, sm_u, f1], by simp [aB0, sm_u]⟩⟩
    · obtain ⟨f1, f2, f3, f4⟩ := h11 i (by omega)
      unfold K_tel
      rw [aA_ne hit, aA_ne hit, aA_ne hit, aA_ne hit, aB0_ne hit (by decide), aB0_ne hit (by decide), aB0_ne hit (by decide), aB0_ne hit (by decide), aB0_ne hit (by decide)]
      exact ⟨f1, f2, f3, f4⟩
  · have hit : i ≠ t' := by omega
    rw [aA_ne hit, aA_ne hit, aA_ne hit]
    exact h12 i (by omega) hi2
theorem J_tel_c {A B : sm_M} {n : Nat} (h : J_tel 0 n A B) (hn : n < 2 ^ 30) : ¬ B 11 0 2 + 1 = 0 := by
  obtain ⟨t', q, C, NC, h1, h2, h3, h4, h5, h6, h7, h8, hh⟩ := h
  rw [h8, nI_1]; exact nI_ne0 (by omega) (by omega)
theorem J_tel_add {A B : sm_M} {t m : Nat} (hJ : J_tel 0 m A B) (et : B 11 0 13 = nI t) (ht : t < 90) (hm : m < 2 ^ 30) (kd sv ce ft : Int32) : J_tel 1 (m + 1) (aA A t kd sv ce ft) (aB B t kd sv ce ft) :=
  J_tel_add0 (B := sm_u B 11 0 2 (B 11 0 2 + 1)) (J_tel_inc hJ) et ht (J_tel_c hJ hm) kd sv ce ft
theorem wsum_u {B : sm_M} {k : Nat} {v : Int32} {h g : Nat} (n : Nat) : wsum (sm_u B 11 0 k v) h g n = wsum B h g n := by
  induction n with
  | zero => rfl
  | succ n ih => show wsum (sm_u B 11 0 k v) h g n + wpB (sm_u B 11 0 k v) h (4 * g + n) = wsum B h g n + wpB B h (4 * g + n); rw [ih]; rfl
theorem wtide_u {B : sm_M} {k : Nat} {v : Int32} {c h : Nat} : wtide (sm_u B 11 0 k v) c h = wtide B c h := by
  show (if B 57 0 c < 0 then 0 else wsum (sm_u B 11 0 k v) h (cl (B 57 0 c)) (cl (B 53 0 (cl (B 57 0 c))))) = _
  rw [wsum_u]; rfl
theorem mm_sv (x : Int32) (s : Nat) (hs : s < 2 ^ 30) : x < 0 ∨ (¬ x < 0 ∧ ¬ x < nI s ∧ nI s - 1 < x) ∨ ∃ v, v < s ∧ x = nI v ∧ ¬ nI v < 0 ∧ nI v < nI s ∧ ¬ nI s - 1 < nI v := by
  by_cases h : x < 0
  · exact .inl h
  obtain ⟨j, hj, rfl⟩ := nI_of h
  by_cases hjs : j < s
  · refine .inr (.inr ⟨j, hjs, rfl, h, nI_lt hjs (by omega), ?_⟩)
    rw [show (1 : Int32) = nI 1 from rfl, pk_sub (by omega)]; exact nI_nlt (by omega) (by omega)
  · refine .inr (.inl ⟨h, nI_nlt (by omega) hj, ?_⟩)
    rcases Nat.eq_zero_or_pos s with rfl | h0
    · rw [Int32.lt_iff_toInt_lt, nI_toInt hj, show (nI 0 - 1).toInt = -1 from by decide]; omega
    · rw [show (1 : Int32) = nI 1 from rfl, pk_sub h0]; exact nI_lt (by omega) hj
def Add (A B A' B' : sm_M) : Prop := ∃ t s k v c ft, A' = aA A t (nI k) (nI v) (nI c) ft ∧ B' = aB B t (nI k) (nI v) (nI c) ft ∧ B 11 0 13 = nI t ∧ t < 90 ∧ B 11 0 3 = nI s ∧ s ≤ 12 ∧ 1 ≤ k ∧ k ≤ 6 ∧ v < s ∧ c < 48 ∧ (¬ ft < -99 ∧ ¬ 999 < ft)
theorem p28 {A B : sm_M} (hS : J_srv A B) (hJ : J_sea A B) (hT : J_thg A B) (x0 x1 x2 x3 : Int32) (nL : Nat) : ∃ r A' B', (∀ d Q, sm_W (d + 3) 28 0 [vo 10, vi x0, vi x1, vi x2, vi x3] [] (sm_G0 nL) A Q = Q (vi r) (sm_G0 nL) A') ∧ (∀ d Q, sm_W (d + 2) 176 0 [vo 11, vi x0, vi x1, vi x2, vi x3] [] (sm_G0 nL) B Q = Q (vi r) (sm_G0 nL) B') ∧ ((A' = A ∧ B' = B) ∨ Add A B A' B') := by
  obtain ⟨se, s, hs, es, -⟩ := hS
  have sa : A 14 0 1 = nI s := se.trans es
  obtain ⟨t, s', ht, -, ta, tb, es', tn, -⟩ := hT
  rcases mm_sv x0 s (by omega) with h | ⟨h0, h1, h2⟩ | ⟨v, hv, rfl, v0, v1, v2⟩
  · exact ⟨-1, A, B, fun d Q => by rw [T28, mm_bt h], fun d Q => by rw [T176, mm_bt h, mm_ck mm_zb0], .inl ⟨rfl, rfl⟩⟩
  · exact ⟨-1, A, B, fun d Q => by rw [T28, mm_bf h0, sa, mm_bf h1], fun d Q => by rw [T176, mm_bf h0, es, mm_bt h2, mm_ck mm_zb0], .inl ⟨rfl, rfl⟩⟩
  have v3 : nI v < (12 : Int32) := nI_lt (show v < 12 by omega) (by decide)
  have v4 : sm_in (nI v) 12 = true := mm_in (by omega) (by decide)
  rcases mm_rg x1 47 (by decide) with h | ⟨h0, h1, h2⟩ | ⟨c, hc, rfl, c0, c1, c2, c3, c4⟩
  · exact ⟨-1, A, B, fun d Q => by rw [T28, mm_bf v0, sa, mm_bt v1, mm_bt v3, mm_ck v4, mm_bt h], fun d Q => by rw [T176, mm_bf v0, es, mm_bf v2, mm_ck mm_zb1, mm_bt h, mm_ck mm_zb0], .inl ⟨rfl, rfl⟩⟩
  · have h1' : (47 : Int32) < x1 := h1
    have h2' : ¬ x1 < (48 : Int32) := h2
    exact ⟨-1, A, B, fun d Q => by rw [T28, mm_bf v0, sa, mm_bt v1, mm_bt v3, mm_ck v4, mm_bf h0, mm_bf h2'], fun d Q => by rw [T176, mm_bf v0, es, mm_bf v2, mm_ck mm_zb1, mm_bf h0, mm_bt h1', mm_ck mm_zb0], .inl ⟨rfl, rfl⟩⟩
  have c1' : ¬ (47 : Int32) < nI c := c1
  have c2' : nI c < (48 : Int32) := c2
  rcases mm_rg x2 99999 (by decide) with h | ⟨h0, h1, h2⟩ | ⟨i, hi, rfl, i0, i1, -⟩
  · exact ⟨-2, A, B, fun d Q => by rw [T28, mm_bf v0, sa, mm_bt v1, mm_bt v3, mm_ck v4, mm_bf c0, mm_bt c2', mm_bt h], fun d Q => by rw [T176, mm_bf v0, es, mm_bf v2, mm_ck mm_zb1, mm_bf c0, mm_bf c1', mm_ck mm_zb1, mm_bt h, mm_ck mm_zb0], .inl ⟨rfl, rfl⟩⟩
  · have h1' : (99999 : Int32) < x2 := h1
    exact ⟨-2, A, B, fun d Q => by rw [T28, mm_bf v0, sa, mm_bt v1, mm_bt v3, mm_ck v4, mm_bf c0, mm_bt c2', mm_bf h0, mm_bt h1'], fun d Q => by rw [T176, mm_bf v0, es, mm_bf v2, mm_ck mm_zb1, mm_bf c0, mm_bf c1', mm_ck mm_zb1, mm_bf h0, mm_bt h1', mm_ck mm_zb0], .inl ⟨rfl, rfl⟩⟩
  have i1' : ¬ (99999 : Int32) < nI i := i1
  have kA : ∀ d Q, sm_W (d + 3) 28 0 [vo 10, vi (nI v), vi (nI c), vi (nI i), vi x3] [] (sm_G0 nL) A Q = sm_Br (decide (x3 < 0)) (Q (vi (-2)) (sm_G0 nL) A) (sm_Br (decide (999 < x3)) (Q (vi (-2)) (sm_G0 nL) A) (sm_Br (decide (x3 - nI (wtide B c i) < -99)) (Q (vi (-2)) (sm_G0 nL) A) (sm_Br (decide (999 < x3 - nI (wtide B c i))) (Q (vi (-2)) (sm_G0 nL) A) (sm_W (d + 3) 28 79 [vo 10, vi (nI v), vi (nI c), vi (nI i), vi x3] [Sum.inl (nI (wtide B c i)), Sum.inl x3, Sum.inl (nI c), Sum.inl (nI v), Sum.inl 1, Sum.inr (Sum.inr (some (14, 0)))] (sm_G0 nL) A Q)))) := fun d Q => by
    rw [T28, mm_bf v0, sa, mm_bt v1, mm_bt v3, mm_ck v4, mm_bf c0, mm_bt c2', mm_bf i0, mm_bf i1', m24 d none none none hJ.1 hJ.2 (by omega) (by omega) nL, sm_push_s, T28_51, m24 d none none none hJ.1 hJ.2 (by omega) (by omega) nL, sm_push_s]
  have kB : ∀ d Q, sm_W (d + 2) 176 0 [vo 11, vi (nI v), vi (nI c), vi (nI i), vi x3] [] (sm_G0 nL) B Q = sm_Br (decide (x3 < 0)) (Q (vi (-2)) (sm_G0 nL) B) (sm_Br (decide (999 < x3)) (Q (vi (-2)) (sm_G0 nL) B) (sm_Br (decide (x3 - nI (wtide B c i) < -99)) (sm_Ck (sm_zb 0) (Q (vi (-2)) (sm_G0 nL) B)) (sm_Br (decide (999 < x3 - nI (wtide B c i))) (sm_Ck (sm_zb 0) (Q (vi (-2)) (sm_G0 nL) B)) (sm_Ck (sm_zb 1) (sm_Br (decide (nI t = 90)) (Q (vi (-4)) (sm_G0 nL) B) (sm_W (d + 2) 176 88 [vo 11, vi (nI v), vi (nI c), vi (nI i), vi x3] [Sum.inl (nI (wtide B c i)), Sum.inl x3, Sum.inl (nI c), Sum.inl (nI v), Sum.inl 1, Sum.inr (Sum.inr (some (11, 0)))] (sm_G0 nL) (sm_u B 11 0 2 (B 11 0 2 + 1)) Q)))))) := fun d Q => by
    rw [T176, mm_bf v0, es, mm_bf v2, mm_ck mm_zb1, mm_bf c0, mm_bf c1', mm_ck mm_zb1, mm_bf i0, mm_bf i1', mm_ck mm_zb1, r173 d none none none none hJ.1 (by omega) (by omega) nL, sm_push_s, T176_44, tb, r173 d none none none none (B := sm_u B 11 0 2 (B 11 0 2 + 1)) hJ.1 (by omega) (by omega) nL, sm_push_s, wtide_u]
  by_cases f0 : x3 < 0
  · exact ⟨-2, A, B, fun d Q => by rw [kA, mm_bt f0], fun d Q => by rw [kB, mm_bt f0], .inl ⟨rfl, rfl⟩⟩
  by_cases f1 : 999 < x3
  · exact ⟨-2, A, B, fun d Q => by rw [kA, mm_bf f0, mm_bt f1], fun d Q => by rw [kB, mm_bf f0, mm_bt f1], .inl ⟨rfl, rfl⟩⟩
  by_cases g0 : x3 - nI (wtide B c i) < -99
  · exact ⟨-2, A, B, fun d Q => by rw [kA, mm_bf f0, mm_bf f1, mm_bt g0], fun d Q => by rw [kB, mm_bf f0, mm_bf f1, mm_bt g0, mm_ck mm_zb0], .inl ⟨rfl, rfl⟩⟩
  by_cases g1 : 999 < x3 - nI (wtide B c i)
  · exact ⟨-2, A, B, fun d Q => by rw [kA, mm_bf f0, mm_bf f1, mm_bf g0, mm_bt g1], fun d Q => by rw [kB, mm_bf f0, mm_bf f1, mm_bf g0, mm_bt g1, mm_ck mm_zb0], .inl ⟨rfl, rfl⟩⟩
  by_cases hf : t = 90
  · subst hf
    exact ⟨-4, A, B, fun d Q => by rw [kA, mm_bf f0, mm_bf f1, mm_bf g0, mm_bf g1, T28_79, ta, mm_bf (by decide)], fun d Q => by rw [kB, mm_bf f0, mm_bf f1, mm_bf g0, mm_bf g1, mm_ck mm_zb1, mm_bt (by decide)], .inl ⟨rfl, rfl⟩⟩
  have n1 : nI t < (90 : Int32) := nI_lt (show t < 90 by omega) (by decide)
  have n2 : ¬ nI t = (90 : Int32) := fun h => hf ((nI_eq (by omega) (by decide)).mp (show nI t = nI 90 from h))
  have ti : sm_in (nI t) 90 = true := mm_in (by omega) (by decide)
  have tc : (nI t).toNatClampNeg = t := nI_clamp (by omega)
  refine ⟨nI t, aA A t 1 (nI v) (nI c) (x3 - nI (wtide B c i)), aB B t 1 (nI v) (nI c) (x3 - nI (wtide B c i)), fun d Q => ?_, fun d Q => ?_, .inr ⟨t, s, 1, v, c, x3 - nI (wtide B c i), rfl, rfl, tb, by omega, es, hs, by omega, by omega, hv, by omega, g0, g1⟩⟩
  · rw [kA, mm_bf f0, mm_bf f1, mm_bf g0, mm_bf g1, T28_79, ta, mm_bt n1, mm_ck ti, tc, nI_1]
    have hr : sm_u (sm_u (sm_u (sm_u (sm_u (sm_u A 42 t 1 1) 42 t 3 (nI v)) 42 t 2 (nI c)) 42 t 4 (x3 - nI (wtide B c i))) 42 t 5 (A 10 0 0)) 42 t 7 (A 14 0 5) 42 t 0 = nI t := by
      rw [← tn t (by omega)]; simp [sm_u]
    rw [hr]; rfl
  · rw [kB, mm_bf f0, mm_bf f1, mm_bf g0, mm_bf g1, mm_ck mm_zb1, mm_bf n2, T176_88, show sm_u B 11 0 2 (B 11 0 2 + 1) 11 0 13 = nI t from tb]
    simp only [mm_ck ti, tc, nI_1]
    rfl
