/-! tapes of soundings hold no value that reads as a blank -/
def J_tp3 (B : sm_M) : Prop := ∀ t, t < 6 → B 96 0 t = 3 → ∀ i, i < 60 → B 99 0 (60 * t + i) = 0 → ¬ B 98 0 (60 * t + i) = 999999999
theorem p159x {A B : sm_M} (hJ : J_tap A B) (x0 x1 x2 : Int32) (nL : Nat) : ∃ r A' B', (∀ d Q, sm_W (d + 2) 159 0 [vo 10, vi x0, vi x1, vi x2, none] [] (sm_G0 nL) A Q = Q (vi r) (sm_G0 nL) A') ∧ (∀ d Q, sm_W (d + 2) 272 0 [vo 11, vi x0, vi x1, vi x2] [] (sm_G0 nL) B Q = Q (vi r) (sm_G0 nL) B') ∧ ((A' = A ∧ B' = B) ∨ ∃ t i v, A' = sm_u A 49 t i v ∧ B' = sm_u (sm_u B 98 0 (60 * t + i) v) 99 0 (60 * t + i) 0 ∧ J_tap A' B' ∧ t < 6 ∧ i < 60 ∧ (B 96 0 t = 3 → ¬ v = 999999999)) := by
  rcases mm_rg x0 5 (by decide) with h | ⟨h0, h1, h2⟩ | ⟨t, ht, rfl, t0, t1, t2, tc, ti⟩
  · exact ⟨-1, A, B, fun d Q => by rw [T159, mm_bt h], fun d Q => by rw [T272, mm_bt h, mm_ck mm_zb0], .inl ⟨rfl, rfl⟩⟩
  · have h1' : (5 : Int32) < x0 := h1
    have h2' : ¬ x0 < (6 : Int32) := h2
    exact ⟨-1, A, B, fun d Q => by rw [T159, mm_bf h0, mm_bf h2'], fun d Q => by rw [T272, mm_bf h0, mm_bt h1', mm_ck mm_zb0], .inl ⟨rfl, rfl⟩⟩
  have t1' : ¬ (5 : Int32) < nI t := t1
  have t2' : nI t < (6 : Int32) := t2
  have ti' : sm_in (nI t) 6 = true := ti
  obtain ⟨k0, k1, k2, ⟨n, hn, en⟩, hv⟩ := hJ t (by omega)
  rcases k2 with e | ⟨k, hk, e⟩
  · exact ⟨-11, A, B, fun d Q => by rw [T159, mm_bf t0, mm_bt t2', mm_ck ti', tc, k0, e, mm_bt (by decide)], fun d Q => by rw [T272, mm_bf t0, mm_bf t1', mm_ck mm_zb1, mm_ck ti', tc, e, mm_bt (by decide)], .inl ⟨rfl, rfl⟩⟩
  have e1 : ¬ nI k = (-1 : Int32) := fun h => nI_pos (show k < 2 ^ 31 by omega) (by rw [h]; decide)
  have e2 : ¬ nI k < 0 := nI_pos (by omega)
  rcases mm_sv x1 n (by omega) with h | ⟨h0, h1, h2⟩ | ⟨i, hi, rfl, v0, v1, v2⟩
  · exact ⟨-13, A, B, fun d Q => by rw [T159, mm_bf t0, mm_bt t2', mm_ck ti', tc, k0, e, mm_bf e1, mm_bt h], fun d Q => by rw [T272, mm_bf t0, mm_bf t1', mm_ck mm_zb1, mm_ck ti', tc, e, mm_bf e2, mm_ck ti', mm_bt h], .inl ⟨rfl, rfl⟩⟩
  · exact ⟨-13, A, B, fun d Q => by rw [T159, mm_bf t0, mm_bt t2', mm_ck ti', tc, k0, e, mm_bf e1, mm_bf h0, k1, en, mm_bf h1], fun d Q => by rw [T272, mm_bf t0, mm_bf t1', mm_ck mm_zb1, mm_ck ti', tc, e, mm_bf e2, mm_ck ti', mm_bf h0, en, mm_bt h2], .inl ⟨rfl, rfl⟩⟩
  have i60 : nI i < (60 : Int32) := nI_lt (show i < 60 by omega) (by decide)
  have ii : sm_in (nI i) 60 = true := mm_in (by omega) (by decide)
  have ic : (nI i).toNatClampNeg = i := nI_clamp (by omega)
  have q : (60 : Int32) * nI t + nI i = nI (60 * t + i) := by show nI 60 * nI t + nI i = _; rw [pk_mul, nI_add]
  have qi : sm_in (nI (60 * t + i)) 360 = true := mm_in (by omega) (by decide)
  have qc : (nI (60 * t + i)).toNatClampNeg = 60 * t + i := nI_clamp (by omega)
  have z : vp_nar .boolean 0 = 0 := rfl
  by_cases g0 : nI k = 3 ∧ x2 < -800000
  · exact ⟨-2, A, B, fun d Q => by rw [T159]; simp only [mm_bf t0, mm_bt t2', mm_ck ti', tc, k0, e, mm_bf e1, mm_bf v0, k1, en, mm_bt v1, mm_bt i60, mm_bt g0.1, mm_bt g0.2], fun d Q => by rw [T272]; simp only [mm_bf t0, mm_bf t1', mm_ck mm_zb1, mm_ck ti', tc, e, mm_bf e2, mm_bf v0, en, mm_bf v2, mm_bt g0.1, mm_bt g0.2], .inl ⟨rfl, rfl⟩⟩
  by_cases g1 : nI k = 3 ∧ 800000 < x2
  · have g2 : ¬ x2 < -800000 := fun h => g0 ⟨g1.1, h⟩
    exact ⟨-2, A, B, fun d Q => by rw [T159]; simp only [mm_bf t0, mm_bt t2', mm_ck ti', tc, k0, e, mm_bf e1, mm_bf v0, k1, en, mm_bt v1, mm_bt i60, mm_bt g1.1, mm_bf g2, mm_bt g1.2], fun d Q => by rw [T272]; simp only [mm_bf t0, mm_bf t1', mm_ck mm_zb1, mm_ck ti', tc, e, mm_bf e2, mm_bf v0, en, mm_bf v2, mm_bt g1.1, mm_bf g2, mm_bt g1.2], .inl ⟨rfl, rfl⟩⟩
  refine ⟨1, sm_u A 49 t i (wit (nI k) x2), sm_u (sm_u B 98 0 (60 * t + i) (wit (nI k) x2)) 99 0 (60 * t + i) 0, fun d Q => ?_, fun d Q => ?_, .inr ⟨t, i, _, rfl, rfl, J_tap_i hJ (by omega) (by omega) _, by omega, by omega, fun h3 => (by
    have hk3 : nI k = 3 := e.symm.trans h3
    intro hv
    have h0 : wit (nI k) x2 = x2 := by rw [hk3]; rfl
    rw [h0] at hv
    exact g1 ⟨hk3, by rw [hv]; decide⟩)⟩⟩
  all_goals
    have kk : k = 0 ∨ k = 1 ∨ k = 2 ∨ k = 3 := by omega
  · rw [T159]
    simp only [mm_bf t0, mm_bt t2', mm_ck ti', tc, k0, e, mm_bf e1, mm_bf v0, k1, en, mm_bt v1, mm_bt i60, mm_ck ii, ic]
    rcases kk with rfl | rfl | rfl | rfl
    · rw [mm_bf (by decide), mm_bt (by decide)]; rfl
    · rw [mm_bf (by decide), mm_bf (by decide), mm_bt (by decide)]; rfl
    · rw [mm_bf (by decide), mm_bf (by decide), mm_bf (by decide)]; rfl
    · rw [mm_bt (by decide), mm_bf (fun h => g0 ⟨rfl, h⟩), mm_bf (fun h => g1 ⟨rfl, h⟩), mm_bf (by decide), mm_bf (by decide)]; rfl
  · rw [T272]
    simp only [mm_bf t0, mm_bf t1', mm_ck mm_zb1, mm_ck ti', tc, e, mm_bf e2, mm_bf v0, en, mm_bf v2, q, mm_ck qi, qc, z]
    rcases kk with rfl | rfl | rfl | rfl
    · rw [mm_bf (by decide), mm_bt (by decide)]; rfl
    · rw [mm_bf (by decide), mm_bf (by decide), mm_bt (by decide)]; rfl
    · rw [mm_bf (by decide), mm_bf (by decide), mm_bf (by decide)]; rfl
    · rw [mm_bt (by decide), mm_bf (fun h => g0 ⟨rfl, h⟩), mm_bf (fun h => g1 ⟨rfl, h⟩), mm_bf (by decide), mm_bf (by decide)]; rfl
theorem J_tp3_i {B : sm_M} (h : J_tp3 B) {t i : Nat} {v : Int32} (hi : i < 60) (hv : B 96 0 t = 3 → ¬ v = 999999999) : J_tp3 (sm_u (sm_u B 98 0 (60 * t + i) v) 99 0 (60 * t + i) 0) := by
  intro u hu e q hq h9
  have e' : B 96 0 u = 3 := e
  show ¬ sm_u B 98 0 (60 * t + i) v 98 0 (60 * u + q) = 999999999
  by_cases hh : 60 * u + q = 60 * t + i
  · have hut : u = t := by omega
    subst hut
    rw [hh, mm_up]; exact hv e'
  · rw [mm_un (fun x => hh x.2)]
    have h9' : sm_u (sm_u B 98 0 (60 * t + i) v) 99 0 (60 * t + i) 0 99 0 (60 * u + q) = 0 := h9
    rw [mm_un (fun x => hh x.2)] at h9'
    exact h u hu e' q hq h9'
theorem J_tp3_b {B : sm_M} (h : J_tp3 B) {t i : Nat} : J_tp3 (sm_u B 99 0 (60 * t + i) 1) := by
  intro u hu e q hq h9
  by_cases hh : 60 * u + q = 60 * t + i
  · rw [hh, mm_up] at h9; exact absurd h9 (by decide)
  · rw [mm_un (fun x => hh x.2)] at h9
    exact h u hu e q hq h9
theorem J_tp3_t {B : sm_M} (h : J_tp3 B) {t : Nat} {k m : Int32} : J_tp3 (tB B t k m) := by
  intro u hu e q hq h9
  unfold tB zB at h9 ⊢
  by_cases hh : 60 * t ≤ 60 * u + q ∧ 60 * u + q < 60 * t + 60
  · rw [if_pos ⟨.inl rfl, rfl, hh.1, hh.2⟩]; decide
  · rw [if_neg (fun x => hh x.2.2)] at h9 ⊢
    have hut : ¬ u = t := by omega
    have e' : B 96 0 u = 3 := by
      rw [← e]
      show _ = sm_u (sm_u B 96 0 t k) 97 0 t m 96 0 u
      exact (mm_un (A := B) (f := 96) (i := 0) (k := t) (v := k) (fun x => hut x.2)).symm
    exact h u hu e' q hq h9
