/-! ruled -/
def wcl (B : sm_M) (o : Option Nat) (j : Nat) : Int32 := match o with
  | none => if j % 3 = 0 then 999 else 0
  | some k => B 71 0 (4 * k + j)
def wrk (B : sm_M) (o : Option Nat) : Int32 := match o with
  | none => 210
  | some k => B 72 0 k
def wtl (B : sm_M) (o : Option Nat) : Int32 := match o with
  | none => 0
  | some k => B 73 0 k
def wA (A : sm_M) (o : Option Nat) (s : Nat) : Int32 := match o with
  | none => A 34 0 s
  | some k => A 36 k s
theorem wA_eq {A B : sm_M} {n : Nat} (hK : ∀ r, r < n → K_rul A B r) (h0 : A 34 0 0 = -1 ∧ A 34 0 2 = 999 ∧ A 34 0 3 = 0 ∧ A 34 0 4 = 0 ∧ A 34 0 5 = 999 ∧ A 34 0 6 = 210 ∧ A 34 0 7 = 0) (x : Int32) : wA A (wrule B x n) 0 = wnr (wrule B x n) ∧ wA A (wrule B x n) 2 = wcl B (wrule B x n) 0 ∧ wA A (wrule B x n) 3 = wcl B (wrule B x n) 1 ∧ wA A (wrule B x n) 4 = wcl B (wrule B x n) 2 ∧ wA A (wrule B x n) 5 = wcl B (wrule B x n) 3 ∧ wA A (wrule B x n) 6 = wrk B (wrule B x n) ∧ wA A (wrule B x n) 7 = wtl B (wrule B x n) := by
  cases h : wrule B x n with
  | none => exact h0
  | some k =>
    obtain ⟨a0, a1, a2, a3, a4, a5, a6, a7, -⟩ := hK k (wrule_lt h)
    exact ⟨a0, a2, a3, a4, a5, a6, a7⟩
theorem r191 {B : sm_M} (d nL : Nat) (x : Int32) {j : Nat} (hj : j < 4) (o : Option sm_V) {n : Nat} (hn : n ≤ 10) (eb : B 11 0 27 = nI n) (Q : sm_Q) : sm_W (d + 1) 191 0 [vo 11, vi x, vi (nI j), o] [] (sm_G0 nL) B Q = Q (vi (wcl B (wrule B x n) j)) (sm_G0 nL) B := by
  rw [T191, r192e d nL x none none hn eb, sm_push_s, T191_5]
  cases h : wrule B x n with
  | none =>
    rw [mm_bt (show wnr none < 0 from by decide), show (3 : Int32) = nI 3 from rfl, pk_rem (by omega) (by decide) (by decide)]
    by_cases h3 : j % 3 = 0
    · rw [h3, mm_bt (show nI 0 = 0 from rfl)]; show _ = Q (vi (if j % 3 = 0 then 999 else 0)) _ _; rw [if_pos h3]
    · rw [mm_bf (nI_ne0 (by omega) (by omega))]; show _ = Q (vi (if j % 3 = 0 then 999 else 0)) _ _; rw [if_neg h3]
  | some k =>
    have hk := wrule_lt h
    have k0 : ¬ wnr (some k) < 0 := nI_pos (show k < 2 ^ 31 by omega)
    have e : (4 : Int32) * wnr (some k) + nI j = nI (4 * k + j) := by
      show nI 4 * nI k + nI j = _; rw [pk_mul, nI_add]
    rw [mm_bf k0, e, mm_ck (mm_in (by omega) (by decide)), nI_clamp (by omega)]; rfl
theorem r209 {B : sm_M} (d nL : Nat) (x : Int32) {n : Nat} (hn : n ≤ 10) (eb : B 11 0 27 = nI n) (Q : sm_Q) : sm_W (d + 1) 209 0 [vo 11, vi x] [] (sm_G0 nL) B Q = Q (vi (wrk B (wrule B x n))) (sm_G0 nL) B := by
  rw [T209, r192e d nL x none none hn eb, sm_push_s, T209_5]
  cases h : wrule B x n with
  | none => rw [mm_bt (show wnr none < 0 from by decide)]; rfl
  | some k =>
    have hk := wrule_lt h
    have k0 : ¬ wnr (some k) < 0 := nI_pos (show k < 2 ^ 31 by omega)
    have k3 : sm_in (wnr (some k)) 11 = true := mm_in (show k < 11 by omega) (by decide)
    have kc : (wnr (some k)).toNatClampNeg = k := nI_clamp (show k < 2 ^ 31 by omega)
    rw [mm_bf k0, r192e d nL x none none hn eb, sm_push_s, h, T209_23, mm_ck k3, kc]; rfl
theorem r210 {B : sm_M} (d nL : Nat) (x : Int32) {n : Nat} (hn : n ≤ 10) (eb : B 11 0 27 = nI n) (Q : sm_Q) : sm_W (d + 1) 210 0 [vo 11, vi x] [] (sm_G0 nL) B Q = Q (vi (wtl B (wrule B x n))) (sm_G0 nL) B := by
  rw [T210, r192e d nL x none none hn eb, sm_push_s, T210_5]
  cases h : wrule B x n with
  | none => rw [mm_bt (show wnr none < 0 from by decide)]; rfl
  | some k =>
    have hk := wrule_lt h
    have k0 : ¬ wnr (some k) < 0 := nI_pos (show k < 2 ^ 31 by omega)
    have k3 : sm_in (wnr (some k)) 11 = true := mm_in (show k < 11 by omega) (by decide)
    have kc : (wnr (some k)).toNatClampNeg = k := nI_clamp (show k < 2 ^ 31 by omega)
    rw [mm_bf k0, r192e d nL x none none hn eb, sm_push_s, h, T210_21, mm_ck k3, kc]; rfl
theorem m74 {A : sm_M} (d nL : Nat) (o : Option Nat) (o1 o2 o3 : Option sm_V) {s : Nat} {x : Int32} (h : (x = 0 ∧ s = 0) ∨ (x = 1 ∧ s = 2) ∨ (x = 2 ∧ s = 3) ∨ (x = 3 ∧ s = 4) ∨ (x = 4 ∧ s = 5) ∨ (x = 5 ∧ s = 6) ∨ (x = 6 ∧ s = 7)) (Q : sm_Q) : sm_W (d + 1) 74 18 [o1, o2, vi x, o3] (sm_push (wob o) []) (sm_G0 nL) A Q = Q (vi (wA A o s)) (sm_G0 nL) A := by
  have f : ∀ (f4 i5 : Nat), Nat.beq (sm_fc f4) 4 = true → sm_W (d + 1) 74 18 [o1, o2, vi x, o3] [Sum.inr (Sum.inr (some (f4, i5)))] (sm_G0 nL) A Q = Q (vi (A f4 i5 s)) (sm_G0 nL) A := by
    intro f4 i5 hf
    rcases h with ⟨rfl, rfl⟩ | ⟨rfl, rfl⟩ | ⟨rfl, rfl⟩ | ⟨rfl, rfl⟩ | ⟨rfl, rfl⟩ | ⟨rfl, rfl⟩ | ⟨rfl, rfl⟩
    · rw [T74_18, mm_bt (by decide), mm_ck hf]
    · rw [T74_18, mm_bf (by decide), mm_bt (by decide), mm_ck hf]
    · rw [T74_18, mm_bf (by decide), mm_bf (by decide), mm_bt (by decide), mm_ck hf]
    · rw [T74_18, mm_bf (by decide), mm_bf (by decide), mm_bf (by decide), mm_bt (by decide), mm_ck hf]
    · rw [T74_18, mm_bf (by decide), mm_bf (by decide), mm_bf (by decide), mm_bf (by decide), mm_bt (by decide), mm_ck hf]
    · rw [T74_18, mm_bf (by decide), mm_bf (by decide), mm_bf (by decide), mm_bf (by decide), mm_bf (by decide), mm_bt (by decide), mm_ck hf]
    · rw [T74_18, mm_bf (by decide), mm_bf (by decide), mm_bf (by decide), mm_bf (by decide), mm_bf (by decide), mm_bf (by decide), mm_bt (by decide), mm_ck hf]
  cases o with
  | none => exact f 34 0 rfl
  | some k => exact f 36 k rfl
