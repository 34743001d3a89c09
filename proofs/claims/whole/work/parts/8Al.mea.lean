/-! bits -/
theorem nI_bv (n : Nat) : (nI n).toBitVec = BitVec.ofNat 32 n := rfl
theorem nI_or (a b : Nat) : nI a ||| nI b = nI (a ||| b) := Int32.toBitVec_inj.mp (by rw [Int32.toBitVec_or, nI_bv, nI_bv, nI_bv, BitVec.ofNat_or])
theorem nI_and (a b : Nat) : nI a &&& nI b = nI (a &&& b) := Int32.toBitVec_inj.mp (by rw [Int32.toBitVec_and, nI_bv, nI_bv, nI_bv, BitVec.ofNat_and])
theorem nI_xor (a b : Nat) : nI a ^^^ nI b = nI (a ^^^ b) := Int32.toBitVec_inj.mp (by rw [Int32.toBitVec_xor, nI_bv, nI_bv, nI_bv, BitVec.ofNat_xor])
theorem mm_sh : ∀ i, i < 32 → ((nI i &&& 31).toBitVec.smod 32).toNat = i := by decide +kernel
theorem wbt_tb {x i : Nat} (hx : x < 2 ^ 31) (hi : i < 32) : (wbt (nI x) (nI i) = 1) = (x.testBit i = true) := by
  apply propext
  show (nI x >>> (nI i &&& 31)) &&& 1 = 1 ↔ _
  rw [pk_shrN hx _ i (mm_sh i hi), pk_andN (Nat.lt_of_le_of_lt (Nat.div_le_self _ _) (by omega)) 1 (by decide), Nat.testBit_eq_decide_div_mod_eq, decide_eq_true_eq]
  exact nI_eq (a := x / 2 ^ i % 2 ^ 1) (b := 1) (by have := Nat.mod_lt (x / 2 ^ i) (show 0 < 2 by decide); omega) (by decide)
theorem mm_bit {i : Nat} (hi : i < 31) : (1 : Int32) <<< (nI i &&& 31) = nI (2 ^ i) := by
  have h : 2 ^ i < 2 ^ 32 := Nat.pow_lt_pow_right (by decide) (by omega)
  rw [show (1 : Int32) = nI 1 from rfl, pk_shlN (nI i &&& 31) i (mm_sh i (by omega)) (by omega), Nat.one_mul]
/-- the bits at which f holds -/
def wsm (f : Nat → Bool) : Nat → Nat
  | 0 => 0
  | j + 1 => if f j = true then wsm f j ||| 2 ^ j else wsm f j
theorem wsm_tb (f : Nat → Bool) : ∀ (n i : Nat), (wsm f n).testBit i = (decide (i < n) && f i)
  | 0, i => by show Nat.testBit 0 i = _; simp
  | n + 1, i => by
    have h := wsm_tb f n i
    unfold wsm
    by_cases hf : f n = true
    · rw [if_pos hf, Nat.testBit_or, h, Nat.testBit_two_pow]
      by_cases hin : n = i
      · subst hin; simp [hf]
      · have h2 : (i < n + 1) = (i < n) := propext (by omega)
        simp [hin, h2]
    · rw [if_neg hf, h]
      by_cases hin : n = i
      · subst hin; simp [hf]
      · have h2 : (i < n + 1) = (i < n) := propext (by omega)
        simp [h2]
theorem wsm_lt (f : Nat → Bool) (n : Nat) : wsm f n < 2 ^ n := Nat.lt_pow_two_of_testBit _ (fun i hi => by rw [wsm_tb]; simp; omega)
/-- how many bits -/
def wpb (x : Nat) : Nat → Nat
  | 0 => 0
  | i + 1 => if x.testBit i = true then wpb x i + 1 else wpb x i
theorem wpb_sub {x k : Nat} : ∀ n, (∀ i, i < n → x.testBit i = true → k.testBit i = true) → wpb x n ≤ wpb k n ∧ (wpb x n = wpb k n → ∀ i, i < n → x.testBit i = k.testBit i)
  | 0, _ => ⟨Nat.le_refl _, fun _ i hi => absurd hi (Nat.not_lt_zero _)⟩
  | n + 1, h => by
    obtain ⟨h1, h2⟩ := wpb_sub n (fun i hi => h i (by omega))
    have hn := h n (Nat.lt_succ_self _)
    unfold wpb
    by_cases hx : x.testBit n = true
    · have hk := hn hx
      rw [if_pos hx, if_pos hk]
      refine ⟨by omega, fun e i hi => ?_⟩
      by_cases hin : i = n
      · subst hin; rw [hx, hk]
      · exact h2 (by omega) i (by omega)
    · rw [if_neg hx]
      by_cases hk : k.testBit n = true
      · rw [if_pos hk]
        exact ⟨by omega, fun e => by omega⟩
      · rw [if_neg hk]
        refine ⟨h1, fun e i hi => ?_⟩
        by_cases hin : i = n
        · subst hin
          rw [Bool.not_eq_true] at hx hk
          rw [hx, hk]
        · exact h2 e i (by omega)
theorem wpb_le (x : Nat) : ∀ n, wpb x n ≤ n
  | 0 => Nat.le_refl _
  | n + 1 => by
    have h := wpb_le x n
    unfold wpb
    split <;> omega
def pq1 (n : Nat) : Nat := n - (n / 2 ^ 1 &&& 1431655765)
def pq2 (n : Nat) : Nat := (n &&& 858993459) + (n / 2 ^ 2 &&& 858993459)
def pq3 (n : Nat) : Nat := (n + n / 2 ^ 4) &&& 252645135
def pq4 (n : Nat) : Nat := n + n / 2 ^ 8
def pq5 (n : Nat) : Nat := n + n / 2 ^ 16
theorem pq_e0 : ∀ a, a < 64 → ∀ b, b < 64 → pq5 (pq4 (pq3 (pq2 (pq1 (64 * a + b))))) &&& 63 = wpb (64 * a + b) 12 := by decide +kernel
theorem pq_e (n : Nat) (h : n < 4096) : pq5 (pq4 (pq3 (pq2 (pq1 n)))) &&& 63 = wpb n 12 := by
  have h1 := pq_e0 (n / 64) (by omega) (n % 64) (by omega)
  rw [show 64 * (n / 64) + n % 64 = n from by omega] at h1; exact h1
theorem pcw_e {n : Nat} (h : n < 4096) : (((((((((nI n) - ((((nI n).toUInt32 >>> ((1 : Int32).toUInt32 &&& Int32.toUInt32 31)).toInt32) &&& 1431655765)) &&& 858993459) + (((((nI n) - ((((nI n).toUInt32 >>> ((1 : Int32).toUInt32 &&& Int32.toUInt32 31)).toInt32) &&& 1431655765)).toUInt32 >>> ((2 : Int32).toUInt32 &&& Int32.toUInt32 31)).toInt32) &&& 858993459)) + ((((((nI n) - ((((nI n).toUInt32 >>> ((1 : Int32).toUInt32 &&& Int32.toUInt32 31)).toInt32) &&& 1431655765)) &&& 858993459) + (((((nI n) - ((((nI n).toUInt32 >>> ((1 : Int32).toUInt32 &&& Int32.toUInt32 31)).toInt32) &&& 1431655765)).toUInt32 >>> ((2 : Int32).toUInt32 &&& Int32.toUInt32 31)).toInt32) &&& 858993459)).toUInt32 >>> ((4 : Int32).toUInt32 &&& Int32.toUInt32 31)).toInt32)) &&& 252645135) + ((((((((nI n) - ((((nI n).toUInt32 >>> ((1 : Int32).toUInt32 &&& Int32.toUInt32 31)).toInt32) &&& 1431655765)) &&& 858993459) + (((((nI n) - ((((nI n).toUInt32 >>> ((1 : Int32).toUInt32 &&& Int32.toUInt32 31)).toInt32) &&& 1431655765)).toUInt32 >>> ((2 : Int32).toUInt32 &&& Int32.toUInt32 31)).toInt32) &&& 858993459)) + ((((((nI n) - ((((nI n).toUInt32 >>> ((1 : Int32).toUInt32 &&& Int32.toUInt32 31)).toInt32) &&& 1431655765)) &&& 858993459) + (((((nI n) - ((((nI n).toUInt32 >>> ((1 : Int32).toUInt32 &&& Int32.toUInt32 31)).toInt32) &&& 1431655765)).toUInt32 >>> ((2 : Int32).toUInt32 &&& Int32.toUInt32 31)).toInt32) &&& 858993459)).toUInt32 >>> ((4 : Int32).toUInt32 &&& Int32.toUInt32 31)).toInt32)) &&& 252645135).toUInt32 >>> ((8 : Int32).toUInt32 &&& Int32.toUInt32 31)).toInt32)) + (((((((((nI n) - ((((nI n).toUInt32 >>> ((1 : Int32).toUInt32 &&& Int32.toUInt32 31)).toInt32) &&& 1431655765)) &&& 858993459) + (((((nI n) - ((((nI n).toUInt32 >>> ((1 : Int32).toUInt32 &&& Int32.toUInt32 31)).toInt32) &&& 1431655765)).toUInt32 >>> ((2 : Int32).toUInt32 &&& Int32.toUInt32 31)).toInt32) &&& 858993459)) + ((((((nI n) - ((((nI n).toUInt32 >>> ((1 : Int32).toUInt32 &&& Int32.toUInt32 31)).toInt32) &&& 1431655765)) &&& 858993459) + (((((nI n) - ((((nI n).toUInt32 >>> ((1 : Int32).toUInt32 &&& Int32.toUInt32 31)).toInt32) &&& 1431655765)).toUInt32 >>> ((2 : Int32).toUInt32 &&& Int32.toUInt32 31)).toInt32) &&& 858993459)).toUInt32 >>> ((4 : Int32).toUInt32 &&& Int32.toUInt32 31)).toInt32)) &&& 252645135) + ((((((((nI n) - ((((nI n).toUInt32 >>> ((1 : Int32).toUInt32 &&& Int32.toUInt32 31)).toInt32) &&& 1431655765)) &&& 858993459) + (((((nI n) - ((((nI n).toUInt32 >>> ((1 : Int32).toUInt32 &&& Int32.toUInt32 31)).toInt32) &&& 1431655765)).toUInt32 >>> ((2 : Int32).toUInt32 &&& Int32.toUInt32 31)).toInt32) &&& 858993459)) + ((((((nI n) - ((((nI n).toUInt32 >>> ((1 : Int32).toUInt32 &&& Int32.toUInt32 31)).toInt32) &&& 1431655765)) &&& 858993459) + (((((nI n) - ((((nI n).toUInt32 >>> ((1 : Int32).toUInt32 &&& Int32.toUInt32 31)).toInt32) &&& 1431655765)).toUInt32 >>> ((2 : Int32).toUInt32 &&& Int32.toUInt32 31)).toInt32) &&& 858993459)).toUInt32 >>> ((4 : Int32).toUInt32 &&& Int32.toUInt32 31)).toInt32)) &&& 252645135).toUInt32 >>> ((8 : Int32).toUInt32 &&& Int32.toUInt32 31)).toInt32)).toUInt32 >>> ((16 : Int32).toUInt32 &&& Int32.toUInt32 31)).toInt32)) &&& 63) = nI (wpb n 12) := by
  have l1 : n / 2 ^ 1 &&& 1431655765 ≤ n / 2 ^ 1 := Nat.and_le_left
  have b1 : pq1 n < 4096 := by unfold pq1; omega
  have e1 : nI n - (((nI n).toUInt32 >>> ((1 : Int32).toUInt32 &&& Int32.toUInt32 31)).toInt32 &&& 1431655765) = nI (pq1 n) := by
    rw [pk_ushrN (by omega) 1 1 (by decide), show (1431655765 : Int32) = nI 1431655765 from rfl, nI_and, pk_sub (by omega)]; rfl
  rw [e1]
  generalize hm : pq1 n = m at *
  have l2 : m &&& 858993459 ≤ m := Nat.and_le_left
  have l3 : m / 2 ^ 2 &&& 858993459 ≤ m / 2 ^ 2 := Nat.and_le_left
  have b2 : pq2 m < 8192 := by unfold pq2; omega
  have e2 : (nI m &&& 858993459) + (((nI m).toUInt32 >>> ((2 : Int32).toUInt32 &&& Int32.toUInt32 31)).toInt32 &&& 858993459) = nI (pq2 m) := by
    rw [pk_ushrN (by omega) 2 2 (by decide), show (858993459 : Int32) = nI 858993459 from rfl, nI_and, nI_and, nI_add]; rfl
  rw [e2]
  generalize hk : pq2 m = k at *
  have l4 : (k + k / 2 ^ 4) &&& 252645135 ≤ k + k / 2 ^ 4 := Nat.and_le_left
  have b3 : pq3 k < 16384 := by unfold pq3; omega
  have e3 : (nI k + ((nI k).toUInt32 >>> ((4 : Int32).toUInt32 &&& Int32.toUInt32 31)).toInt32) &&& 252645135 = nI (pq3 k) := by
    rw [pk_ushrN (by omega) 4 4 (by decide), nI_add, show (252645135 : Int32) = nI 252645135 from rfl, nI_and]; rfl
  rw [e3]
  generalize hj : pq3 k = j at *
  have b4 : pq4 j < 32768 := by unfold pq4; omega
  have e4 : nI j + ((nI j).toUInt32 >>> ((8 : Int32).toUInt32 &&& Int32.toUInt32 31)).toInt32 = nI (pq4 j) := by
    rw [pk_ushrN (by omega) 8 8 (by decide), nI_add]; rfl
  rw [e4]
  generalize hi : pq4 j = i at *
  have e5 : nI i + ((nI i).toUInt32 >>> ((16 : Int32).toUInt32 &&& Int32.toUInt32 31)).toInt32 = nI (pq5 i) := by
    rw [pk_ushrN (by omega) 16 16 (by decide), nI_add]; rfl
  rw [e5, show (63 : Int32) = nI 63 from rfl, nI_and]
  subst hi; subst hj; subst hk; subst hm
  rw [pq_e n h]
theorem wpb_k0 : ∀ a, a < 64 → ∀ b, b < 64 → 64 * a + b = 0 ∨ ((64 * a + b &&& (64 * a + b - 1)) < 64 * a + b ∧ wpb (64 * a + b) 12 = wpb (64 * a + b &&& (64 * a + b - 1)) 12 + 1) := by decide +kernel
theorem wpb_k (n : Nat) (h : n < 4096) : n = 0 ∨ ((n &&& (n - 1)) < n ∧ wpb n 12 = wpb (n &&& (n - 1)) 12 + 1) := by
  have h1 := wpb_k0 (n / 64) (by omega) (n % 64) (by omega)
  rw [show 64 * (n / 64) + n % 64 = n from by omega] at h1; exact h1
theorem r225 (d nL : Nat) (o0 : Option sm_V) (B : sm_M) (Q : sm_Q) : ∀ (f n c : Nat), n < f → n < 4096 → sm_W d 225 4 [o0, vi (nI c), vi (nI n)] [] (sm_G0 nL) B Q = Q (vi (nI (c + wpb n 12))) (sm_G0 nL) B := by
  intro f
  induction f with
  | zero => intro n c hn; exact absurd hn (Nat.not_lt_zero _)
  | succ f ih =>
    intro n c hn h
    rw [T225_4]
    rcases wpb_k n h with rfl | ⟨h1, h2⟩
    · rw [mm_bt (show nI 0 = 0 from rfl), show wpb 0 12 = 0 from by decide]; rfl
    · have h0 : 0 < n := by omega
      rw [mm_bf (nI_ne0 h0 (by omega)), show (1 : Int32) = nI 1 from rfl, pk_sub (show 1 ≤ n by omega), nI_add, nI_and, ih (n &&& (n - 1)) (c + 1) (by omega) (by omega), h2, show c + 1 + wpb (n &&& (n - 1)) 12 = c + (wpb (n &&& (n - 1)) 12 + 1) from by omega]
