/-! line: shift of J_tp3, eighths, the place on the tape, the way over the cells -/
theorem J_tp3_s {B : sm_M} (h : J_tp3 B) {t t2 a b c : Nat} (ht : t < 6) (ht2 : t2 < 6) (ha : a + c ≤ 60) (hb : b + c ≤ 60) (hs : B 96 0 t = B 96 0 t2) : J_tp3 (shB B (60 * t + a) (60 * t2 + b) c) := by
  intro u hu e j hj h9
  have e' : B 96 0 u = 3 := e
  by_cases hh : u = t2 ∧ b ≤ j ∧ j < b + c
  · obtain ⟨rfl, h1, h2⟩ := hh
    have e8 : shB B (60 * t + a) (60 * u + b) c 98 0 (60 * u + j) = B 98 0 (60 * t + (a + (j - b))) := by
      have hx : shB B (60 * t + a) (60 * u + b) c 98 0 (60 * u + j) = s1 B (60 * t + a) c 100 0 (60 * u + j - (60 * u + b)) := if_pos ⟨rfl, rfl, by omega, by omega⟩
      rw [hx]
      exact (if_pos ⟨rfl, rfl, by omega⟩ : s1 B (60 * t + a) c 100 0 (60 * u + j - (60 * u + b)) = B 98 0 (60 * t + a + (60 * u + j - (60 * u + b)))).trans (by rw [show 60 * t + a + (60 * u + j - (60 * u + b)) = 60 * t + (a + (j - b)) from by omega])
    have e9 : shB B (60 * t + a) (60 * u + b) c 99 0 (60 * u + j) = B 99 0 (60 * t + (a + (j - b))) := by
      have hx : shB B (60 * t + a) (60 * u + b) c 99 0 (60 * u + j) = s1 B (60 * t + a) c 101 0 (60 * u + j - (60 * u + b)) := if_pos ⟨rfl, rfl, by omega, by omega⟩
      rw [hx]
      exact ((if_neg (fun h => absurd h.1 (by decide))).trans (if_pos ⟨rfl, rfl, by omega⟩) : s1 B (60 * t + a) c 101 0 (60 * u + j - (60 * u + b)) = B 99 0 (60 * t + a + (60 * u + j - (60 * u + b)))).trans (by rw [show 60 * t + a + (60 * u + j - (60 * u + b)) = 60 * t + (a + (j - b)) from by omega])
    rw [e9] at h9
    rw [e8]
    exact h t ht (hs.trans e') (a + (j - b)) (by omega) h9
  · have e8 : shB B (60 * t + a) (60 * t2 + b) c 98 0 (60 * u + j) = B 98 0 (60 * u + j) := (if_neg (fun hh => by omega)).trans (if_neg (fun h => absurd h.1 (by decide)))
    have e9 : shB B (60 * t + a) (60 * t2 + b) c 99 0 (60 * u + j) = B 99 0 (60 * u + j) := if_neg (fun hh => by omega)
    rw [e9] at h9; rw [e8]; exact h u hu e' j hj h9
theorem fd_neg (v : Int32) : (v ^^^ 8 < 0) = (v.toInt < 0) := by
  have h1 : ∀ x : Int32, (x < 0) = (x.toBitVec.msb = true) := fun x => by
    rw [Int32.lt_iff_toInt_lt, BitVec.msb_eq_toInt, decide_eq_true_eq]; rfl
  have h2 : (v.toInt < 0) = (v < 0) := by rw [Int32.lt_iff_toInt_lt]; rfl
  rw [h2, h1, h1, Int32.toBitVec_xor, BitVec.msb_xor, show (8 : Int32).toBitVec.msb = false from by decide, Bool.xor_false]
theorem fd_b (v : Int32) : -2147483648 ≤ v.toInt ∧ v.toInt < 2147483648 := ⟨Int32.le_toInt v, Int32.toInt_lt v⟩
theorem fd_t (z : Int) (h : -2147483648 ≤ z ∧ z < 2147483648) : z.bmod (2 ^ 32) = z := Int.bmod_eq_of_le (by omega) (by omega)
theorem fd_td (z : Int) (h : -2147483648 ≤ z ∧ z < 2147483648) : (0 ≤ z → z.tdiv 8 = z / 8) ∧ (z < 0 → z.tdiv 8 = -((-z) / 8)) := by
  refine ⟨fun h0 => Int.tdiv_eq_ediv_of_nonneg h0, fun h0 => ?_⟩
  have e : z = -(-z) := by omega
  rw [e, Int.neg_tdiv, Int.tdiv_eq_ediv_of_nonneg (by omega)]
  rw [Int.neg_neg]
theorem fd_dv (v : Int32) : (v / 8).toInt = v.toInt.tdiv 8 := by
  have hb := fd_b v
  have ht := fd_td v.toInt hb
  rw [Int32.toInt_div, show (8 : Int32).toInt = 8 from rfl]
  refine fd_t _ ?_
  by_cases h0 : 0 ≤ v.toInt
  · rw [ht.1 h0]; omega
  · rw [ht.2 (by omega)]; omega
theorem fd_sh (v : Int32) : (v >>> ((3 : Int32) &&& 31)).toInt = v.toInt / 8 := by
  rw [pk_shr v ((3 : Int32) &&& 31) 3 (by decide), Int.shiftRight_eq_div_pow]; rfl
theorem mm_fd8 (v : Int32) : (¬ (v ^^^ 8 < 0) → v / 8 = v >>> ((3 : Int32) &&& 31)) ∧ (v ^^^ 8 < 0 → v / 8 * 8 = v → v / 8 = v >>> ((3 : Int32) &&& 31)) ∧ (v ^^^ 8 < 0 → ¬ v / 8 * 8 = v → v / 8 - 1 = v >>> ((3 : Int32) &&& 31)) := by
  have hb := fd_b v
  have ht := fd_td v.toInt hb
  rw [fd_neg]
  have em : (v / 8 * 8 = v) = (v.toInt.tdiv 8 * 8 = v.toInt) := by
    rw [← Int32.toInt_inj, Int32.toInt_mul, fd_dv, show (8 : Int32).toInt = 8 from rfl, fd_t]
    by_cases h0 : 0 ≤ v.toInt
    · rw [ht.1 h0]; omega
    · rw [ht.2 (by omega)]; omega
  refine ⟨fun h => ?_, fun h h2 => ?_, fun h h2 => ?_⟩
  · rw [← Int32.toInt_inj, fd_dv, fd_sh]; exact ht.1 (by omega)
  · rw [em, ht.2 h] at h2
    rw [← Int32.toInt_inj, fd_dv, fd_sh, ht.2 h]; omega
  · rw [em, ht.2 h] at h2
    rw [← Int32.toInt_inj, Int32.toInt_sub, fd_dv, fd_sh, ht.2 h, show (1 : Int32).toInt = 1 from rfl, fd_t _ (by omega)]; omega
/-- the place on the tape: in it for both, or before or behind it for both -/
theorem mm_at (x : Int32) {k m : Nat} (hk : k < 48) (hm : m ≤ 60) : (∃ i, i < m ∧ x + nI k = nI i ∧ ¬ lg_cmp (x.toInt64 + (nI k).toInt64) (Int32.toInt64 0) < 0 ∧ lg_cmp (x.toInt64 + (nI k).toInt64) (nI m).toInt64 < 0 ∧ (x.toInt64 + (nI k).toInt64).toInt32 = nI i) ∨ ((x + nI k < 0 ∨ (¬ x + nI k < 0 ∧ ¬ x + nI k < nI m)) ∧ (lg_cmp (x.toInt64 + (nI k).toInt64) (Int32.toInt64 0) < 0 ∨ (¬ lg_cmp (x.toInt64 + (nI k).toInt64) (Int32.toInt64 0) < 0 ∧ ¬ lg_cmp (x.toInt64 + (nI k).toInt64) (nI m).toInt64 < 0))) := by
  have hb := fd_b x
  have kk := nI_toInt (show k < 2 ^ 31 by omega)
  have mk := nI_toInt (show m < 2 ^ 31 by omega)
  have e64 : (x.toInt64 + (nI k).toInt64).toInt = x.toInt + k := by
    rw [Int64.toInt_add, Int32.toInt_toInt64, Int32.toInt_toInt64, kk]
    exact Int.bmod_eq_of_le (by omega) (by omega)
  have c0 : (lg_cmp (x.toInt64 + (nI k).toInt64) (Int32.toInt64 0) < 0) = (x.toInt + k < 0) := by
    rw [propext (lg_cmp_lt _ _), Int64.lt_iff_toInt_lt, e64, Int32.toInt_toInt64]; rfl
  have cm : (lg_cmp (x.toInt64 + (nI k).toInt64) (nI m).toInt64 < 0) = (x.toInt + k < m) := by
    rw [propext (lg_cmp_lt _ _), Int64.lt_iff_toInt_lt, e64, Int32.toInt_toInt64, mk]
  have e32 : (x + nI k).toInt = (x.toInt + k).bmod (2 ^ 32) := by rw [Int32.toInt_add, kk]
  rw [c0, cm]
  by_cases h0 : x.toInt + k < 0
  · refine .inr ⟨.inl ?_, .inl h0⟩
    rw [Int32.lt_iff_toInt_lt, e32, fd_t _ (by omega)]; exact h0
  by_cases h1 : x.toInt + k < m
  · have e : x + nI k = nI (x.toInt + k).toNat := by
      rw [← Int32.toInt_inj, e32, fd_t _ (by omega), nI_toInt (by omega)]; omega
    refine .inl ⟨(x.toInt + k).toNat, by omega, e, h0, h1, ?_⟩
    rw [Int64.toInt32_add, Int32.toInt32_toInt64, Int32.toInt32_toInt64]; exact e
  · refine .inr ⟨?_, .inr ⟨h0, h1⟩⟩
    by_cases h2 : x.toInt + k < 2147483648
    · refine .inr ⟨?_, ?_⟩
      · rw [Int32.lt_iff_toInt_lt, e32, fd_t _ (by omega)]; exact h0
      · rw [Int32.lt_iff_toInt_lt, e32, fd_t _ (by omega), mk]; exact h1
    · refine .inl ?_
      rw [Int32.lt_iff_toInt_lt, e32]
      have e3 : (x.toInt + k).bmod (2 ^ 32) = x.toInt + k - 4294967296 := by
        rw [← Int.sub_bmod_right (x.toInt + k) (2 ^ 32)]
        exact fd_t _ (by omega)
      rw [e3]; show x.toInt + k - 4294967296 < 0; omega
def wrs1 (dir : Nat) : Int32 := if dir = 1 then 1 else if dir = 3 then -1 else 0
def wcs1 (dir : Nat) : Int32 := if dir = 0 then 1 else if dir = 2 then -1 else 0
/-- the class's cell against the reference's row and column: in the bay, or beyond its edge for both -/
def REL (y r c : Int32) : Prop := (∃ q, q < 48 ∧ y = nI q ∧ r = nI (q / 8) ∧ c = nI (q % 8)) ∨ (y = -1 ∧ (r < 0 ∨ 5 < r ∨ c < 0 ∨ 7 < c))
theorem st0 : ∀ q, q < 48 → ((nI q - nI q / 8 * 8) < 7 ∧ q + 1 < 48 ∧ nI (q / 8) + wrs1 0 = nI ((q + 1) / 8) ∧ nI (q % 8) + wcs1 0 = nI ((q + 1) % 8)) ∨ (¬ (nI q - nI q / 8 * 8) < 7 ∧ 7 < nI (q % 8) + wcs1 0) := by decide +kernel
theorem st1 : ∀ q, q < 48 → ((nI q + 8) < 48 ∧ q + 8 < 48 ∧ nI (q / 8) + wrs1 1 = nI ((q + 8) / 8) ∧ nI (q % 8) + wcs1 1 = nI ((q + 8) % 8)) ∨ (¬ (nI q + 8) < 48 ∧ 5 < nI (q / 8) + wrs1 1) := by decide +kernel
theorem st2 : ∀ q, q < 48 → (0 < (nI q - nI q / 8 * 8) ∧ 1 ≤ q ∧ nI (q / 8) + wrs1 2 = nI ((q - 1) / 8) ∧ nI (q % 8) + wcs1 2 = nI ((q - 1) % 8)) ∨ (¬ 0 < (nI q - nI q / 8 * 8) ∧ nI (q % 8) + wcs1 2 < 0) := by decide +kernel
theorem st3 : ∀ q, q < 48 → (nI q < 8 ∧ nI (q / 8) + wrs1 3 < 0) ∨ (¬ nI q < 8 ∧ 8 ≤ q ∧ nI (q / 8) + wrs1 3 = nI ((q - 8) / 8) ∧ nI (q % 8) + wcs1 3 = nI ((q - 8) % 8)) := by decide +kernel
abbrev v26 (u : Nat) : Option sm_V := some (Sum.inr (Sum.inr (some (26, u))))
theorem m141q (nL u : Nat) {dir q : Nat} (hd : dir < 4) (hq : q < 48) : ∃ y', REL y' (nI (q / 8) + wrs1 dir) (nI (q % 8) + wcs1 dir) ∧ ∀ d Q x0 o1 x3 o4 x5 x6 x8 x10 s11 (A : sm_M), sm_W (d + 4) 32 141 [vo 10, vi x0, o1, vi (nI dir), vi x3, o4, vi x5, vi x6, v26 u, vi x8, vi (nI q), vi x10] [Sum.inl s11, Sum.inr (Sum.inr (some (10, 0)))] (sm_G0 nL) A Q = sm_W (d + 4) 32 107 [vo 10, vi x0, o1, vi (nI dir), vi x3, o4, vi x5, vi x6, v26 u, vi x8, vi y', vi (x10 + 1)] [] (sm_G0 nL) (sm_u A 10 0 14 s11) Q := by
  have q0 : ¬ nI q < 0 := nI_pos (by omega)
  have q48 : nI q < (48 : Int32) := nI_lt hq (by decide)
  have h4 : dir = 0 ∨ dir = 1 ∨ dir = 2 ∨ dir = 3 := by omega
  rcases h4 with rfl | rfl | rfl | rfl
  · rcases st0 q hq with ⟨h1, h2, h3, h4⟩ | ⟨h1, h2⟩
    · exact ⟨nI (q + 1), .inl ⟨q + 1, h2, rfl, h3, h4⟩, fun d Q x0 o1 x3 o4 x5 x6 x8 x10 s11 A => by rw [T32_141, mm_bf q0, mm_bt q48, mm_bt (by decide), mm_bt h1, nI_1]⟩
    · exact ⟨-1, .inr ⟨rfl, .inr (.inr (.inr h2))⟩, fun d Q x0 o1 x3 o4 x5 x6 x8 x10 s11 A => by rw [T32_141, mm_bf q0, mm_bt q48, mm_bt (by decide), mm_bf h1]⟩
  · rcases st1 q hq with ⟨h1, h2, h3, h4⟩ | ⟨h1, h2⟩
    · exact ⟨nI q + 8, .inl ⟨q + 8, h2, by show nI q + nI 8 = _; rw [nI_add], h3, h4⟩, fun d Q x0 o1 x3 o4 x5 x6 x8 x10 s11 A => by rw [T32_141, mm_bf q0, mm_bt q48, mm_bf (by decide), mm_bt (by decide), mm_bt h1]⟩
    · exact ⟨-1, .inr ⟨rfl, .inr (.inl h2)⟩, fun d Q x0 o1 x3 o4 x5 x6 x8 x10 s11 A => by rw [T32_141, mm_bf q0, mm_bt q48, mm_bf (by decide), mm_bt (by decide), mm_bf h1]⟩
  · rcases st2 q hq with ⟨h1, h2, h3, h4⟩ | ⟨h1, h2⟩
    · exact ⟨nI q - 1, .inl ⟨q - 1, by omega, by show nI q - nI 1 = _; rw [pk_sub h2], h3, h4⟩, fun d Q x0 o1 x3 o4 x5 x6 x8 x10 s11 A => by rw [T32_141, mm_bf q0, mm_bt q48, mm_bf (by decide), mm_bf (by decide), mm_bt (by decide), mm_bt h1]⟩
    · exact ⟨-1, .inr ⟨rfl, .inr (.inr (.inl h2))⟩, fun d Q x0 o1 x3 o4 x5 x6 x8 x10 s11 A => by rw [T32_141, mm_bf q0, mm_bt q48, mm_bf (by decide), mm_bf (by decide), mm_bt (by decide), mm_bf h1]⟩
  · rcases st3 q hq with ⟨h1, h2⟩ | ⟨h1, h2, h3, h4⟩
    · exact ⟨-1, .inr ⟨rfl, .inl h2⟩, fun d Q x0 o1 x3 o4 x5 x6 x8 x10 s11 A => by rw [T32_141, mm_bf q0, mm_bt q48, mm_bf (by decide), mm_bf (by decide), mm_bf (by decide), mm_bt h1]⟩
    · exact ⟨nI q - 8, .inl ⟨q - 8, by omega, by show nI q - nI 8 = _; rw [pk_sub h2], h3, h4⟩, fun d Q x0 o1 x3 o4 x5 x6 x8 x10 s11 A => by rw [T32_141, mm_bf q0, mm_bt q48, mm_bf (by decide), mm_bf (by decide), mm_bf (by decide), mm_bf h1]⟩
