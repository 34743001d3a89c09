/-! distance -/
def wad (p q : Nat) : Nat := if p < q then q - p else p - q
def wmx (u v : Nat) : Nat := if u < v then v else u
def wdist (a b : Nat) : Nat := wmx (wad (a / 8) (b / 8)) (wad (a % 8) (b % 8))
theorem mm_8 : (8 : Int32) = nI 8 := rfl
theorem m49q (u v : Nat) (hu : u < 2 ^ 30) (hv : v < 2 ^ 30) (Q : sm_Q) (G : sm_G) (M : sm_M) : sm_Br (decide (nI u < nI v)) (Q (some (Sum.inl (nI v))) G M) (Q (some (Sum.inl (nI u))) G M) = Q (some (Sum.inl (nI (wmx u v)))) G M := by
  unfold wmx
  by_cases h : u < v
  · rw [mm_bt (nI_lt h (by omega)), if_pos h]
  · rw [mm_bf (nI_nlt (by omega) (by omega)), if_neg h]
theorem r189q (u v : Nat) (hu : u < 2 ^ 30) (hv : v < 2 ^ 30) (Q : sm_Q) (G : sm_G) (M : sm_M) : sm_Br (decide (nI v < nI u)) (Q (some (Sum.inl (nI u))) G M) (Q (some (Sum.inl (nI v))) G M) = Q (some (Sum.inl (nI (wmx u v)))) G M := by
  unfold wmx
  by_cases h : u < v
  · rw [mm_bf (nI_nlt (by omega) (by omega)), if_pos h]
  · rw [if_neg h]
    by_cases h2 : v < u
    · rw [mm_bt (nI_lt h2 (by omega))]
    · rw [mm_bf (nI_nlt (by omega) (by omega)), show v = u from by omega]
theorem m49 (d : Nat) {a b : Nat} (ha : a < 2 ^ 30) (hb : b < 2 ^ 30) (M : sm_M) (G : sm_G) (Q : sm_Q) : sm_W (d + 1) 49 0 [vi (nI a), vi (nI b)] [] G M Q = Q (vi (nI (wdist a b))) G M := by
  rw [T49, mm_8, pk_rem (by omega) (by decide) (by decide), pk_rem (by omega) (by decide) (by decide), pk_div (by omega) (by decide) (by decide), pk_div (by omega) (by decide) (by decide)]
  unfold wdist
  have h1 : a / 8 < 2 ^ 30 := by omega
  have h2 : b / 8 < 2 ^ 30 := by omega
  have h3 : a % 8 < 2 ^ 30 := by omega
  have h4 : b % 8 < 2 ^ 30 := by omega
  generalize a / 8 = p at *
  generalize b / 8 = q at *
  generalize a % 8 = r at *
  generalize b % 8 = s at *
  unfold wad
  by_cases c1 : p < q
  · rw [mm_bt (pk_sneg (by omega) c1), if_pos c1, Int32.neg_sub, pk_sub (show p ≤ q by omega)]
    by_cases c2 : r < s
    · rw [mm_bt (pk_sneg (by omega) c2), if_pos c2, Int32.neg_sub, pk_sub (show r ≤ s by omega)]
      exact m49q _ _ (by omega) (by omega) Q G M
    · rw [pk_sub (show s ≤ r by omega), mm_bf (nI_pos (by omega)), if_neg c2]
      exact m49q _ _ (by omega) (by omega) Q G M
  · rw [pk_sub (show q ≤ p by omega), mm_bf (nI_pos (by omega)), if_neg c1]
    by_cases c2 : r < s
    · rw [mm_bt (pk_sneg (by omega) c2), if_pos c2, Int32.neg_sub, pk_sub (show r ≤ s by omega)]
      exact m49q _ _ (by omega) (by omega) Q G M
    · rw [pk_sub (show s ≤ r by omega), mm_bf (nI_pos (by omega)), if_neg c2]
      exact m49q _ _ (by omega) (by omega) Q G M
theorem r189 (d : Nat) {a b : Nat} (ha : a < 2 ^ 30) (hb : b < 2 ^ 30) (o2 o3 : Option sm_V) (M : sm_M) (G : sm_G) (Q : sm_Q) : sm_W (d + 1) 189 0 [vi (nI a), vi (nI b), o2, o3] [] G M Q = Q (vi (nI (wdist a b))) G M := by
  rw [T189, mm_8, pk_rem (by omega) (by decide) (by decide), pk_rem (by omega) (by decide) (by decide), pk_div (by omega) (by decide) (by decide), pk_div (by omega) (by decide) (by decide)]
  unfold wdist
  have h1 : a / 8 < 2 ^ 30 := by omega
  have h2 : b / 8 < 2 ^ 30 := by omega
  have h3 : a % 8 < 2 ^ 30 := by omega
  have h4 : b % 8 < 2 ^ 30 := by omega
  generalize a / 8 = p at *
  generalize b / 8 = q at *
  generalize a % 8 = r at *
  generalize b % 8 = s at *
  unfold wad
  by_cases c1 : p < q
  · rw [mm_bt (nI_lt c1 (by omega)), if_pos c1, pk_sub (show p ≤ q by omega)]
    by_cases c2 : r < s
    · rw [mm_bt (nI_lt c2 (by omega)), if_pos c2, pk_sub (show r ≤ s by omega)]
      exact r189q _ _ (by omega) (by omega) Q G M
    · rw [mm_bf (nI_nlt (by omega) (by omega)), if_neg c2, pk_sub (show s ≤ r by omega)]
      exact r189q _ _ (by omega) (by omega) Q G M
  · rw [mm_bf (nI_nlt (by omega) (by omega)), if_neg c1, pk_sub (show q ≤ p by omega)]
    by_cases c2 : r < s
    · rw [mm_bt (nI_lt c2 (by omega)), if_pos c2, pk_sub (show r ≤ s by omega)]
      exact r189q _ _ (by omega) (by omega) Q G M
    · rw [mm_bf (nI_nlt (by omega) (by omega)), if_neg c2, pk_sub (show s ≤ r by omega)]
      exact r189q _ _ (by omega) (by omega) Q G M
