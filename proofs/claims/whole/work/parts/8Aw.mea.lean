/-! what stands on a copy -/
def won (B : sm_M) (e : Nat) (to v : Int32) : Bool := !decide (v < 0) && !decide (to < v) && decide (B 82 0 e < B 85 0 (cl v))
def wnk (B : sm_M) (c : Int32) (i : Nat) : Bool := (decide (B 59 0 i = 2) || decide (B 59 0 i = 3) || decide (B 59 0 i = 5)) && decide (B 60 0 i = c)
def wlf (B : sm_M) (e : Nat) (to c z : Int32) : Nat → Int32
  | 0 => z
  | i + 1 => if (wnk B c i && (won B e to (B 67 0 i) && !won B e to (B 68 0 i))) = true then wls (wlf B e to c z i) (B 62 0 i) else wlf B e to c z i
theorem wlf_z (B : sm_M) (e : Nat) (to c z : Int32) : ∀ i, wlf B e to c z i = wls z (wlf B e to c (-1000000) i)
  | 0 => by show z = wls z (-1000000); rw [wls_0]
  | i + 1 => by
    have h := wlf_z B e to c z i
    show (if _ = true then wls (wlf B e to c z i) (B 62 0 i) else wlf B e to c z i) = wls z (if _ = true then wls (wlf B e to c (-1000000) i) (B 62 0 i) else wlf B e to c (-1000000) i)
    by_cases hw : (wnk B c i && (won B e to (B 67 0 i) && !won B e to (B 68 0 i))) = true
    · rw [if_pos hw, if_pos hw, h, wls_as]
    · rw [if_neg hw, if_neg hw, h]
/-- all that a copy's reading hangs on -/
def VC (A B : sm_M) (c e k c0 r q z t s u qn E S K : Nat) : Prop := VW A B t s ∧ c < 24 ∧ A 25 c 0 = nI e ∧ B 87 0 c = nI e ∧ e < E ∧ E ≤ 60 ∧ A 10 0 7 = nI E ∧ A 24 e 0 = nI k ∧ B 81 0 e = nI k ∧ k < S ∧ S ≤ 16 ∧ A 10 0 5 = nI S ∧ SA A k c0 r q z ∧ K_sh0 B k c0 r q z ∧ A 24 e 3 = nI u ∧ u ≤ qn ∧ qn ≤ 60 ∧ (∀ i, i < 12 → A 46 e i = B 84 0 (12 * e + i)) ∧ (∀ i, i < t → A 42 i 9 = B 67 0 i ∧ A 42 i 10 = B 68 0 i ∧ (B 67 0 i = -1 ∨ ∃ j, j < qn ∧ B 67 0 i = nI j) ∧ (B 68 0 i = -1 ∨ ∃ j, j < qn ∧ B 68 0 i = nI j)) ∧ (∀ j, j < qn → (j < u ↔ ¬ B 82 0 e < B 85 0 j)) ∧ K ≤ 99 ∧ B 11 0 55 = nI K ∧ A 25 c 4 = nI (wcn B c K) ∧ (∀ j, j < K → B 89 0 j = nI c → A 47 c (wcn B c j) = B 90 0 j ∧ A 48 c (wcn B c j) = B 91 0 j)
theorem wnc {B : sm_M} {e u qn : Nat} (hq : qn ≤ 60) (hu : u ≤ qn) (hj : ∀ j, j < qn → (j < u ↔ ¬ B 82 0 e < B 85 0 j)) {v : Int32} (hv : v = -1 ∨ ∃ j, j < qn ∧ v = nI j) (to : Int32) (S T : Prop) : sm_Br (decide (v < nI u)) S (sm_Br (decide (to < v)) S T) = if won B e to v = true then T else S := by
  unfold won
  rcases hv with rfl | ⟨j, hjq, rfl⟩
  · have h1 : (-1 : Int32) < nI u := by
      rw [Int32.lt_iff_toInt_lt, nI_toInt (by omega), show ((-1 : Int32)).toInt = -1 from by decide]; omega
    rw [mm_bt h1]; simp [mm_m1]
  · have h0 : ¬ nI j < 0 := nI_pos (by omega)
    have hlt : (nI j < nI u) = (j < u) := propext (nI_ltI (by omega) (by omega))
    have hcl : cl (nI j) = j := nI_clamp (by omega)
    rw [hcl]
    by_cases hju : j < u
    · have h2 := (hj j hjq).mp hju
      rw [mm_bt (hlt.mpr hju)]; simp [h2]
    · have h2 : B 82 0 e < B 85 0 j := Decidable.not_not.mp (fun h => hju ((hj j hjq).mpr h))
      rw [mm_bf (fun h => hju (hlt.mp h))]
      by_cases h3 : to < nI j
      · rw [mm_bt h3]; simp [h3]
      · rw [mm_bf h3]; simp [h0, h2, h3]
theorem m126 {A B : sm_M} {c e k c0 r q z t s u qn E S K : Nat} (nL : Nat) (hC : VC A B c e k c0 r q z t s u qn E S K) (x to : Int32) (d : Nat) (Q : sm_Q) : ∀ j i o5, i + j = t → sm_W (d + 2) 126 7 [vo 14, vi x, vi (nI u), vi to, vi (wlf B e to x (-1000000) i), vi (nI i), o5] [] (sm_G0 nL) A Q = Q (vi (wlf B e to x (-1000000) t)) (sm_G0 nL) A := by
  obtain ⟨⟨ht, hs, ta, sa, tb, sb, hT, hSv⟩, -, -, -, -, -, -, -, -, -, -, -, -, -, -, hu, hq, -, hN, hj, -⟩ := hC
  intro j
  induction j with
  | zero =>
    intro i o5 hi
    have hi' : i = t := by omega
    subst hi'
    rw [T126_7, ta, mm_bf (nI_nlt (Nat.le_refl _) (by omega))]
  | succ j ih =>
    intro i o5 hi
    have h3 := fun o => ih (i + 1) o (by omega)
    obtain ⟨k1, k2, k3, k4, -⟩ := hT i (by omega)
    obtain ⟨n9, n10, n67, n68⟩ := hN i (by omega)
    have hw : wlf B e to x (-1000000) (i + 1) = if (wnk B x i && (won B e to (B 67 0 i) && !won B e to (B 68 0 i))) = true then wls (wlf B e to x (-1000000) i) (B 62 0 i) else wlf B e to x (-1000000) i := rfl
    have tail : sm_Br (decide (B 67 0 i < nI u)) (sm_W (d + 2) 126 7 [vo 14, vi x, vi (nI u), vi to, vi (wlf B e to x (-1000000) i), vi (nI (i + 1)), some (Sum.inr (Sum.inr (some (42, i))))] [] (sm_G0 nL) A Q) (sm_Br (decide (to < B 67 0 i)) (sm_W (d + 2) 126 7 [vo 14, vi x, vi (nI u), vi to, vi (wlf B e to x (-1000000) i), vi (nI (i + 1)), some (Sum.inr (Sum.inr (some (42, i))))] [] (sm_G0 nL) A Q) (sm_Br (decide (B 68 0 i < nI u)) (sm_W (d + 1) 88 0 [vi (wlf B e to x (-1000000) i), vi (B 62 0 i)] [] (sm_G0 nL) A (fun r G1 M1 => sm_W (d + 2) 126 79 [vo 14, vi x, vi (nI u), vi to, vi (wlf B e to x (-1000000) i), vi (nI i), some (Sum.inr (Sum.inr (some (42, i))))] (sm_push r []) G1 M1 Q)) (sm_Br (decide (to < B 68 0 i)) (sm_W (d + 1) 88 0 [vi (wlf B e to x (-1000000) i), vi (B 62 0 i)] [] (sm_G0 nL) A (fun r G1 M1 => sm_W (d + 2) 126 79 [vo 14, vi x, vi (nI u), vi to, vi (wlf B e to x (-1000000) i), vi (nI i), some (Sum.inr (Sum.inr (some (42, i))))] (sm_push r []) G1 M1 Q)) (sm_W (d + 2) 126 7 [vo 14, vi x, vi (nI u), vi to, vi (wlf B e to x (-1000000) i), vi (nI (i + 1)), some (Sum.inr (Sum.inr (some (42, i))))] [] (sm_G0 nL) A Q)))) = sm_W (d + 2) 126 7 [vo 14, vi x, vi (nI u), vi to, vi (if (won B e to (B 67 0 i) && !won B e to (B 68 0 i)) = true then wls (wlf B e to x (-1000000) i) (B 62 0 i) else wlf B e to x (-1000000) i), vi (nI (i + 1)), some (Sum.inr (Sum.inr (some (42, i))))] [] (sm_G0 nL) A Q := by
      rw [wnc hq hu hj n67 to, wnc hq hu hj n68 to, m88 d, sm_push_s, T126_79, nI_1]
      cases won B e to (B 67 0 i) <;> cases won B e to (B 68 0 i) <;> rfl
    rw [T126_7, ta, mm_bt (nI_lt (by omega) (by omega)), m42s ta ht (by omega), sm_push_s, T126_22, k1, k2, k4, n9, n10, nI_1]
    simp only [tail]
    unfold wnk at hw
    by_cases hc : B 60 0 i = x
    · by_cases h2 : B 59 0 i = 2
      · rw [hw] at h3; simp only [eq_true h2, eq_true hc, decide_true, Bool.true_or, Bool.true_and] at h3
        rw [mm_bt h2, mm_bt hc]; exact h3 _
      · by_cases h3' : B 59 0 i = 3
        · rw [hw] at h3; simp only [eq_true h3', eq_true hc, decide_true, Bool.true_or, Bool.or_true, Bool.true_and] at h3
          rw [mm_bf h2, mm_bt h3', mm_bt hc]; exact h3 _
        · by_cases h5 : B 59 0 i = 5
          · rw [hw] at h3; simp only [eq_true h5, eq_true hc, decide_true, Bool.or_true, Bool.true_and] at h3
            rw [mm_bf h2, mm_bf h3', mm_bt h5, mm_bt hc]; exact h3 _
          · rw [hw] at h3; simp only [h2, h3', h5, decide_false, Bool.or_false, Bool.false_and, Bool.false_eq_true, ↓reduceIte] at h3
            rw [mm_bf h2, mm_bf h3', mm_bf h5]; exact h3 _
    · rw [hw] at h3; simp only [hc, decide_false, Bool.and_false, Bool.false_and, Bool.false_eq_true, ↓reduceIte] at h3
      rw [mm_bf hc]
      by_cases h2 : B 59 0 i = 2
      · rw [mm_bt h2]; exact h3 _
      · by_cases h3' : B 59 0 i = 3
        · rw [mm_bf h2, mm_bt h3']; exact h3 _
        · by_cases h5 : B 59 0 i = 5
          · rw [mm_bf h2, mm_bf h3', mm_bt h5]; exact h3 _
          · rw [mm_bf h2, mm_bf h3', mm_bf h5]; exact h3 _
def wso (B : sm_M) (e c0 r q x : Nat) (to : Int32) (t : Nat) : Int32 := match wpo c0 r q x with
  | none => -1000000
  | some p => wls (B 84 0 (12 * e + p)) (wlf B e to (nI x) (-1000000) t)
theorem m125 {A B : sm_M} {c e k c0 r q z t s u qn E S K x : Nat} (nL : Nat) (hC : VC A B c e k c0 r q z t s u qn E S K) (hx : x < 48) (y : Int32) (d : Nat) (Q : sm_Q) (o3 o4 : Option sm_V) : sm_W (d + 3) 125 0 [vo 10, some (Sum.inr (Sum.inr (some (25, c)))), vi (nI x), vi y, o3, o4] [] (sm_G0 nL) A Q = Q (vi (wso B e c0 r q x (wcb B c y K) t)) (sm_G0 nL) A := by
  have hC' := hC
  obtain ⟨hV, hc, a25, b87, he, hE, a7, a24, b81, hk, hS, a5, hSA, hK0, a3, hu, hq, h46, hN, hj, hK, b55, h4, hcE⟩ := hC
  have hZ := K_sh0_Z hK0
  have e60 : nI e < (60 : Int32) := nI_lt (show e < 60 by omega) (by decide)
  have ei : sm_in (nI e) 60 = true := mm_in (by omega) (by decide)
  have ec : (nI e).toNatClampNeg = e := nI_clamp (by omega)
  have k16 : nI k < (16 : Int32) := nI_lt (show k < 16 by omega) (by decide)
  have ki : sm_in (nI k) 16 = true := mm_in (by omega) (by decide)
  have kc : (nI k).toNatClampNeg = k := nI_clamp (by omega)
  rw [T125, a25, mm_bf (nI_pos (by omega)), a7, mm_bt (nI_lt he (by omega)), mm_bt e60, mm_ck ei, ec, a24, mm_bf (nI_pos (by omega)), a5, mm_bt (nI_lt hk (by omega)), mm_bt k16, mm_ck ki, kc, m105 nL hSA hZ hx (d + 1), sm_push_s, T125_41]
  unfold wso
  cases ho : wpo c0 r q x with
  | none => rw [mm_bt (show wnr none < 0 from mm_m1)]
  | some p =>
    have hp := wpo_lt ho
    have h12 := hZ.2.2.2.2.1
    rw [mm_bf (show ¬ wnr (some p) < 0 from nI_pos (by omega)), m109 nL hS a5 hk a24 hSA hZ hx d, ho, sm_push_s, T125_54, m122 (B := B) nL hK hc h4 hcE, sm_push_s, T125_69, a3, T126]
    refine (m126 nL hC' (nI x) (wcb B c y K) d _ t 0 none (by omega)).trans ?_
    rw [sm_push_s, T125_72, m88 (d + 1), sm_push_s, T125_75]
    show Q (vi (wls (A 46 e p) _)) _ _ = Q (vi (wls (B 84 0 (12 * e + p)) _)) _ _
    rw [h46 p (by omega)]
/-! the reference -/
theorem rnc {B : sm_M} {e qn : Nat} (hq : qn ≤ 60) {v : Int32} (hv : v = -1 ∨ ∃ j, j < qn ∧ v = nI j) (to : Int32) (S T : Prop) : sm_Br (decide (v < 0)) S (sm_Br (decide (to < v)) S (sm_Ck (sm_in v 60) (sm_Br (decide (B 82 0 e < B 85 0 v.toNatClampNeg)) T S))) = if won B e to v = true then T else S := by
  unfold won
  rcases hv with rfl | ⟨j, hjq, rfl⟩
  · rw [mm_bt mm_m1]; simp [mm_m1]
  · have h0 : ¬ nI j < 0 := nI_pos (by omega)
    rw [mm_bf h0, mm_ck (mm_in (show j < 60 by omega) (by decide))]
    by_cases h3 : to < nI j
    · rw [mm_bt h3]; simp [h3]
    · rw [mm_bf h3]
      by_cases h2 : B 82 0 e < B 85 0 (nI j).toNatClampNeg
      · rw [mm_bt h2]; simp [h0, h2, h3]
      · rw [mm_bf h2]; simp [h2]
theorem r244a {A B : sm_M} {c e k c0 r q z t s u qn E S K : Nat} (nL : Nat) (hC : VC A B c e k c0 r q z t s u qn E S K) (x to z0 : Int32) (d : Nat) (Q : sm_Q) (o0 o2 o4 : Option sm_V) : ∀ j i, i + j = t → sm_W (d + 2) 244 56 [vo 11, o0, vi x, o2, vi (nI e), o4, vi (wlf B e to x z0 i), vi to, vi (nI i)] [] (sm_G0 nL) B Q = Q (vi (wlf B e to x z0 t)) (sm_G0 nL) B := by
  obtain ⟨⟨ht, hs, ta, sa, tb, sb, hT, hSv⟩, -, -, -, he, hE, -, -, -, -, -, -, -, -, -, hu, hq, -, hN, hj, -⟩ := hC
  have eei : sm_in (nI e) 60 = true := mm_in (by omega) (by decide)
  have eec : (nI e).toNatClampNeg = e := nI_clamp (by omega)
  intro j
  induction j with
  | zero =>
    intro i hi
    have hi' : i = t := by omega
    subst hi'
    rw [T244_56, tb, mm_bf (nI_nlt (Nat.le_refl _) (by omega))]
  | succ j ih =>
    intro i hi
    have h3 := ih (i + 1) (by omega)
    obtain ⟨n9, n10, n67, n68⟩ := hN i (by omega)
    have ei : sm_in (nI i) 90 = true := mm_in (by omega) (by decide)
    have ec : (nI i).toNatClampNeg = i := nI_clamp (by omega)
    have hfe : ¬ B 62 0 i = -1000000 := fun h => (hT i (by omega)).2.2.2.2.2.2.2.2.2.1.1 (by rw [h]; decide)
    have hw : wlf B e to x z0 (i + 1) = if (wnk B x i && (won B e to (B 67 0 i) && !won B e to (B 68 0 i))) = true then wls (wlf B e to x z0 i) (B 62 0 i) else wlf B e to x z0 i := rfl
    have take : sm_Br (decide (wlf B e to x z0 i = -1000000)) (sm_W (d + 2) 244 56 [vo 11, o0, vi x, o2, vi (nI e), o4, vi (B 62 0 i), vi to, vi (nI (i + 1))] [] (sm_G0 nL) B Q) (sm_Br (decide (B 62 0 i < wlf B e to x z0 i)) (sm_W (d + 2) 244 56 [vo 11, o0, vi x, o2, vi (nI e), o4, vi (B 62 0 i), vi to, vi (nI (i + 1))] [] (sm_G0 nL) B Q) (sm_W (d + 2) 244 56 [vo 11, o0, vi x, o2, vi (nI e), o4, vi (wlf B e to x z0 i), vi to, vi (nI (i + 1))] [] (sm_G0 nL) B Q)) = sm_W (d + 2) 244 56 [vo 11, o0, vi x, o2, vi (nI e), o4, vi (wls (wlf B e to x z0 i) (B 62 0 i)), vi to, vi (nI (i + 1))] [] (sm_G0 nL) B Q := by
      unfold wls
      by_cases g1 : wlf B e to x z0 i = -1000000
      · rw [mm_bt g1, if_pos g1]
      · rw [mm_bf g1, if_neg g1, if_neg hfe]
        by_cases g2 : B 62 0 i < wlf B e to x z0 i
        · rw [mm_bt g2, if_pos g2]
        · rw [mm_bf g2, if_neg g2]
    have nest : ∀ T S : Prop, (if won B e to (B 67 0 i) = true then (if won B e to (B 68 0 i) = true then S else T) else S) = if (won B e to (B 67 0 i) && !won B e to (B 68 0 i)) = true then T else S := fun T S => by
      cases won B e to (B 67 0 i) <;> cases won B e to (B 68 0 i) <;> rfl
    rw [T244_56, tb, mm_bt (nI_lt (by omega) (by omega)), mm_ck ei]
    simp only [mm_ck ei, mm_ck eei, ec, eec, nI_1, take]
    have r1 := fun S T => rnc (B := B) (e := e) hq n67 to S T
    have r2 := fun S T => rnc (B := B) (e := e) hq n68 to S T
    simp only [r1, r2, nest]
    unfold wnk at hw
    have fin : sm_W (d + 2) 244 56 [vo 11, o0, vi x, o2, vi (nI e), o4, vi (if (won B e to (B 67 0 i) && !won B e to (B 68 0 i)) = true then wls (wlf B e to x z0 i) (B 62 0 i) else wlf B e to x z0 i), vi to, vi (nI (i + 1))] [] (sm_G0 nL) B Q = if (won B e to (B 67 0 i) && !won B e to (B 68 0 i)) = true then sm_W (d + 2) 244 56 [vo 11, o0, vi x, o2, vi (nI e), o4, vi (wls (wlf B e to x z0 i) (B 62 0 i)), vi to, vi (nI (i + 1))] [] (sm_G0 nL) B Q else sm_W (d + 2) 244 56 [vo 11, o0, vi x, o2, vi (nI e), o4, vi (wlf B e to x z0 i), vi to, vi (nI (i + 1))] [] (sm_G0 nL) B Q := by
      split <;> rfl
    rw [← fin]
    by_cases hc : B 60 0 i = x
    · by_cases h2 : B 59 0 i = 2
      · rw [hw] at h3; simp only [eq_true h2, eq_true hc, decide_true, Bool.true_or, Bool.true_and] at h3
        rw [mm_bt h2, mm_bt hc]; exact h3
      · by_cases h3' : B 59 0 i = 3
        · rw [hw] at h3; simp only [eq_true h3', eq_true hc, decide_true, Bool.true_or, Bool.or_true, Bool.true_and] at h3
          rw [mm_bf h2, mm_bt h3', mm_bt hc]; exact h3
        · by_cases h5 : B 59 0 i = 5
          · rw [hw] at h3; simp only [eq_true h5, eq_true hc, decide_true, Bool.or_true, Bool.true_and] at h3
            rw [mm_bf h2, mm_bf h3', mm_bt h5, mm_bt hc]; exact h3
          · rw [hw] at h3; simp only [h2, h3', h5, decide_false, Bool.or_false, Bool.false_and, Bool.false_eq_true, ↓reduceIte] at h3
            rw [mm_bf h2, mm_bf h3', mm_bf h5]; exact h3
    · rw [hw] at h3; simp only [hc, decide_false, Bool.and_false, Bool.false_and, Bool.false_eq_true, ↓reduceIte] at h3
      rw [mm_bf hc]
      by_cases h2 : B 59 0 i = 2
      · rw [mm_bt h2]; exact h3
      · by_cases h3' : B 59 0 i = 3
        · rw [mm_bf h2, mm_bt h3']; exact h3
        · by_cases h5 : B 59 0 i = 5
          · rw [mm_bf h2, mm_bf h3', mm_bt h5]; exact h3
          · rw [mm_bf h2, mm_bf h3', mm_bf h5]; exact h3
theorem r244 {A B : sm_M} {c e k c0 r q z t s u qn E S K x : Nat} (nL : Nat) (hC : VC A B c e k c0 r q z t s u qn E S K) (hx : x < 48) (y : Int32) (d : Nat) (Q : sm_Q) (o3 o4 o5 o6 o7 : Option sm_V) : sm_W (d + 2) 244 0 [vo 11, vi (nI c), vi (nI x), vi y, o3, o4, o5, o6, o7] [] (sm_G0 nL) B Q = Q (vi (wso B e c0 r q x (wcb B c y K) t)) (sm_G0 nL) B := by
  have hC' := hC
  obtain ⟨hV, hc, a25, b87, he, hE, a7, a24, b81, hk, hS, a5, hSA, hK0, a3, hu, hq, h46, hN, hj, hK, b55, h4, hcE⟩ := hC
  have hZ := K_sh0_Z hK0
  have ei : sm_in (nI e) 60 = true := mm_in (by omega) (by decide)
  have ec : (nI e).toNatClampNeg = e := nI_clamp (by omega)
  have ci : sm_in (nI c) 24 = true := mm_in (by omega) (by decide)
  have cc : (nI c).toNatClampNeg = c := nI_clamp (by omega)
  rw [T244, mm_ck ci, cc, b87, mm_ck ei, ec, b81, r229e nL (show k < 16 by omega) hK0.1 hK0.2.1 hK0.2.2.1 hZ hx d, sm_push_s, T244_20]
  unfold wso
  cases ho : wpo c0 r q x with
  | none => rw [mm_bt (show wnr none < 0 from mm_m1)]
  | some p =>
    have hp := wpo_lt ho
    have h12 := hZ.2.2.2.2.1
    have e1 : (12 : Int32) * nI e + wnr (some p) = nI (12 * e + p) := by show nI 12 * nI e + nI p = _; rw [pk_mul, nI_add]
    rw [mm_bf (show ¬ wnr (some p) < 0 from nI_pos (by omega)), e1, mm_ck (mm_in (by omega) (by decide)), nI_clamp (by omega), r242 nL hK b55, sm_push_s, T244_51]
    refine (r244a nL hC' (nI x) (wcb B c y K) (B 84 0 (12 * e + p)) d Q (vi (nI c)) (vi y) _ t 0 (by omega)).trans ?_
    rw [wlf_z]
