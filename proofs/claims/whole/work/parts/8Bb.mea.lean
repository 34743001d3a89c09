/-! acts: what is kept -/
def mA (A : sm_M) (l : List Int32) : sm_M := fun f i k => if f = 43 ∧ i = 0 ∧ k < l.length then l.getD k 0 else if f = 20 ∧ i = 0 ∧ k = 1 then nI l.length else A f i k
def mB (B : sm_M) (l : List Int32) : sm_M := fun f i k => if f = 95 ∧ i = 0 ∧ k < l.length then l.getD k 0 else if f = 11 ∧ i = 0 ∧ k = 65 then nI l.length else B f i k
theorem mA_n (A : sm_M) (l : List Int32) : mA A l 20 0 1 = nI l.length := by simp [mA]
theorem mB_n (B : sm_M) (l : List Int32) : mB B l 11 0 65 = nI l.length := by simp [mB]
theorem mA_0 (A : sm_M) : sm_u A 20 0 1 0 = mA A [] := by
  funext f i k
  simp only [sm_u, mA, List.length_nil, Nat.not_lt_zero, and_false, ↓reduceIte]; rfl
theorem mB_0 (B : sm_M) : sm_u B 11 0 65 0 = mB B [] := by
  funext f i k
  simp only [sm_u, mB, List.length_nil, Nat.not_lt_zero, and_false, ↓reduceIte]; rfl
theorem mm_gd (l : List Int32) (v : Int32) (k : Nat) : (l ++ [v]).getD k 0 = if k < l.length then l.getD k 0 else if k = l.length then v else 0 := by
  rw [List.getD_eq_getElem?_getD, List.getD_eq_getElem?_getD]
  by_cases h : k < l.length
  · rw [if_pos h, List.getElem?_append_left h]
  · rw [if_neg h, List.getElem?_append_right (by omega)]
    by_cases h2 : k = l.length
    · subst h2; simp
    · have h3 : k - l.length = (k - l.length - 1) + 1 := by omega
      rw [if_neg h2, h3]; rfl
theorem mA_s (A : sm_M) (l : List Int32) (v : Int32) : sm_u (sm_u (mA A l) 43 0 l.length v) 20 0 1 (nI (l.length + 1)) = mA A (l ++ [v]) := by
  funext f i k
  simp only [sm_u, mA, mm_gd, List.length_append, List.length_singleton]
  by_cases h1 : f = 20 ∧ i = 0 ∧ k = 1
  · obtain ⟨rfl, rfl, rfl⟩ := h1; simp
  · rw [if_neg h1, if_neg h1, if_neg h1]
    by_cases h2 : f = 43 ∧ i = 0
    · obtain ⟨rfl, rfl⟩ := h2
      by_cases h3 : k = l.length
      · subst h3; simp
      · by_cases h4 : k < l.length
        · have h5 : k < l.length + 1 := by omega
          simp [h3, h4, h5]
        · have h5 : ¬ k < l.length + 1 := by omega
          simp [h3, h4, h5]
    · rw [if_neg (fun hh => h2 ⟨hh.1, hh.2.1⟩), if_neg (fun hh => h2 ⟨hh.1, hh.2.1⟩), if_neg (fun hh => h2 ⟨hh.1, hh.2.1⟩)]
theorem mB_s (B : sm_M) (l : List Int32) (v : Int32) : sm_u (sm_u (mB B l) 95 0 l.length v) 11 0 65 (nI (l.length + 1)) = mB B (l ++ [v]) := by
  funext f i k
  simp only [sm_u, mB, mm_gd, List.length_append, List.length_singleton]
  by_cases h1 : f = 11 ∧ i = 0 ∧ k = 65
  · obtain ⟨rfl, rfl, rfl⟩ := h1; simp
  · rw [if_neg h1, if_neg h1, if_neg h1]
    by_cases h2 : f = 95 ∧ i = 0
    · obtain ⟨rfl, rfl⟩ := h2
      by_cases h3 : k = l.length
      · subst h3; simp
      · by_cases h4 : k < l.length
        · have h5 : k < l.length + 1 := by omega
          simp [h3, h4, h5]
        · have h5 : ¬ k < l.length + 1 := by omega
          simp [h3, h4, h5]
    · rw [if_neg (fun hh => h2 ⟨hh.1, hh.2.1⟩), if_neg (fun hh => h2 ⟨hh.1, hh.2.1⟩), if_neg (fun hh => h2 ⟨hh.1, hh.2.1⟩)]
/-! the class: a body begins -/
theorem m149f {k p : Nat} {l : List Int32} (hk : k < 7) (hp : p ≤ 12) (hl : l.length < 20) : ¬ nI k < 0 ∧ nI k < Int32.ofNat 7 ∧ ¬ (12 : Int32) < nI p ∧ ¬ nI l.length < 0 ∧ nI l.length < (20 : Int32) ∧ sm_in (nI k) 7 = true ∧ sm_in (nI l.length) 20 = true ∧ (nI k).toNatClampNeg = k ∧ (nI l.length).toNatClampNeg = l.length :=
  ⟨nI_pos (by omega), nI_lt (show k < 7 by omega) (by decide), nI_nlt (a := 12) hp (by decide), nI_pos (by omega), nI_lt hl (by decide), mm_in hk (by decide), mm_in hl (by decide), nI_clamp (by omega), nI_clamp (by omega)⟩
theorem m149a {A : sm_M} (hc : J_cst A) {k p : Nat} {l : List Int32} (hk : k < 7) (hp : p ≤ 12) (hl : l.length < 20) (d nL : Nat) (Q : sm_Q) : sm_W d 149 0 [vo 20, vo 1, vi (nI k), vi (nI p)] [] (sm_G0 nL) (mA A l) Q = Q (vi (sq_tb 1 k)) (sm_G0 nL) (mA A (l ++ [sq_tb 1 k])) := by
  obtain ⟨h1, h2, h3, h4, h5, h6, h7, h8, h9⟩ := m149f hk hp hl
  have e : mA A l 1 0 k = sq_tb 1 k := hc 1 k (by decide) (by decide) hk
  rw [T149, mm_bf h1, mm_bt h2, mm_bf h3, mA_n, mm_bf h4, mm_bt h5, mm_ck h6, mm_ck h7, mm_ck h6, h8, h9, e, nI_1, mA_s]
theorem m149b {A : sm_M} (hc : J_cst A) {k p : Nat} {l : List Int32} (hk : k < 7) (hp : p ≤ 12) (hl : l.length < 20) (d nL : Nat) (Q : sm_Q) : sm_W d 149 0 [vo 20, vo 2, vi (nI k), vi (nI p)] [] (sm_G0 nL) (mA A l) Q = Q (vi (sq_tb 2 k)) (sm_G0 nL) (mA A (l ++ [sq_tb 2 k])) := by
  obtain ⟨h1, h2, h3, h4, h5, h6, h7, h8, h9⟩ := m149f hk hp hl
  have e : mA A l 2 0 k = sq_tb 2 k := hc 2 k (by decide) (by decide) hk
  rw [T149a, mm_bf h1, mm_bt h2, mm_bf h3, mA_n, mm_bf h4, mm_bt h5, mm_ck h6, mm_ck h7, mm_ck h6, h8, h9, e, nI_1, mA_s]
theorem m149c {A : sm_M} (hc : J_cst A) {k p : Nat} {l : List Int32} (hk : k < 7) (hp : p ≤ 12) (hl : l.length < 20) (d nL : Nat) (Q : sm_Q) : sm_W d 149 0 [vo 20, vo 3, vi (nI k), vi (nI p)] [] (sm_G0 nL) (mA A l) Q = Q (vi (sq_tb 3 k)) (sm_G0 nL) (mA A (l ++ [sq_tb 3 k])) := by
  obtain ⟨h1, h2, h3, h4, h5, h6, h7, h8, h9⟩ := m149f hk hp hl
  have e : mA A l 3 0 k = sq_tb 3 k := hc 3 k (by decide) (by decide) hk
  rw [T149b, mm_bf h1, mm_bt h2, mm_bf h3, mA_n, mm_bf h4, mm_bt h5, mm_ck h6, mm_ck h7, mm_ck h6, h8, h9, e, nI_1, mA_s]
def shT (k : Nat) : List Int32 := if k = 3 then [40, 20, 10] else if k = 4 then [10] else if k = 6 then [70, 10] else [20, 10]
def shV (k : Nat) (x c f : Int32) : Int32 := if k = 3 then x + c + f - 7 else if k = 4 then x + c else if k = 6 then -(x + c) else x + c + f
def waT (k : Nat) : List Int32 := if k = 4 then [50] ++ shT 4 ++ [11] ++ shT 4 else if k = 1 ∨ k = 6 then [11] ++ shT k else [30, 11] ++ shT k
def waV (k : Nat) (x c f : Int32) : Int32 := if k = 4 then shV 4 x c f + shV 4 x c f * 2 else if k = 1 ∨ k = 6 then shV k x c f * 2 else (shV k x c f * 2) ^^^ f
def enT (k : Nat) : List Int32 := if k = 5 then [60, 31, 12] ++ waT 5 ++ waT 5 else if k = 2 ∨ k = 3 then [31, 12] ++ waT k else [12] ++ waT k
def enV (k : Nat) (x c f n : Int32) : Int32 := if k = 5 then (waV 5 (x + 1) c f - n) + waV 5 x c f else if k = 2 ∨ k = 3 then waV k (x + 1) c f - n else waV k x c f - n
theorem shT_l {k : Nat} (h1 : 1 ≤ k) (h : k ≤ 6) : (shT k).length ≤ 3 := by
  have h2 : k = 1 ∨ k = 2 ∨ k = 3 ∨ k = 4 ∨ k = 5 ∨ k = 6 := by omega
  rcases h2 with rfl | rfl | rfl | rfl | rfl | rfl <;> decide
theorem waT_l {k : Nat} (h1 : 1 ≤ k) (h : k ≤ 6) : (waT k).length ≤ 5 := by
  have h2 : k = 1 ∨ k = 2 ∨ k = 3 ∨ k = 4 ∨ k = 5 ∨ k = 6 := by omega
  rcases h2 with rfl | rfl | rfl | rfl | rfl | rfl <;> decide
theorem enT_l {k : Nat} (h1 : 1 ≤ k) (h : k ≤ 6) : (enT k).length ≤ 13 := by
  have h2 : k = 1 ∨ k = 2 ∨ k = 3 ∨ k = 4 ∨ k = 5 ∨ k = 6 := by omega
  rcases h2 with rfl | rfl | rfl | rfl | rfl | rfl <;> decide
/-- a thing's row, for the class -/
def TA (A : sm_M) (i k : Nat) (c f : Int32) (n : Nat) : Prop := A 42 i 0 = nI n ∧ A 42 i 1 = nI k ∧ A 42 i 2 = c ∧ A 42 i 4 = f
theorem m148_0 {A : sm_M} (hc : J_cst A) {i k p n : Nat} {c f : Int32} (hT : TA A i k c f n) {l : List Int32} (hp : p ≤ 12) (hl : l.length < 20) (x : Int32) (d nL : Nat) (Q : sm_Q) : sm_W (d + 1) 148 0 [vo 20, some (Sum.inr (Sum.inr (some (42, i)))), vi 0, vi x, vi (nI p)] [] (sm_G0 nL) (mA A l) Q = Q (vi (x + c)) (sm_G0 nL) (mA A (l ++ [10])) := by
  rw [T148]
  refine (m149a hc (k := 0) (by decide) hp hl d nL _).trans ?_
  rw [sm_push_s, show sq_tb 1 0 = 10 from rfl, T148_10, mm_bt rfl, show mA A (l ++ [10]) 42 i 2 = c from hT.2.2.1]
theorem m148_2 {A : sm_M} (hc : J_cst A) {i k p n : Nat} {c f : Int32} (hT : TA A i k c f n) {l : List Int32} (hp : p ≤ 11) (hl : l.length + 1 < 20) (x : Int32) {g : Nat} (hg : g = 1 ∨ g = 2 ∨ g = 5) (d nL : Nat) (Q : sm_Q) : sm_W (d + 2) 148 0 [vo 20, some (Sum.inr (Sum.inr (some (42, i)))), vi (nI g), vi x, vi (nI p)] [] (sm_G0 nL) (mA A l) Q = Q (vi (x + c + f)) (sm_G0 nL) (mA A (l ++ [20, 10])) := by
  have e : sq_tb 1 g = 20 := by rcases hg with rfl | rfl | rfl <;> rfl
  have h1 : ¬ (20 : Int32) = 10 := by decide
  rw [T148]
  refine (m149a hc (k := g) (by omega) (by omega) (by omega) (d + 1) nL _).trans ?_
  rw [sm_push_s, e, T148_10, mm_bf h1, mm_bt rfl, nI_1, m148_0 hc hT (by omega) (by rw [List.length_append, List.length_singleton]; omega), sm_push_s, T148_70, List.append_assoc, show mA A (l ++ ([20] ++ [10])) 42 i 4 = f from hT.2.2.2]; rfl
theorem m148 {A : sm_M} (hc : J_cst A) {i k p n : Nat} {c f : Int32} (hT : TA A i k c f n) (hk1 : 1 ≤ k) (hk : k ≤ 6) {l : List Int32} (hp : p ≤ 10) (hl : l.length + 2 < 20) (x : Int32) (d nL : Nat) (Q : sm_Q) : sm_W (d + 3) 148 0 [vo 20, some (Sum.inr (Sum.inr (some (42, i)))), vi (nI k), vi x, vi (nI p)] [] (sm_G0 nL) (mA A l) Q = Q (vi (shV k x c f)) (sm_G0 nL) (mA A (l ++ shT k)) := by
  have h2 : k = 1 ∨ k = 2 ∨ k = 3 ∨ k = 4 ∨ k = 5 ∨ k = 6 := by omega
  rcases h2 with rfl | rfl | rfl | rfl | rfl | rfl
  · exact m148_2 hc hT (by omega) (by omega) x (g := 1) (by omega) (d + 1) nL Q
  · exact m148_2 hc hT (by omega) (by omega) x (g := 2) (by omega) (d + 1) nL Q
  · rw [T148]
    refine (m149a hc (k := 3) (by omega) (by omega) (by omega) (d + 2) nL _).trans ?_
    rw [sm_push_s, show sq_tb 1 3 = 40 from rfl, T148_10, mm_bf (show ¬ (40 : Int32) = 10 by decide), mm_bf (show ¬ (40 : Int32) = 20 by decide), mm_bt rfl, nI_1]
    refine (m148_2 hc hT (l := l ++ [40]) (by omega) (by rw [List.length_append, List.length_singleton]; omega) x (g := 2) (by omega) d nL _).trans ?_
    rw [sm_push_s, T148_87, List.append_assoc]; rfl
  · rw [T148]
    refine (m149a hc (k := 4) (by omega) (by omega) (by omega) (d + 2) nL _).trans ?_
    rw [sm_push_s, show sq_tb 1 4 = 10 from rfl, T148_10, mm_bt rfl, show mA A (l ++ [10]) 42 i 2 = c from hT.2.2.1]; rfl
  · exact m148_2 hc hT (by omega) (by omega) x (g := 5) (by omega) (d + 1) nL Q
  · rw [T148]
    refine (m149a hc (k := 6) (by omega) (by omega) (by omega) (d + 2) nL _).trans ?_
    rw [sm_push_s, show sq_tb 1 6 = 70 from rfl, T148_10, mm_bf (show ¬ (70 : Int32) = 10 by decide), mm_bf (show ¬ (70 : Int32) = 20 by decide), mm_bf (show ¬ (70 : Int32) = 40 by decide), mm_bt rfl, nI_1, m148_0 hc hT (by omega) (by rw [List.length_append, List.length_singleton]; omega), sm_push_s, T148_102, List.append_assoc]; rfl
theorem m150_1 {A : sm_M} (hc : J_cst A) {i k p n : Nat} {c f : Int32} (hT : TA A i k c f n) (hk1 : 1 ≤ k) (hk : k ≤ 6) {l : List Int32} (hp : p ≤ 9) (hl : l.length + 3 < 20) (x : Int32) {g : Nat} (hg : g = 0 ∨ g = 1 ∨ g = 6) (d nL : Nat) (Q : sm_Q) : sm_W (d + 4) 150 0 [vo 20, some (Sum.inr (Sum.inr (some (42, i)))), vi (nI g), vi x, vi (nI p)] [] (sm_G0 nL) (mA A l) Q = Q (vi (shV k x c f * 2)) (sm_G0 nL) (mA A (l ++ ([11] ++ shT k))) := by
  have e : sq_tb 2 g = 11 := by rcases hg with rfl | rfl | rfl <;> rfl
  rw [T150]
  refine (m149b hc (k := g) (by omega) (by omega) (by omega) (d + 3) nL _).trans ?_
  rw [sm_push_s, e, T150_10, mm_bt rfl, nI_1, show mA A (l ++ [11]) 42 i 1 = nI k from hT.2.1, m148 hc hT hk1 hk (by omega) (by rw [List.length_append, List.length_singleton]; omega), sm_push_s, T150_58, List.append_assoc]
theorem m150 {A : sm_M} (hc : J_cst A) {i k p n : Nat} {c f : Int32} (hT : TA A i k c f n) (hk1 : 1 ≤ k) (hk : k ≤ 6) {l : List Int32} (hp : p ≤ 8) (hl : l.length + 5 < 20) (x : Int32) (d nL : Nat) (Q : sm_Q) : sm_W (d + 5) 150 0 [vo 20, some (Sum.inr (Sum.inr (some (42, i)))), vi (nI k), vi x, vi (nI p)] [] (sm_G0 nL) (mA A l) Q = Q (vi (waV k x c f)) (sm_G0 nL) (mA A (l ++ waT k)) := by
  by_cases h16 : k = 1 ∨ k = 6
  · have h4 : ¬ k = 4 := by omega
    unfold waV waT
    rw [if_neg h4, if_pos h16, if_neg h4, if_pos h16]
    exact m150_1 hc hT hk1 hk (by omega) (by omega) x (g := k) (by omega) (d + 1) nL Q
  · by_cases h4 : k = 4
    · subst h4
      have hs := shT_l (k := 4) (by omega) (by omega)
      rw [T150]
      refine (m149b hc (k := 4) (by omega) (by omega) (by omega) (d + 4) nL _).trans ?_
      rw [sm_push_s, show sq_tb 2 4 = 50 from rfl, T150_10, mm_bf (show ¬ (50 : Int32) = 11 by decide), mm_bf (show ¬ (50 : Int32) = 30 by decide), mm_bt rfl, nI_1, show mA A (l ++ [50]) 42 i 1 = nI 4 from hT.2.1, m148 hc hT hk1 hk (by omega) (by rw [List.length_append, List.length_singleton]; omega), sm_push_s, T150_92, nI_1]
      refine (m150_1 hc hT hk1 hk (l := l ++ [50] ++ shT 4) (by omega) (by rw [List.length_append, List.length_append, List.length_singleton, show (shT 4).length = 1 from rfl]; omega) x (g := 0) (by omega) d nL _).trans ?_
      rw [sm_push_s, T150_103, List.append_assoc, List.append_assoc]; rfl
    · have e : sq_tb 2 k = 30 := by
        have h2 : k = 2 ∨ k = 3 ∨ k = 5 := by omega
        rcases h2 with rfl | rfl | rfl <;> rfl
      unfold waV waT
      rw [if_neg h4, if_neg h16, if_neg h4, if_neg h16, T150]
      refine (m149b hc (k := k) (by omega) (by omega) (by omega) (d + 4) nL _).trans ?_
      rw [sm_push_s, e, T150_10, mm_bf (show ¬ (30 : Int32) = 11 by decide), mm_bt rfl, nI_1]
      refine (m150_1 hc hT hk1 hk (l := l ++ [30]) (by omega) (by rw [List.length_append, List.length_singleton]; omega) x (g := 1) (by omega) d nL _).trans ?_
      rw [sm_push_s, T150_72, List.append_assoc, show mA A (l ++ ([30] ++ ([11] ++ shT k))) 42 i 4 = f from hT.2.2.2]; rfl
theorem m151_1 {A : sm_M} (hc : J_cst A) {i k p n : Nat} {c f : Int32} (hT : TA A i k c f n) (hk1 : 1 ≤ k) (hk : k ≤ 6) {l : List Int32} (hp : p ≤ 7) (hl : l.length + 6 < 20) (x : Int32) {g : Nat} (hg : g = 1 ∨ g = 4 ∨ g = 6) (d nL : Nat) (Q : sm_Q) : sm_W (d + 6) 151 0 [vo 20, some (Sum.inr (Sum.inr (some (42, i)))), vi (nI g), vi x, vi (nI p)] [] (sm_G0 nL) (mA A l) Q = Q (vi (waV k x c f - nI n)) (sm_G0 nL) (mA A (l ++ ([12] ++ waT k))) := by
  have e : sq_tb 3 g = 12 := by rcases hg with rfl | rfl | rfl <;> rfl
  rw [T151]
  refine (m149c hc (k := g) (by omega) (by omega) (by omega) (d + 5) nL _).trans ?_
  rw [sm_push_s, e, T151_10, mm_bt rfl, nI_1, show mA A (l ++ [12]) 42 i 1 = nI k from hT.2.1, m150 hc hT hk1 hk (by omega) (by rw [List.length_append, List.length_singleton]; omega), sm_push_s, T151_58, List.append_assoc, show mA A (l ++ ([12] ++ waT k)) 42 i 0 = nI n from hT.1]
theorem m151_2 {A : sm_M} (hc : J_cst A) {i k p n : Nat} {c f : Int32} (hT : TA A i k c f n) (hk1 : 1 ≤ k) (hk : k ≤ 6) {l : List Int32} (hp : p ≤ 6) (hl : l.length + 7 < 20) (x : Int32) {g : Nat} (hg : g = 2 ∨ g = 3) (d nL : Nat) (Q : sm_Q) : sm_W (d + 7) 151 0 [vo 20, some (Sum.inr (Sum.inr (some (42, i)))), vi (nI g), vi x, vi (nI p)] [] (sm_G0 nL) (mA A l) Q = Q (vi (waV k (x + 1) c f - nI n)) (sm_G0 nL) (mA A (l ++ ([31, 12] ++ waT k))) := by
  have e : sq_tb 3 g = 31 := by rcases hg with rfl | rfl <;> rfl
  rw [T151]
  refine (m149c hc (k := g) (by omega) (by omega) (by omega) (d + 6) nL _).trans ?_
  rw [sm_push_s, e, T151_10, mm_bf (show ¬ (31 : Int32) = 12 by decide), mm_bt rfl, nI_1]
  refine (m151_1 hc hT hk1 hk (l := l ++ [31]) (by omega) (by rw [List.length_append, List.length_singleton]; omega) (x + 1) (g := 1) (by omega) d nL _).trans ?_
  rw [sm_push_s, T151_77, List.append_assoc]; rfl
theorem m151 {A : sm_M} (hc : J_cst A) {i k p n : Nat} {c f : Int32} (hT : TA A i k c f n) (hk1 : 1 ≤ k) (hk : k ≤ 6) {l : List Int32} (hp : p ≤ 5) (hl : l.length + 13 < 20) (x : Int32) (d nL : Nat) (Q : sm_Q) : sm_W (d + 8) 151 0 [vo 20, some (Sum.inr (Sum.inr (some (42, i)))), vi (nI k), vi x, vi (nI p)] [] (sm_G0 nL) (mA A l) Q = Q (vi (enV k x c f (nI n))) (sm_G0 nL) (mA A (l ++ enT k)) := by
  by_cases h5 : k = 5
  · subst h5
    have hw := waT_l (k := 5) (by omega) (by omega)
    rw [T151]
    refine (m149c hc (k := 5) (by omega) (by omega) (by omega) (d + 7) nL _).trans ?_
    rw [sm_push_s, show sq_tb 3 5 = 60 from rfl, T151_10, mm_bf (show ¬ (60 : Int32) = 12 by decide), mm_bf (show ¬ (60 : Int32) = 31 by decide), mm_bt rfl, nI_1]
    refine (m151_2 hc hT hk1 hk (l := l ++ [60]) (by omega) (by rw [List.length_append, List.length_singleton]; omega) x (g := 2) (by omega) d nL _).trans ?_
    rw [sm_push_s, T151_89, nI_1, show mA A (l ++ [60] ++ ([31, 12] ++ waT 5)) 42 i 1 = nI 5 from hT.2.1, m150 hc hT hk1 hk (by omega) (by simp only [List.length_append, List.length_singleton, List.length_cons, List.length_nil, show (waT 5).length = 4 from rfl]; omega), sm_push_s, T151_103, List.append_assoc, List.append_assoc]; rfl
  · by_cases h23 : k = 2 ∨ k = 3
    · unfold enV enT
      rw [if_neg h5, if_pos h23, if_neg h5, if_pos h23]
      exact m151_2 hc hT hk1 hk (by omega) (by omega) x (g := k) (by omega) (d + 1) nL Q
    · unfold enV enT
      rw [if_neg h5, if_neg h23, if_neg h5, if_neg h23]
      exact m151_1 hc hT hk1 hk (by omega) (by omega) x (g := k) (by omega) (d + 2) nL Q
/-! the reference -/
theorem r256 {B : sm_M} {l : List Int32} (hl : l.length < 20) (v : Int32) (d nL : Nat) (Q : sm_Q) : sm_W d 256 0 [vo 11, vi v] [] (sm_G0 nL) (mB B l) Q = Q none (sm_G0 nL) (mB B (l ++ [v])) := by
  have h5 : nI l.length < (20 : Int32) := nI_lt hl (by decide)
  rw [T256, mB_n, mm_bt h5, mm_ck (mm_in hl (by decide)), nI_clamp (by omega), nI_1, mB_s]
def TB (B : sm_M) (i k : Nat) (c f : Int32) : Prop := i < 90 ∧ B 59 0 i = nI k ∧ B 60 0 i = c ∧ B 62 0 i = f
theorem r258 {B : sm_M} {i k : Nat} {c f : Int32} (hT : TB B i k c f) {l : List Int32} (hl : l.length < 20) (x : Int32) (d nL : Nat) (Q : sm_Q) : sm_W (d + 1) 258 0 [vo 11, vi (nI i), vi x] [] (sm_G0 nL) (mB B l) Q = Q (vi (x + c)) (sm_G0 nL) (mB B (l ++ [10])) := by
  have hi := hT.1
  rw [T258, r256 hl, sm_push_n, T258_6, mm_ck (mm_in hi (by decide)), nI_clamp (by omega), show mB B (l ++ [10]) 60 0 i = c from hT.2.2.1]
theorem r257 {B : sm_M} {i k : Nat} {c f : Int32} (hT : TB B i k c f) {l : List Int32} (hl : l.length + 1 < 20) (x : Int32) (d nL : Nat) (o2 : Option sm_V) (Q : sm_Q) : sm_W (d + 2) 257 0 [vo 11, vi (nI i), vi x, o2] [] (sm_G0 nL) (mB B l) Q = Q (vi (x + c + f)) (sm_G0 nL) (mB B (l ++ [20, 10])) := by
  have hi := hT.1
  rw [T257, r256 (by omega), sm_push_n, T257_6, r258 hT (by rw [List.length_append, List.length_singleton]; omega), sm_push_s, T257_12, mm_ck (mm_in hi (by decide)), nI_clamp (by omega), List.append_assoc, show mB B (l ++ ([20] ++ [10])) 62 0 i = f from hT.2.2.2]; rfl
theorem r255 {B : sm_M} {i k : Nat} {c f : Int32} (hT : TB B i k c f) (hk1 : 1 ≤ k) (hk : k ≤ 6) {l : List Int32} (hl : l.length + 2 < 20) (x : Int32) (d nL : Nat) (Q : sm_Q) : sm_W (d + 3) 255 0 [vo 11, vi (nI i), vi x] [] (sm_G0 nL) (mB B l) Q = Q (vi (shV k x c f)) (sm_G0 nL) (mB B (l ++ shT k)) := by
  have hi := hT.1
  have ii : sm_in (nI i) 90 = true := mm_in hi (by decide)
  have ic : (nI i).toNatClampNeg = i := nI_clamp (by omega)
  have e59 : mB B l 59 0 i = nI k := hT.2.1
  have hr : ∀ (v : Int32) Q', sm_W (d + 2) 259 0 [vi v] [] (sm_G0 nL) (mB B l) Q' = Q' (vi (wsh v 1)) (sm_G0 nL) (mB B l) := fun v Q' => by
    rw [T259, r260, sm_push_s, T259_5, mm_ck]
    unfold wsh
    split
    · decide
    · split
      · decide
      · split
        · split
          · decide
          · split
            · decide
            · split <;> decide
        · split
          · split
            · decide
            · split <;> decide
          · decide
  rw [T255, ic, e59]
  simp only [mm_ck ii]
  have h2 : k = 1 ∨ k = 2 ∨ k = 3 ∨ k = 4 ∨ k = 5 ∨ k = 6 := by omega
  rcases h2 with rfl | rfl | rfl | rfl | rfl | rfl
  · rw [mm_bf (by decide), mm_bf (by decide), hr, sm_push_s, T255_60, mm_bf (by decide), r257 hT (by omega), sm_push_s, T255_69]; rfl
  · rw [mm_bf (by decide), mm_bf (by decide), hr, sm_push_s, T255_60, mm_bf (by decide), r257 hT (by omega), sm_push_s, T255_69]; rfl
  · rw [mm_bt (by decide), r256 (by omega), sm_push_n, T255_16, r257 hT (by rw [List.length_append, List.length_singleton]; omega), sm_push_s, T255_22, List.append_assoc]; rfl
  · rw [mm_bf (by decide), mm_bf (by decide), hr, sm_push_s, T255_60, mm_bt (by decide), r258 hT (by omega), sm_push_s, T255_78]; rfl
  · rw [mm_bf (by decide), mm_bf (by decide), hr, sm_push_s, T255_60, mm_bf (by decide), r257 hT (by omega), sm_push_s, T255_69]; rfl
  · rw [mm_bf (by decide), mm_bt (by decide), r256 (by omega), sm_push_n, T255_43, r258 hT (by rw [List.length_append, List.length_singleton]; omega), sm_push_s, T255_49, List.append_assoc]; rfl
theorem r263 {B : sm_M} {i k : Nat} {c f : Int32} (hT : TB B i k c f) (hk1 : 1 ≤ k) (hk : k ≤ 6) {l : List Int32} (hl : l.length + 3 < 20) (x : Int32) (d nL : Nat) (Q : sm_Q) : sm_W (d + 4) 263 0 [vo 11, vi (nI i), vi x] [] (sm_G0 nL) (mB B l) Q = Q (vi (shV k x c f * 2)) (sm_G0 nL) (mB B (l ++ ([11] ++ shT k))) := by
  rw [T263, r256 (by omega), sm_push_n, T263_6, r255 hT hk1 hk (by rw [List.length_append, List.length_singleton]; omega), sm_push_s, T263_12, List.append_assoc]
theorem r262 (k : Nat) (hk1 : 1 ≤ k) (hk : k ≤ 6) (M : sm_M) (d nL : Nat) (Q : sm_Q) : sm_W (d + 1) 262 0 [vi (nI k)] [] (sm_G0 nL) M Q = Q (vi (if k = 2 ∨ k = 3 ∨ k = 5 then 1 else 0)) (sm_G0 nL) M := by
  have h2 : k = 1 ∨ k = 2 ∨ k = 3 ∨ k = 4 ∨ k = 5 ∨ k = 6 := by omega
  rcases h2 with rfl | rfl | rfl | rfl | rfl | rfl
  · rw [T262, r260, sm_push_s, T262_5, mm_ck (by decide)]; rfl
  · rw [T262, r260, sm_push_s, T262_5, mm_ck (by decide)]; rfl
  · rw [T262, r260, sm_push_s, T262_5, mm_ck (by decide)]; rfl
  · rw [T262, r260, sm_push_s, T262_5, mm_ck (by decide)]; rfl
  · rw [T262, r260, sm_push_s, T262_5, mm_ck (by decide)]; rfl
  · rw [T262, r260, sm_push_s, T262_5, mm_ck (by decide)]; rfl
theorem r261 {B : sm_M} {i k : Nat} {c f : Int32} (hT : TB B i k c f) (hk1 : 1 ≤ k) (hk : k ≤ 6) {l : List Int32} (hl : l.length + 5 < 20) (x : Int32) (d nL : Nat) (o2 : Option sm_V) (Q : sm_Q) : sm_W (d + 5) 261 0 [vo 11, vi (nI i), vi x, o2] [] (sm_G0 nL) (mB B l) Q = Q (vi (waV k x c f)) (sm_G0 nL) (mB B (l ++ waT k)) := by
  have hi := hT.1
  have ii : sm_in (nI i) 90 = true := mm_in hi (by decide)
  have ic : (nI i).toNatClampNeg = i := nI_clamp (by omega)
  have e59 : mB B l 59 0 i = nI k := hT.2.1
  rw [T261, mm_ck ii, ic, e59, r262 k hk1 hk, sm_push_s, T261_9, ic, e59]
  simp only [mm_ck ii]
  by_cases h23 : k = 2 ∨ k = 3 ∨ k = 5
  · have h4 : ¬ k = 4 := by omega
    have h16 : ¬ (k = 1 ∨ k = 6) := by omega
    unfold waV waT
    rw [if_pos h23, if_neg h4, if_neg h16, if_neg h4, if_neg h16, mm_bf (by decide), r256 (by omega), sm_push_n, T261_18, r263 hT hk1 hk (by rw [List.length_append, List.length_singleton]; omega), sm_push_s, T261_24, mm_ck ii, ic, List.append_assoc, show mB B (l ++ ([30] ++ ([11] ++ shT k))) 62 0 i = f from hT.2.2.2]; rfl
  · rw [if_neg h23, mm_bt (by decide)]
    by_cases h4 : k = 4
    · subst h4
      rw [mm_bt (by decide), r256 (by omega), sm_push_n, T261_48, r255 hT hk1 hk (by rw [List.length_append, List.length_singleton]; omega), sm_push_s, T261_54, r263 hT hk1 hk (by rw [List.length_append, List.length_append, List.length_singleton, show (shT 4).length = 1 from rfl]; omega), sm_push_s, T261_62, List.append_assoc, List.append_assoc]; rfl
    · have h16 : k = 1 ∨ k = 6 := by omega
      have hne : ¬ nI k = 4 := fun h => h4 ((nI_eq (a := k) (b := 4) (by omega) (by decide)).mp h)
      unfold waV waT
      rw [if_neg h4, if_pos h16, if_neg h4, if_pos h16, mm_bf hne, r263 hT hk1 hk (by omega), sm_push_s, T261_70]
theorem r266 {B : sm_M} {i k : Nat} {c f : Int32} (hT : TB B i k c f) (hk1 : 1 ≤ k) (hk : k ≤ 6) {l : List Int32} (hl : l.length + 6 < 20) (x : Int32) (d nL : Nat) (Q : sm_Q) : sm_W (d + 6) 266 0 [vo 11, vi (nI i), vi x] [] (sm_G0 nL) (mB B l) Q = Q (vi (waV k x c f - nI i)) (sm_G0 nL) (mB B (l ++ ([12] ++ waT k))) := by
  rw [T266, r256 (by omega), sm_push_n, T266_6, r261 hT hk1 hk (by rw [List.length_append, List.length_singleton]; omega), sm_push_s, T266_12, List.append_assoc]
theorem r265 {B : sm_M} {i k : Nat} {c f : Int32} (hT : TB B i k c f) (hk1 : 1 ≤ k) (hk : k ≤ 6) {l : List Int32} (hl : l.length + 7 < 20) (x : Int32) (d nL : Nat) (Q : sm_Q) : sm_W (d + 7) 265 0 [vo 11, vi (nI i), vi x] [] (sm_G0 nL) (mB B l) Q = Q (vi (waV k (x + 1) c f - nI i)) (sm_G0 nL) (mB B (l ++ ([31, 12] ++ waT k))) := by
  rw [T265, r256 (by omega), sm_push_n, T265_6, r266 hT hk1 hk (by rw [List.length_append, List.length_singleton]; omega), sm_push_s, T265_14, List.append_assoc]; rfl
theorem r264 {B : sm_M} {i k : Nat} {c f : Int32} (hT : TB B i k c f) (hk1 : 1 ≤ k) (hk : k ≤ 6) {l : List Int32} (hl : l.length + 13 < 20) (x : Int32) (d nL : Nat) (o2 : Option sm_V) (Q : sm_Q) : sm_W (d + 8) 264 0 [vo 11, vi (nI i), vi x, o2] [] (sm_G0 nL) (mB B l) Q = Q (vi (enV k x c f (nI i))) (sm_G0 nL) (mB B (l ++ enT k)) := by
  have hi := hT.1
  have ii : sm_in (nI i) 90 = true := mm_in hi (by decide)
  have ic : (nI i).toNatClampNeg = i := nI_clamp (by omega)
  have e59 : mB B l 59 0 i = nI k := hT.2.1
  rw [T264, ic, e59]
  simp only [mm_ck ii]
  by_cases h5 : k = 5
  · subst h5
    rw [mm_bt (by decide), r256 (by omega), sm_push_n, T264_16, r265 hT hk1 hk (by rw [List.length_append, List.length_singleton]; omega), sm_push_s, T264_22, r261 hT hk1 hk (by simp only [List.length_append, List.length_singleton, List.length_cons, List.length_nil, show (waT 5).length = 4 from rfl]; omega), sm_push_s, T264_30, List.append_assoc, List.append_assoc]; rfl
  · have hne : ¬ nI k = 5 := fun h => h5 ((nI_eq (a := k) (b := 5) (by omega) (by decide)).mp h)
    rw [mm_bf hne, r262 k hk1 hk, sm_push_s, T264_41]
    by_cases h23 : k = 2 ∨ k = 3
    · have h235 : k = 2 ∨ k = 3 ∨ k = 5 := by omega
      unfold enV enT
      rw [if_pos h235, if_neg h5, if_pos h23, if_neg h5, if_pos h23, mm_bf (by decide), r265 hT hk1 hk (by omega), sm_push_s, T264_50]
    · have h235 : ¬ (k = 2 ∨ k = 3 ∨ k = 5) := by omega
      unfold enV enT
      rw [if_neg h235, if_neg h5, if_neg h23, if_neg h5, if_neg h23, mm_bt (by decide), r266 hT hk1 hk (by omega), sm_push_s, T264_59]
/-! act, the call -/
def PA_act (f k : Nat) : Bool := Nat.beq f 43 || (Nat.beq f 20 && Nat.beq k 1)
def PB_act (f k : Nat) : Bool := Nat.beq f 95 || (Nat.beq f 11 && Nat.beq k 65)
theorem mA_fr (A : sm_M) (l : List Int32) : Fr PA_act A (mA A l) := fun f i k h => by
  unfold PA_act at h
  refine (if_neg (fun hh => ?_)).trans (if_neg (fun hh => ?_))
  · rw [hh.1] at h; exact absurd h (by simp)
  · rw [hh.1, hh.2.2] at h; exact absurd h (by decide)
theorem mB_fr (B : sm_M) (l : List Int32) : Fr PB_act B (mB B l) := fun f i k h => by
  unfold PB_act at h
  refine (if_neg (fun hh => ?_)).trans (if_neg (fun hh => ?_))
  · rw [hh.1] at h; exact absurd h (by simp)
  · rw [hh.1, hh.2.2] at h; exact absurd h (by decide)
theorem J_act_m (A B : sm_M) (l : List Int32) (h : l.length ≤ 20) : J_act (mA A l) (mB B l) := ⟨l.length, h, mA_n A l, mB_n B l, fun i hi => (if_pos ⟨rfl, rfl, hi⟩ : mA A l 43 0 i = _).trans (if_pos ⟨rfl, rfl, hi⟩ : mB B l 95 0 i = _).symm⟩
theorem p146 {A B : sm_M} (hG : J_thg A B) (hc : J_cst A) (x0 x1 x2 : Int32) (nL : Nat) : ∃ r l, l.length ≤ 20 ∧ (∀ d Q, sm_W (d + 10) 146 0 [vo 10, vi x0, vi x1, vi x2] [] (sm_G0 nL) A Q = Q (vi r) (sm_G0 nL) (mA A l)) ∧ (∀ d Q, sm_W (d + 9) 254 0 [vo 11, vi x0, vi x1, vi x2] [] (sm_G0 nL) B Q = Q (vi r) (sm_G0 nL) (mB B l)) := by
  obtain ⟨t, s, ht, hs, ta, tb, es, tn, hK, -⟩ := hG
  have tb0 : sm_u B 11 0 65 0 11 0 13 = nI t := tb
  rcases mm_sv x0 t (by omega) with h | ⟨h0, h1, h2⟩ | ⟨i, hi, rfl, v0, v1, v2⟩
  · exact ⟨0, [], by simp, fun d Q => by rw [T146, m42n ta (.inl h), sm_push_s, T146_12a, T147, sm_push_s, T146_17, mA_0], fun d Q => by rw [T254, mm_bt h, mm_ck mm_zb0, mB_0]⟩
  · exact ⟨0, [], by simp, fun d Q => by rw [T146, m42n ta (.inr ⟨h0, h1⟩), sm_push_s, T146_12a, T147, sm_push_s, T146_17, mA_0], fun d Q => by rw [T254, mm_bf h0, tb0, mm_bt h2, mm_ck mm_zb0, mB_0]⟩
  obtain ⟨k1, k2, k3, k4, k5, k6, ⟨k, hk1, hk6, ek⟩, -⟩ := hK i hi
  have hTA : TA A i k (B 60 0 i) (B 62 0 i) i := ⟨tn i (by omega), k1.trans ek, k2, k4⟩
  have hTB : TB B i k (B 60 0 i) (B 62 0 i) := ⟨by omega, ek, rfl, rfl⟩
  have kA : ∀ d Q, sm_W (d + 10) 146 0 [vo 10, vi (nI i), vi x1, vi x2] [] (sm_G0 nL) A Q = sm_W (d + 9) 147 0 [vo 20, some (Sum.inr (Sum.inr (some (42, i)))), vi x1, vi x2] [] (sm_G0 nL) A (fun r G1 M1 => sm_W (d + 10) 146 17 [vo 10, vi (nI i), vi x1, vi x2] (sm_push r []) G1 M1 Q) := fun d Q => by
    rw [T146, m42s ta ht hi, sm_push_s, T146_12]
  have e1 : mA A [] 42 i 1 = nI k := k1.trans ek
  by_cases a0 : x1 < 0
  · have z0 : ¬ x1 = 0 := fun e => absurd a0 (by rw [e]; decide)
    have z1 : ¬ x1 = 1 := fun e => absurd a0 (by rw [e]; decide)
    have z2 : ¬ x1 = 2 := fun e => absurd a0 (by rw [e]; decide)
    exact ⟨0, [], by simp, fun d Q => by rw [kA, T147a, mm_bf z0, mm_bf z1, mm_bf z2, sm_push_s, T146_17, mA_0], fun d Q => by rw [T254, mm_bf v0, tb0, mm_bf v2, mm_ck mm_zb1, mm_bt a0, mB_0]⟩
  by_cases a1 : 2 < x1
  · have z0 : ¬ x1 = 0 := fun e => absurd a1 (by rw [e]; decide)
    have z1 : ¬ x1 = 1 := fun e => absurd a1 (by rw [e]; decide)
    have z2 : ¬ x1 = 2 := fun e => absurd a1 (by rw [e]; decide)
    exact ⟨0, [], by simp, fun d Q => by rw [kA, T147a, mm_bf z0, mm_bf z1, mm_bf z2, sm_push_s, T146_17, mA_0], fun d Q => by rw [T254, mm_bf v0, tb0, mm_bf v2, mm_ck mm_zb1, mm_bf a0, mm_bt a1, mB_0]⟩
  obtain ⟨j, hj, rfl, -⟩ := (mm_rg x1 2 (by decide)).resolve_left a0 |>.resolve_left (fun h => a1 h.2.1)
  have h3 : j = 0 ∨ j = 1 ∨ j = 2 := by omega
  rcases h3 with rfl | rfl | rfl
  · refine ⟨shV k x2 (B 60 0 i) (B 62 0 i), shT k, by have := shT_l hk1 hk6; omega, fun d Q => ?_, fun d Q => ?_⟩
    · rw [kA, T147a, mm_bt (show nI 0 = 0 from rfl), mA_0, e1]
      refine (m148 hc hTA hk1 hk6 (p := 0) (l := []) (by omega) (by decide) x2 (d + 5) nL _).trans ?_
      rw [sm_push_s, T147_51, sm_push_s, T146_17, List.nil_append]
    · rw [T254, mm_bf v0, tb0, mm_bf v2, mm_ck mm_zb1, mm_bf a0, mm_bf a1, mm_bt (show nI 0 = 0 from rfl), mB_0, r255 hTB hk1 hk6 (l := []) (by decide) x2 (d + 5), sm_push_s, T254_34, List.nil_append]
  · refine ⟨waV k x2 (B 60 0 i) (B 62 0 i), waT k, by have := waT_l hk1 hk6; omega, fun d Q => ?_, fun d Q => ?_⟩
    · rw [kA, T147a, mm_bf (show ¬ nI 1 = 0 by decide), mm_bt (show nI 1 = 1 from rfl), mA_0, e1]
      refine (m150 hc hTA hk1 hk6 (p := 0) (l := []) (by omega) (by decide) x2 (d + 3) nL _).trans ?_
      rw [sm_push_s, T147_63, sm_push_s, T146_17, List.nil_append]
    · rw [T254, mm_bf v0, tb0, mm_bf v2, mm_ck mm_zb1, mm_bf a0, mm_bf a1, mm_bf (show ¬ nI 1 = 0 by decide), mm_bt (show nI 1 = 1 from rfl), mB_0, r261 hTB hk1 hk6 (l := []) (by decide) x2 (d + 3), sm_push_s, T254_48, List.nil_append]
  · refine ⟨enV k x2 (B 60 0 i) (B 62 0 i) (nI i), enT k, by have := enT_l hk1 hk6; omega, fun d Q => ?_, fun d Q => ?_⟩
    · rw [kA, T147a, mm_bf (show ¬ nI 2 = 0 by decide), mm_bf (show ¬ nI 2 = 1 by decide), mm_bt (show nI 2 = 2 from rfl), mA_0, e1]
      refine (m151 hc hTA hk1 hk6 (p := 0) (l := []) (by omega) (by decide) x2 d nL _).trans ?_
      rw [sm_push_s, T147_75, sm_push_s, T146_17, List.nil_append]
    · rw [T254, mm_bf v0, tb0, mm_bf v2, mm_ck mm_zb1, mm_bf a0, mm_bf a1, mm_bf (show ¬ nI 2 = 0 by decide), mm_bf (show ¬ nI 2 = 1 by decide), mB_0, r264 hTB hk1 hk6 (l := []) (by decide) x2 d, sm_push_s, T254_57, List.nil_append]
