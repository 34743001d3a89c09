/-! noticed -/
def wfd (B : sm_M) (f : Nat) (x : Int32) : Nat → Nat → Int32 → Nat ⊕ Int32
  | 0, _, c => .inr c
  | j + 1, i, c => if B f 0 i = x then (if c = 0 then .inl i else wfd B f x j (i + 1) (c + (-1))) else wfd B f x j (i + 1) c
def wn2 : Nat ⊕ Int32 → Int32
  | .inl r => nI (100 + r)
  | .inr _ => -1
def wn1 (B : sm_M) (x : Int32) (t : Nat) : Nat ⊕ Int32 → Int32
  | .inl r => nI r
  | .inr c => wn2 (wfd B 68 x t 0 c)
theorem m115b {A B : sm_M} (d nL : Nat) {t : Nat} (ht : t ≤ 90) (ta : A 14 0 3 = nI t) (hE : ∀ i, i < t → A 42 i 10 = B 68 0 i) (x : Int32) (o1 : Option sm_V) (Q : sm_Q) : ∀ (j i : Nat) (c : Int32) (o4 : Option sm_V), i + j = t → sm_W (d + 1) 115 73 [vo 14, vi x, o1, vi c, vi (nI i), o4] [] (sm_G0 nL) A Q = Q (vi (wn2 (wfd B 68 x j i c))) (sm_G0 nL) A := by
  intro j
  induction j with
  | zero =>
    intro i c o4 hi
    have hi' : i = t := by omega
    subst hi'
    rw [T115_73, ta, mm_bf (nI_nlt (Nat.le_refl _) (by omega))]; rfl
  | succ j ih =>
    intro i c o4 hi
    rw [T115_73, ta, mm_bt (nI_lt (by omega) (by omega)), m42s ta ht (by omega), sm_push_s, T115_88, hE i (by omega), nI_1]
    show _ = Q (vi (wn2 (if B 68 0 i = x then (if c = 0 then .inl i else wfd B 68 x j (i + 1) (c + (-1))) else wfd B 68 x j (i + 1) c))) _ _
    by_cases h1 : B 68 0 i = x
    · rw [mm_bt h1, if_pos h1]
      by_cases h2 : c = 0
      · rw [mm_bt h2, if_pos h2, show (100 : Int32) = nI 100 from rfl, nI_add, Nat.add_comm]; rfl
      · rw [mm_bf h2, if_neg h2]; exact ih (i + 1) _ _ (by omega)
    · rw [mm_bf h1, if_neg h1]; exact ih (i + 1) _ _ (by omega)
theorem m115a {A B : sm_M} (d nL : Nat) {t : Nat} (ht : t ≤ 90) (ta : A 14 0 3 = nI t) (hT : ∀ i, i < t → A 42 i 9 = B 67 0 i) (hE : ∀ i, i < t → A 42 i 10 = B 68 0 i) (x : Int32) (o1 : Option sm_V) (Q : sm_Q) : ∀ (j i : Nat) (c : Int32) (o4 : Option sm_V), i + j = t → sm_W (d + 1) 115 23 [vo 14, vi x, o1, vi c, vi (nI i), o4] [] (sm_G0 nL) A Q = Q (vi (wn1 B x t (wfd B 67 x j i c))) (sm_G0 nL) A := by
  intro j
  induction j with
  | zero =>
    intro i c o4 hi
    have hi' : i = t := by omega
    subst hi'
    rw [T115_23, ta, mm_bf (nI_nlt (Nat.le_refl _) (by omega))]
    exact m115b d nL ht ta hE x o1 Q i 0 c o4 (by omega)
  | succ j ih =>
    intro i c o4 hi
    rw [T115_23, ta, mm_bt (nI_lt (by omega) (by omega)), m42s ta ht (by omega), sm_push_s, T115_38, hT i (by omega), nI_1]
    show _ = Q (vi (wn1 B x t (if B 67 0 i = x then (if c = 0 then .inl i else wfd B 67 x j (i + 1) (c + (-1))) else wfd B 67 x j (i + 1) c))) _ _
    by_cases h1 : B 67 0 i = x
    · rw [mm_bt h1, if_pos h1]
      by_cases h2 : c = 0
      · rw [mm_bt h2, if_pos h2]; rfl
      · rw [mm_bf h2, if_neg h2]; exact ih (i + 1) _ _ (by omega)
    · rw [mm_bf h1, if_neg h1]; exact ih (i + 1) _ _ (by omega)
theorem r236b {B : sm_M} (d nL : Nat) {t : Nat} (ht : t ≤ 90) (tb : B 11 0 13 = nI t) (x : Int32) (o1 : Option sm_V) (Q : sm_Q) : ∀ (j i : Nat) (c : Int32), i + j = t → sm_W (d + 2) 236 61 [vo 11, vi x, o1, vi c, vi (nI i)] [] (sm_G0 nL) B Q = Q (vi (wn2 (wfd B 68 x j i c))) (sm_G0 nL) B := by
  intro j
  induction j with
  | zero =>
    intro i c hi
    have hi' : i = t := by omega
    subst hi'
    rw [T236_61, tb, mm_bf (nI_nlt (Nat.le_refl _) (by omega))]; rfl
  | succ j ih =>
    intro i c hi
    rw [T236_61, tb, mm_bt (nI_lt (by omega) (by omega)), mm_ck (mm_in (by omega) (by decide)), nI_clamp (by omega), nI_1]
    show _ = Q (vi (wn2 (if B 68 0 i = x then (if c = 0 then .inl i else wfd B 68 x j (i + 1) (c + (-1))) else wfd B 68 x j (i + 1) c))) _ _
    by_cases h1 : B 68 0 i = x
    · rw [mm_bt h1, if_pos h1]
      by_cases h2 : c = 0
      · rw [mm_bt h2, if_pos h2, show (100 : Int32) = nI 100 from rfl, nI_add]; rfl
      · rw [mm_bf h2, if_neg h2]; exact ih (i + 1) _ (by omega)
    · rw [mm_bf h1, if_neg h1]; exact ih (i + 1) _ (by omega)
theorem r236a {B : sm_M} (d nL : Nat) {t : Nat} (ht : t ≤ 90) (tb : B 11 0 13 = nI t) (x : Int32) (o1 : Option sm_V) (Q : sm_Q) : ∀ (j i : Nat) (c : Int32), i + j = t → sm_W (d + 2) 236 19 [vo 11, vi x, o1, vi c, vi (nI i)] [] (sm_G0 nL) B Q = Q (vi (wn1 B x t (wfd B 67 x j i c))) (sm_G0 nL) B := by
  intro j
  induction j with
  | zero =>
    intro i c hi
    have hi' : i = t := by omega
    subst hi'
    rw [T236_19, tb, mm_bf (nI_nlt (Nat.le_refl _) (by omega))]
    exact r236b d nL ht tb x o1 Q i 0 c (by omega)
  | succ j ih =>
    intro i c hi
    rw [T236_19, tb, mm_bt (nI_lt (by omega) (by omega)), mm_ck (mm_in (by omega) (by decide)), nI_clamp (by omega), nI_1]
    show _ = Q (vi (wn1 B x t (if B 67 0 i = x then (if c = 0 then .inl i else wfd B 67 x j (i + 1) (c + (-1))) else wfd B 67 x j (i + 1) c))) _ _
    by_cases h1 : B 67 0 i = x
    · rw [mm_bt h1, if_pos h1]
      by_cases h2 : c = 0
      · rw [mm_bt h2, if_pos h2]; rfl
      · rw [mm_bf h2, if_neg h2]; exact ih (i + 1) _ (by omega)
    · rw [mm_bf h1, if_neg h1]; exact ih (i + 1) _ (by omega)
theorem p114 {A B : sm_M} {m e : Nat} (hT : J_tel e m A B) (x0 x1 : Int32) (nL : Nat) : ∃ r, (∀ d Q, sm_W (d + 2) 114 0 [vo 10, vi x0, vi x1] [] (sm_G0 nL) A Q = Q (vi r) (sm_G0 nL) A) ∧ (∀ d Q, sm_W (d + 2) 236 0 [vo 11, vi x0, vi x1, none, none] [] (sm_G0 nL) B Q = Q (vi r) (sm_G0 nL) B) := by
  obtain ⟨t, q, C, NC, h1, h2, h3, h4, h5, h6, h7, h8, h9, h10, h11, h12⟩ := hT
  rcases mm_sv x0 q (by omega) with h | ⟨g0, g1, g2⟩ | ⟨i, hi, rfl, v0, v1, v2⟩
  · exact ⟨-1, fun d Q => by rw [T114, T115, mm_bt h, sm_push_s, T114_9], fun d Q => by rw [T236, mm_bt h, mm_ck mm_zb0]⟩
  · exact ⟨-1, fun d Q => by rw [T114, T115, mm_bf g0, h6, mm_bf g1, sm_push_s, T114_9], fun d Q => by rw [T236, mm_bf g0, h7, mm_bt g2, mm_ck mm_zb0]⟩
  by_cases a0 : x1 < 0
  · exact ⟨-1, fun d Q => by rw [T114, T115, mm_bf v0, h6, mm_bt v1, mm_bt a0, sm_push_s, T114_9], fun d Q => by rw [T236, mm_bf v0, h7, mm_bf v2, mm_ck mm_zb1, mm_bt a0]⟩
  refine ⟨wn1 B (nI i) t (wfd B 67 (nI i) t 0 x1), fun d Q => ?_, fun d Q => ?_⟩
  · rw [T114, T115, mm_bf v0, h6, mm_bt v1, mm_bf a0]
    refine (m115a d nL h1 h4 (fun k hk => (h11 k hk).1) (fun k hk => (h11 k hk).2.1) (nI i) _ _ t 0 x1 none (by omega)).trans ?_
    rw [sm_push_s, T114_9]
  · rw [T236, mm_bf v0, h7, mm_bf v2, mm_ck mm_zb1, mm_bf a0]
    exact r236a d nL h1 h5 (nI i) _ Q t 0 x1 (by omega)
