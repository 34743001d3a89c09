/-! rule: the kinds, the numbers -/
def wk7 (b : Int32) : Int32 := if b = 100 then 0 else if b = 117 then 1 else if b = 108 then 2 else if b = 119 then 3 else if b = 115 then 4 else -1
def wkd (b : Int32) : Int32 := if b = 100 then 2 else if b = 117 then 3 else if b = 108 then 4 else if b = 119 then 5 else if b = 115 then 6 else -1
theorem wkd_e {p n : Nat} {a b : Int32} (h : LKe p n a b) : (wk7 a < 0 ∧ wkd b < 0) ∨ (∃ k, 2 ≤ k ∧ k < 7 ∧ ¬ wk7 a < 0 ∧ 2 + wk7 a = nI k ∧ wkd b = nI k ∧ p < n) := by
  unfold wk7 wkd
  rcases LK_x h (show 100 < 128 by omega) with ⟨h1, h2, h3⟩ | ⟨h1, h2⟩
  · have h1' : a = 100 := h1
    have h2' : b = 100 := h2
    rw [if_pos h1', if_pos h2']; exact .inr ⟨2, by omega, by omega, by decide, by decide, by decide, h3⟩
  have h1' : ¬ a = 100 := h1
  have h2' : ¬ b = 100 := h2
  rw [if_neg h1', if_neg h2']
  rcases LK_x h (show 117 < 128 by omega) with ⟨h1, h2, h3⟩ | ⟨h1, h2⟩
  · have h1' : a = 117 := h1
    have h2' : b = 117 := h2
    rw [if_pos h1', if_pos h2']; exact .inr ⟨3, by omega, by omega, by decide, by decide, by decide, h3⟩
  have h1' : ¬ a = 117 := h1
  have h2' : ¬ b = 117 := h2
  rw [if_neg h1', if_neg h2']
  rcases LK_x h (show 108 < 128 by omega) with ⟨h1, h2, h3⟩ | ⟨h1, h2⟩
  · have h1' : a = 108 := h1
    have h2' : b = 108 := h2
    rw [if_pos h1', if_pos h2']; exact .inr ⟨4, by omega, by omega, by decide, by decide, by decide, h3⟩
  have h1' : ¬ a = 108 := h1
  have h2' : ¬ b = 108 := h2
  rw [if_neg h1', if_neg h2']
  rcases LK_x h (show 119 < 128 by omega) with ⟨h1, h2, h3⟩ | ⟨h1, h2⟩
  · have h1' : a = 119 := h1
    have h2' : b = 119 := h2
    rw [if_pos h1', if_pos h2']; exact .inr ⟨5, by omega, by omega, by decide, by decide, by decide, h3⟩
  have h1' : ¬ a = 119 := h1
  have h2' : ¬ b = 119 := h2
  rw [if_neg h1', if_neg h2']
  rcases LK_x h (show 115 < 128 by omega) with ⟨h1, h2, h3⟩ | ⟨h1, h2⟩
  · have h1' : a = 115 := h1
    have h2' : b = 115 := h2
    rw [if_pos h1', if_pos h2']; exact .inr ⟨6, by omega, by omega, by decide, by decide, by decide, h3⟩
  have h1' : ¬ a = 115 := h1
  have h2' : ¬ b = 115 := h2
  rw [if_neg h1', if_neg h2']; exact .inl ⟨by decide, by decide⟩
theorem m69a {A : sm_M} (nL : Nat) {a : Int32} (ga : ∀ d Q, sm_W d 65 0 [vo 13] [] (sm_G0 nL) A Q = Q (vi a) (sm_G0 nL) A) (d : Nat) (Q : sm_Q) (o0 : Option sm_V) : sm_W (d + 1) 69 0 [vo 13, vo 7, o0] [] (sm_G0 nL) A Q = Q (vi (wk7 a)) (sm_G0 nL) A := by
  unfold wk7
  have c0 : sm_sc 7 (Int32.toNatClampNeg 0) = 100 := by decide
  have c1 : sm_sc 7 (Int32.toNatClampNeg (0 + 1)) = 117 := by decide
  have c2 : sm_sc 7 (Int32.toNatClampNeg (0 + 1 + 1)) = 108 := by decide
  have c3 : sm_sc 7 (Int32.toNatClampNeg (0 + 1 + 1 + 1)) = 119 := by decide
  have c4 : sm_sc 7 (Int32.toNatClampNeg (0 + 1 + 1 + 1 + 1)) = 115 := by decide
  rw [T69a, T69_2a, mm_bt (by decide), ga, sm_push_s, T69_14a, mm_ck (by decide), c0]
  by_cases h1 : a = 100
  · rw [mm_bt h1, if_pos h1]
  rw [mm_bf h1, if_neg h1]
  refine (T69_2a _ _ _ _ _).trans ?_
  rw [mm_bt (by decide), ga, sm_push_s, T69_14a, mm_ck (by decide), c1]
  by_cases h2 : a = 117
  · rw [mm_bt h2, if_pos h2]; rfl
  rw [mm_bf h2, if_neg h2]
  refine (T69_2a _ _ _ _ _).trans ?_
  rw [mm_bt (by decide), ga, sm_push_s, T69_14a, mm_ck (by decide), c2]
  by_cases h3 : a = 108
  · rw [mm_bt h3, if_pos h3]; rfl
  rw [mm_bf h3, if_neg h3]
  refine (T69_2a _ _ _ _ _).trans ?_
  rw [mm_bt (by decide), ga, sm_push_s, T69_14a, mm_ck (by decide), c3]
  by_cases h4 : a = 119
  · rw [mm_bt h4, if_pos h4]; rfl
  rw [mm_bf h4, if_neg h4]
  refine (T69_2a _ _ _ _ _).trans ?_
  rw [mm_bt (by decide), ga, sm_push_s, T69_14a, mm_ck (by decide), c4]
  by_cases h5 : a = 115
  · rw [mm_bt h5, if_pos h5]; rfl
  rw [mm_bf h5, if_neg h5]
  refine (T69_2a _ _ _ _ _).trans ?_
  rw [mm_bf (by decide)]
theorem r205s (d : Nat) (x0 x1 b : Int32) (o2 : Option sm_V) (nL : Nat) (B : sm_M) (Q : sm_Q) : sm_W (d + 1) 205 42 [vo 11, vi x0, vi x1, o2] [Sum.inl b] (sm_G0 nL) B Q = sm_W (d + 1) 205 10 [vo 11, vi x0, vi x1, vi (wkd b)] [] (sm_G0 nL) B Q := by
  unfold wkd
  rw [T205_42]
  by_cases h1 : b = 100
  · rw [mm_bt h1, if_pos h1]
  rw [mm_bf h1, if_neg h1]
  by_cases h2 : b = 117
  · rw [mm_bt h2, if_pos h2]
  rw [mm_bf h2, if_neg h2]
  by_cases h3 : b = 108
  · rw [mm_bt h3, if_pos h3]
  rw [mm_bf h3, if_neg h3]
  by_cases h4 : b = 119
  · rw [mm_bt h4, if_pos h4]
  rw [mm_bf h4, if_neg h4]
  by_cases h5 : b = 115
  · rw [mm_bt h5, if_pos h5]
  rw [mm_bf h5, if_neg h5]
theorem r205t (d : Nat) (x0 x1 b : Int32) (o2 : Option sm_V) (nL : Nat) (B : sm_M) (Q : sm_Q) : sm_W (d + 1) 205 6 [vo 11, vi x0, vi x1, o2] [Sum.inl b] (sm_G0 nL) B Q = sm_W (d + 1) 205 10 [vo 11, vi x0, vi x1, vi (wkd b)] [] (sm_G0 nL) B Q :=
  ((T205_6 _ _ _ _ _ _ _ _).trans (T205_42 _ _ _ _ _ _ _ _).symm).trans (r205s d x0 x1 b o2 nL B Q)
def wbitn (m : Nat) : Nat := (m.testBit 2).toNat + (m.testBit 3).toNat + (m.testBit 4).toNat + (m.testBit 5).toNat + (m.testBit 6).toNat
def wkP (m k : Nat) : Bool := decide (((nI m >>> (nI k &&& 31)) &&& 1) = 1) || (decide (((nI m >>> (nI k &&& 31)) &&& 1) = 0) && (decide (¬ wbitn m = 5) && (decide ((nI m ||| (1 <<< (nI k &&& 31))) = nI (m ||| 2 ^ k)) && (decide ((m ||| 2 ^ k) < 128) && (decide ((m ||| 2 ^ k) % 4 = 0) && decide (wbitn (m ||| 2 ^ k) = wbitn m + 1))))))
theorem wkm0 : ∀ m, m < 32 → ∀ k, k < 5 → wkP (4 * m) (k + 2) = true := by decide +kernel
theorem wkm (m : Nat) (hm : m < 128) (h4 : m % 4 = 0) (k : Nat) (hk : k < 7) (h2 : 2 ≤ k) : (((nI m >>> (nI k &&& 31)) &&& 1) = 1 ∨ (((nI m >>> (nI k &&& 31)) &&& 1) = 0 ∧ ¬ wbitn m = 5 ∧ (nI m ||| (1 <<< (nI k &&& 31))) = nI (m ||| 2 ^ k) ∧ (m ||| 2 ^ k) < 128 ∧ (m ||| 2 ^ k) % 4 = 0 ∧ wbitn (m ||| 2 ^ k) = wbitn m + 1)) := by
  have h := wkm0 (m / 4) (by omega) (k - 2) (by omega)
  rw [show 4 * (m / 4) = m by omega, show k - 2 + 2 = k by omega] at h
  unfold wkP at h
  simp only [Bool.or_eq_true, Bool.and_eq_true, decide_eq_true_eq] at h
  exact h
theorem kindend (r : Nat) (hr : r < 11) (nL : Nat) {n p m : Nat} {A B : sm_M} (hm : m < 128) (hP : PS n A B p) (hR : RW r A B) : ∃ ok p' A' B', (∀ Q : sm_Q, sm_Br (decide (nI m = 0)) (Q (vi 0) (sm_G0 nL) (sm_u A 36 r 7 (nI m))) (Q (vi 1) (sm_G0 nL) (sm_u A 36 r 7 (nI m))) = Q (vi (mb ok)) (sm_G0 nL) A') ∧ (∀ Q : sm_Q, sm_Br (decide (nI m = 0)) (Q (vi 0) (sm_G0 nL) B) (sm_Ck (sm_in (nI r) 11) (Q (vi 1) (sm_G0 nL) (sm_u B 73 0 (nI r).toNatClampNeg (nI m)))) = Q (vi (mb ok)) (sm_G0 nL) B') ∧ Fi (PA_r r) A A' ∧ Fi (PB_r r) B B' ∧ PS n A' B' p' ∧ (ok = true → RW r A' B') := by
  have ri : sm_in (nI r) 11 = true := mm_in hr (by decide)
  have rc : (nI r).toNatClampNeg = r := nI_clamp (by omega)
  have hpA : PA_r r 36 r 7 = true := by simp [PA_r]
  have hpB : PB_r r 73 0 r = true := by simp [PB_r]
  by_cases h : nI m = 0
  · exact ⟨false, p, sm_u A 36 r 7 (nI m), B, fun Q => by rw [mm_bt h]; rfl, fun Q => by rw [mm_bt h]; rfl, Fi_u (Fi_r _ _) hpA, Fi_r _ _, hP, fun h => absurd h (by decide)⟩
  · refine ⟨true, p, sm_u A 36 r 7 (nI m), sm_u B 73 0 r (nI m), fun Q => by rw [mm_bf h]; rfl, fun Q => by rw [mm_bf h, mm_ck ri, rc]; rfl, Fi_u (Fi_r _ _) hpA, Fi_u (Fi_r _ _) hpB, hP, fun _ => ⟨fun j hj => ?_, ?_, ?_⟩⟩
    · rw [mm_un (show ¬ (r = r ∧ 2 + j = 7) by omega)]; exact hR.1 j hj
    · rw [mm_un (show ¬ (r = r ∧ 6 = 7) by omega)]; exact hR.2.1
    · rw [mm_up]; exact mm_up.symm
theorem p71 (r : Nat) (hr : r < 11) (nL : Nat) {n : Nat} : ∀ j c m p A B, c + j = 5 → m < 128 → m % 4 = 0 → wbitn m = c → TX n A B → PS n A B p → RW r A B → ∃ ok p' A' B' b, (∀ d Q, sm_W d 202 0 [vo 11] [] (sm_G0 nL) B Q = Q (vi b) (sm_G0 nL) B) ∧ (∀ d Q o3, sm_W (d + 2) 71 4 [vo 13, vr r, vi (nI m), vi (nI c), o3] [] (sm_G0 nL) A Q = Q (vi (mb ok)) (sm_G0 nL) A') ∧ (∀ d Q, sm_W (d + 1) 205 10 [vo 11, vi (nI r), vi (nI m), vi (wkd b)] [] (sm_G0 nL) B Q = Q (vi (mb ok)) (sm_G0 nL) B') ∧ Fi (PA_r r) A A' ∧ Fi (PB_r r) B B' ∧ PS n A' B' p' ∧ (ok = true → RW r A' B') := by
  intro j
  induction j with
  | zero =>
    intro c m p A B hc hm hm4 hcn hT hP hR
    have hc' : c = 5 := by omega
    subst hc'
    obtain ⟨a, b, ga, gb, hL⟩ := p65 hT hP nL
    obtain ⟨ok, p', A', B', g1, g2, g3⟩ := kindend r hr nL hm hP hR
    refine ⟨ok, p', A', B', b, gb, fun d Q o3 => ?_, fun d Q => ?_, g3⟩
    · rw [T71_4, mm_bf (by decide)]; exact g1 Q
    · rw [T205_10]
      rcases wkd_e hL with ⟨-, hw⟩ | ⟨k, k2, k7, -, -, hk, -⟩
      · rw [mm_bt hw]; exact g2 Q
      · rw [hk, mm_bf (nI_pos (show k < 2 ^ 31 by omega))]
        rcases wkm m hm hm4 k k7 k2 with h | ⟨-, h, -⟩
        · rw [h, mm_bf (by decide)]; exact g2 Q
        · exact absurd hcn h
  | succ j ih =>
    intro c m p A B hc hm hm4 hcn hT hP hR
    have c5 : nI c < Int32.ofNat 5 := nI_lt (show c < 5 by omega) (by decide)
    obtain ⟨a, b, ga, gb, hL⟩ := p65 hT hP nL
    obtain ⟨ok, p', A', B', g1, g2, g3⟩ := kindend r hr nL hm hP hR
    have hA : ∀ d Q o3, sm_W (d + 2) 71 4 [vo 13, vr r, vi (nI m), vi (nI c), o3] [] (sm_G0 nL) A Q = sm_W (d + 2) 71 19 [vo 13, vr r, vi (nI m), vi (nI c), o3] [Sum.inl (wk7 a)] (sm_G0 nL) A Q := fun d Q o3 => by
      rw [T71_4, mm_bt c5, m69a nL ga, sm_push_s]
    rcases wkd_e hL with ⟨hw1, hw⟩ | ⟨k, k2, k7, hw1, hk1, hk, hp⟩
    · refine ⟨ok, p', A', B', b, gb, fun d Q o3 => ?_, fun d Q => ?_, g3⟩
      · rw [hA, T71_19, mm_bt hw1]; exact g1 Q
      · rw [T205_10, mm_bt hw]; exact g2 Q
    have k0 : ¬ nI k < 0 := nI_pos (show k < 2 ^ 31 by omega)
    rcases wkm m hm hm4 k k7 k2 with h | ⟨h, h5, ho, ho1, ho2, ho3⟩
    · refine ⟨ok, p', A', B', b, gb, fun d Q o3 => ?_, fun d Q => ?_, g3⟩
      · rw [hA, T71_19, mm_bf hw1, hk1, mm_bt h]; exact g1 Q
      · rw [T205_10, hk, mm_bf k0, h, mm_bf (by decide)]; exact g2 Q
    · obtain ⟨s1, s2, s3⟩ := PS_s (r := r) hP hp
      obtain ⟨ok, p', A', B', b1, q0, q1, q2, q3, q4, q5⟩ := ih (c + 1) (m ||| 2 ^ k) (p + 1) _ _ (by omega) ho1 ho2 (by omega) (TX_fr hT s2 s3) s1 hR
      refine ⟨ok, p', A', B', b, gb, fun d Q o3 => ?_, fun d Q => ?_, Fi_t s2 q3, Fi_t s3 q4, q5⟩
      · rw [hA, T71_19, mm_bf hw1, hk1, h, mm_bf (by decide), ho, nI_1, hP.1, nI_1]; exact q1 d Q _
      · rw [T205_10, hk, mm_bf k0, mm_bt h, ho, hP.2.1, nI_1, q0, sm_push_s, r205s]; exact q2 d Q
theorem numend (r : Nat) (hr : r < 11) (nL : Nat) {n p c v w : Nat} {A B : sm_M} (hw : w < 4) (hc : c < 2 ^ 31) (hv : v ≤ 999) (hP : PS n A B p) (hR : RW r A B) : ∃ ok p' A' B', (∀ Q : sm_Q, sm_Br (decide (nI c = 0)) (Q (vi 0) (sm_G0 nL) A) (sm_Br (decide (nI (w + 1) = 1)) (Q (vi 1) (sm_G0 nL) (sm_u A 36 r 2 (nI v))) (sm_Br (decide (nI (w + 1) = 2)) (Q (vi 1) (sm_G0 nL) (sm_u A 36 r 3 (nI v))) (sm_Br (decide (nI (w + 1) = 3)) (Q (vi 1) (sm_G0 nL) (sm_u A 36 r 4 (nI v))) (sm_Br (decide (nI (w + 1) = 4)) (Q (vi 1) (sm_G0 nL) (sm_u A 36 r 5 (nI v))) (Q (vi 1) (sm_G0 nL) A))))) = Q (vi (mb ok)) (sm_G0 nL) A') ∧ (∀ Q : sm_Q, sm_Br (decide (nI c = 0)) (Q (vi 0) (sm_G0 nL) B) (sm_Ck (sm_in (nI (4 * r + w)) 44) (Q (vi 1) (sm_G0 nL) (sm_u B 71 0 (nI (4 * r + w)).toNatClampNeg (nI v)))) = Q (vi (mb ok)) (sm_G0 nL) B') ∧ Fi (PA_r r) A A' ∧ Fi (PB_r r) B B' ∧ PS n A' B' p' ∧ (ok = true → RW r A' B') := by
  have ri : sm_in (nI (4 * r + w)) 44 = true := mm_in (by omega) (by decide)
  have rc : (nI (4 * r + w)).toNatClampNeg = 4 * r + w := nI_clamp (by omega)
  have hpA : PA_r r 36 r (2 + w) = true := by simp [PA_r]
  have hpB : PB_r r 71 0 (4 * r + w) = true := by
    have h4 : w = 0 ∨ w = 1 ∨ w = 2 ∨ w = 3 := by omega
    rcases h4 with rfl | rfl | rfl | rfl <;> simp [PB_r]
  by_cases h : nI c = 0
  · exact ⟨false, p, A, B, fun Q => by rw [mm_bt h]; rfl, fun Q => by rw [mm_bt h]; rfl, Fi_r _ _, Fi_r _ _, hP, fun h => absurd h (by decide)⟩
  · refine ⟨true, p, sm_u A 36 r (2 + w) (nI v), sm_u B 71 0 (4 * r + w) (nI v), fun Q => ?_, fun Q => by rw [mm_bf h, mm_ck ri, rc]; rfl, Fi_u (Fi_r _ _) hpA, Fi_u (Fi_r _ _) hpB, hP, fun _ => ⟨fun j hj => ?_, ?_, ?_⟩⟩
    · rw [mm_bf h]
      have h4 : w = 0 ∨ w = 1 ∨ w = 2 ∨ w = 3 := by omega
      rcases h4 with rfl | rfl | rfl | rfl <;> rfl
    · by_cases e : j = w
      · subst e; rw [mm_up, mm_up]; exact ⟨rfl, v, hv, rfl⟩
      · rw [mm_un (show ¬ (r = r ∧ 2 + j = 2 + w) by omega), mm_un (show ¬ (0 = 0 ∧ 4 * r + j = 4 * r + w) by omega)]; exact hR.1 j hj
    · rw [mm_un (show ¬ (r = r ∧ 6 = 2 + w) by omega)]; exact hR.2.1
    · rw [mm_un (show ¬ (r = r ∧ 7 = 2 + w) by omega)]; exact hR.2.2
theorem p72 (r : Nat) (hr : r < 11) (nL : Nat) {n w : Nat} (hw : w < 4) : ∀ j c v p A B, c + j = 3 → v < 10 ^ c → TX n A B → PS n A B p → RW r A B → ∃ ok p' A' B', (∀ d Q, sm_W (d + 1) 72 5 [vo 13, vr r, vi (nI (w + 1)), vi (nI c), vi (nI v)] [] (sm_G0 nL) A Q = Q (vi (mb ok)) (sm_G0 nL) A') ∧ (∀ d Q, sm_W (d + 1) 207 4 [vo 11, vi (nI (4 * r + w)), vi (nI v), vi (nI c)] [] (sm_G0 nL) B Q = Q (vi (mb ok)) (sm_G0 nL) B') ∧ Fi (PA_r r) A A' ∧ Fi (PB_r r) B B' ∧ PS n A' B' p' ∧ (ok = true → RW r A' B') := by
  intro j
  induction j with
  | zero =>
    intro c v p A B hc hv hT hP hR
    have hc' : c = 3 := by omega
    subst hc'
    obtain ⟨ok, p', A', B', g1, g2, g3⟩ := numend r hr nL hw (show 3 < 2 ^ 31 by omega) (show v ≤ 999 by omega) hP hR
    refine ⟨ok, p', A', B', fun d Q => ?_, fun d Q => ?_, g3⟩
    · rw [T72_5, mm_bf (by decide)]; exact g1 Q
    · rw [T207_4, mm_bf (by decide)]; exact g2 Q
  | succ j ih =>
    intro c v p A B hc hv hT hP hR
    have c3 : nI c < (3 : Int32) := nI_lt (show c < 3 by omega) (by decide)
    have hx : 10 ^ c ≤ 100 := (by decide : ∀ c, c < 3 → 10 ^ c ≤ 100) c (by omega)
    obtain ⟨a, b, ga, gb, hL⟩ := p65 hT hP nL
    obtain ⟨ok, p', A', B', g1, g2, g3⟩ := numend r hr nL hw (show c < 2 ^ 31 by omega) (show v ≤ 999 by omega) hP hR
    have hA1 : a < 48 → ∀ d Q, sm_W (d + 1) 72 5 [vo 13, vr r, vi (nI (w + 1)), vi (nI c), vi (nI v)] [] (sm_G0 nL) A Q = Q (vi (mb ok)) (sm_G0 nL) A' := fun h d Q => by
      rw [T72_5, mm_bt c3, ga, sm_push_s, T72_14, mm_bt h]; exact g1 Q
    have hA2 : ¬ a < 48 → 57 < a → ∀ d Q, sm_W (d + 1) 72 5 [vo 13, vr r, vi (nI (w + 1)), vi (nI c), vi (nI v)] [] (sm_G0 nL) A Q = Q (vi (mb ok)) (sm_G0 nL) A' := fun h0 h d Q => by
      rw [T72_5, mm_bt c3, ga, sm_push_s, T72_14, mm_bf h0, ga, sm_push_s, T72_23, mm_bt h]; exact g1 Q
    have hB1 : b < 48 → ∀ d Q, sm_W (d + 1) 207 4 [vo 11, vi (nI (4 * r + w)), vi (nI v), vi (nI c)] [] (sm_G0 nL) B Q = Q (vi (mb ok)) (sm_G0 nL) B' := fun h d Q => by
      rw [T207_4, mm_bt c3, gb, sm_push_s, T207_13, mm_bt h]; exact g2 Q
    have hB2 : ¬ b < 48 → 57 < b → ∀ d Q, sm_W (d + 1) 207 4 [vo 11, vi (nI (4 * r + w)), vi (nI v), vi (nI c)] [] (sm_G0 nL) B Q = Q (vi (mb ok)) (sm_G0 nL) B' := fun h0 h d Q => by
      rw [T207_4, mm_bt c3, gb, sm_push_s, T207_13, mm_bf h0, mm_bt h]; exact g2 Q
    have hA : (a < 48 ∨ 57 < a) → ∀ d Q, sm_W (d + 1) 72 5 [vo 13, vr r, vi (nI (w + 1)), vi (nI c), vi (nI v)] [] (sm_G0 nL) A Q = Q (vi (mb ok)) (sm_G0 nL) A' := fun h => by
      by_cases h0 : a < 48
      · exact hA1 h0
      · exact hA2 h0 (h.resolve_left h0)
    have hB : (b < 48 ∨ 57 < b) → ∀ d Q, sm_W (d + 1) 207 4 [vo 11, vi (nI (4 * r + w)), vi (nI v), vi (nI c)] [] (sm_G0 nL) B Q = Q (vi (mb ok)) (sm_G0 nL) B' := fun h => by
      by_cases h0 : b < 48
      · exact hB1 h0
      · exact hB2 h0 (h.resolve_left h0)
    rcases hL with ⟨x, hx1, rfl, rfl, hp⟩ | ⟨-, h1, h2⟩
    · by_cases l48 : x < 48
      · have h : nI x < (48 : Int32) := nI_lt l48 (by decide)
        exact ⟨ok, p', A', B', hA (.inl h), hB (.inl h), g3⟩
      by_cases l57 : 57 < x
      · have h : (57 : Int32) < nI x := nI_lt l57 (by omega)
        exact ⟨ok, p', A', B', hA (.inr h), hB (.inr h), g3⟩
      have h48 : ¬ nI x < (48 : Int32) := nI_nlt (show 48 ≤ x by omega) (by omega)
      have h57 : ¬ (57 : Int32) < nI x := nI_nlt (show x ≤ 57 by omega) (by decide)
      obtain ⟨s1, s2, s3⟩ := PS_s (r := r) hP hp
      have hv' : 10 * v + x - 48 < 10 ^ (c + 1) := by
        rw [Nat.pow_succ]
        generalize 10 ^ c = X at hv
        omega
      have ev : 10 * nI v + nI x - 48 = nI (10 * v + x - 48) := by
        show nI 10 * nI v + nI x - nI 48 = _
        rw [pk_mul, nI_add, pk_sub (show 48 ≤ 10 * v + x by omega)]
      obtain ⟨ok, p', A', B', q1, q2, q3, q4, q5⟩ := ih (c + 1) (10 * v + x - 48) (p + 1) _ _ (by omega) hv' (TX_fr hT s2 s3) s1 hR
      refine ⟨ok, p', A', B', fun d Q => ?_, fun d Q => ?_, Fi_t s2 q3, Fi_t s3 q4, q5⟩
      · rw [T72_5, mm_bt c3, ga, sm_push_s, T72_14, mm_bf h48, ga, sm_push_s, T72_23, mm_bf h57, ga, sm_push_s, T72_37, ev, nI_1, hP.1, nI_1]; exact q1 d Q
      · rw [T207_4, mm_bt c3, gb, sm_push_s, T207_13, mm_bf h48, mm_bf h57, gb, sm_push_s, T207_31, ev, nI_1, hP.2.1, nI_1]; exact q2 d Q
    · exact ⟨ok, p', A', B', hA h1, hB h2, g3⟩
