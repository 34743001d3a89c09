/-! rule: a word taken; the rank -/
abbrev vr (r : Nat) : Option sm_V := some (Sum.inr (Sum.inr (some (36, r))))
def RW (r : Nat) (A B : sm_M) : Prop := (∀ j, j < 4 → A 36 r (2 + j) = B 71 0 (4 * r + j) ∧ ∃ v, v ≤ 999 ∧ B 71 0 (4 * r + j) = nI v) ∧ A 36 r 6 = B 72 0 r ∧ A 36 r 7 = B 73 0 r
theorem p66 (r : Nat) (nL : Nat) {n w : Nat} (hw : w < 6) : ∀ j k p A B, k + j = 4 → TX n A B → PS n A B p → RW r A B → ∃ p' A' B', Fi (PA_r r) A A' ∧ Fi (PB_r r) B B' ∧ PS n A' B' p' ∧ RW r A' B' ∧ (((∀ d Q, sm_W (d + 2) 66 2 [vo 13, vi (nI (wmp w)), vi (nI k)] [] (sm_G0 nL) A Q = Q (vi 1) (sm_G0 nL) A') ∧ (∀ d Q, sm_W (d + 1) 201 39 [vo 11, vi (nI w), vi (nI k)] [] (sm_G0 nL) B Q = sm_W (d + 1) 201 39 [vo 11, vi (nI w), vi (nI 4)] [] (sm_G0 nL) B' Q)) ∨ ((∀ d Q, sm_W (d + 2) 66 2 [vo 13, vi (nI (wmp w)), vi (nI k)] [] (sm_G0 nL) A Q = Q (vi 0) (sm_G0 nL) A') ∧ (∀ d Q, sm_W (d + 1) 201 39 [vo 11, vi (nI w), vi (nI k)] [] (sm_G0 nL) B Q = Q (vi (-1)) (sm_G0 nL) B'))) := by
  intro j
  induction j with
  | zero =>
    intro k p A B hk hT hP hR
    have hk' : k = 4 := by omega
    subst hk'
    exact ⟨p, A, B, Fi_r _ _, Fi_r _ _, hP, hR, .inl ⟨fun d Q => by rw [T66_2, mm_bf (by decide)], fun d Q => rfl⟩⟩
  | succ j ih =>
    intro k p A B hk hT hP hR
    have k4 : nI k < (4 : Int32) := nI_lt (show k < 4 by omega) (by decide)
    have hm : wmp w < 6 := (by decide : ∀ w, w < 6 → wmp w < 6) w hw
    have eA : 4 * nI (wmp w) + nI k = nI (4 * wmp w + k) := by show nI 4 * nI (wmp w) + nI k = _; rw [pk_mul, nI_add]
    have eB : 4 * nI w + nI k = nI (4 * w + k) := by show nI 4 * nI w + nI k = _; rw [pk_mul, nI_add]
    have iA : sm_in (nI (4 * wmp w + k)) 24 = true := mm_in (by omega) (by decide)
    have iB : sm_in (nI (4 * w + k)) 24 = true := mm_in (by omega) (by decide)
    have cA : (nI (4 * wmp w + k)).toNatClampNeg = 4 * wmp w + k := nI_clamp (by omega)
    have cB : (nI (4 * w + k)).toNatClampNeg = 4 * w + k := nI_clamp (by omega)
    obtain ⟨x, hx, xA, xB⟩ := wfirst_l w hw k (by omega)
    have hB74 : B 74 0 (4 * w + k) = nI x := (hT.2.2.2.2 _ (by omega)).trans xB
    obtain ⟨b, gb, h⟩ := p67 hT hP nL hx
    rcases h with ⟨hp, eb, ga⟩ | ⟨eb, ga⟩
    · obtain ⟨s1, s2, s3⟩ := PS_s (r := r) hP hp
      obtain ⟨p', A', B', f1, f2, f3, fR, f4⟩ := ih (k + 1) (p + 1) _ _ (by omega) (TX_fr hT s2 s3) s1 hR
      refine ⟨p', A', B', Fi_t s2 f1, Fi_t s3 f2, f3, fR, ?_⟩
      have eqA : ∀ d Q, sm_W (d + 2) 66 2 [vo 13, vi (nI (wmp w)), vi (nI k)] [] (sm_G0 nL) A Q = sm_W (d + 2) 66 2 [vo 13, vi (nI (wmp w)), vi (nI (k + 1))] [] (sm_G0 nL) (sm_u A 13 0 5 (nI (p + 1))) Q := fun d Q => by
        rw [T66_2, mm_bt k4, eA, mm_ck iA, cA, xA, ga, sm_push_s, T66_21, mm_bf (by decide), nI_1]
      have eqB : ∀ d Q, sm_W (d + 1) 201 39 [vo 11, vi (nI w), vi (nI k)] [] (sm_G0 nL) B Q = sm_W (d + 1) 201 39 [vo 11, vi (nI w), vi (nI (k + 1))] [] (sm_G0 nL) (sm_u B 11 0 32 (nI (p + 1))) Q := fun d Q => by
        rw [T201_39, mm_bt k4, gb, sm_push_s, T201_48, eB, mm_ck iB, cB, hB74, mm_bt eb, nI_1, hP.2.1, nI_1]
      rcases f4 with ⟨g1, g2⟩ | ⟨g1, g2⟩
      · exact .inl ⟨fun d Q => (eqA d Q).trans (g1 d Q), fun d Q => (eqB d Q).trans (g2 d Q)⟩
      · exact .inr ⟨fun d Q => (eqA d Q).trans (g1 d Q), fun d Q => (eqB d Q).trans (g2 d Q)⟩
    · refine ⟨p, A, B, Fi_r _ _, Fi_r _ _, hP, hR, .inr ⟨fun d Q => ?_, fun d Q => ?_⟩⟩
      · rw [T66_2, mm_bt k4, eA, mm_ck iA, cA, xA, ga, sm_push_s, T66_21, mm_bt rfl]
      · rw [T201_39, mm_bt k4, gb, sm_push_s, T201_48, eB, mm_ck iB, cB, hB74, mm_bf eb]
/-- the word and the space behind it -/
theorem p63w (r : Nat) (nL : Nat) {n p : Nat} {A B : sm_M} (hT : TX n A B) (hP : PS n A B p) (hR : RW r A B) : ∃ p' A' B', Fi (PA_r r) A A' ∧ Fi (PB_r r) B B' ∧ PS n A' B' p' ∧ RW r A' B' ∧ ((∃ w, w < 6 ∧ (∀ d Q o1, sm_W (d + 3) 63 0 [vo 13, vr r, o1] [] (sm_G0 nL) A Q = sm_W (d + 3) 63 23 [vo 13, vr r, vi (nI (wmp w))] [Sum.inl 1] (sm_G0 nL) A' Q) ∧ (∀ d Q o0 o1, sm_W (d + 1) 201 0 [vo 11, o0, o1] [] (sm_G0 nL) B Q = Q (vi (nI w)) (sm_G0 nL) B')) ∨ ((∀ d Q o1, sm_W (d + 3) 63 0 [vo 13, vr r, o1] [] (sm_G0 nL) A Q = Q (vi 0) (sm_G0 nL) A') ∧ (∀ d Q o0 o1, sm_W (d + 1) 201 0 [vo 11, o0, o1] [] (sm_G0 nL) B Q = Q (vi (-1)) (sm_G0 nL) B'))) := by
  obtain ⟨a, b, ga, gb, hL⟩ := p65 hT hP nL
  rcases LK_w hL with ⟨wa, wb⟩ | ⟨w, hw, wa, wb⟩
  · refine ⟨p, A, B, Fi_r _ _, Fi_r _ _, hP, hR, .inr ⟨fun d Q o1 => ?_, fun d Q o0 o1 => ?_⟩⟩
    · rw [T63, T64]
      refine (m64 nL a ga (d + 1) _ 6 0 (by omega)).trans ?_
      rw [wa, sm_push_s, T63_4]; exact mm_bt (by decide)
    · rw [T201]
      refine (r201a hT.2.2.2.2 nL b gb d Q o1 6 0 (by omega)).trans ?_
      rw [wb]
  · have hm : wmp w < 6 := (by decide : ∀ w, w < 6 → wmp w < 6) w hw
    have nm : ¬ nI (wmp w) < 0 := nI_pos (by omega)
    have n6 : ¬ nI w = (6 : Int32) := fun h => by
      have := (nI_eq (by omega) (by decide)).mp (h.trans (show (6 : Int32) = nI 6 from rfl)); omega
    have e1 : ∀ d Q o1, sm_W (d + 3) 63 0 [vo 13, vr r, o1] [] (sm_G0 nL) A Q = sm_W (d + 2) 66 2 [vo 13, vi (nI (wmp w)), vi (nI 0)] [] (sm_G0 nL) A (fun r1 G1 M1 => sm_W (d + 3) 63 14 [vo 13, vr r, vi (nI (wmp w))] (sm_push r1 []) G1 M1 Q) := fun d Q o1 => by
      rw [T63, T64]
      refine (m64 nL a ga (d + 1) _ 6 0 (by omega)).trans ?_
      rw [wa, sm_push_s, T63_4]
      refine (mm_bf nm).trans ?_
      rw [T66]; rfl
    have e2 : ∀ d Q o0 o1, sm_W (d + 1) 201 0 [vo 11, o0, o1] [] (sm_G0 nL) B Q = sm_W (d + 1) 201 39 [vo 11, vi (nI w), vi (nI 0)] [] (sm_G0 nL) B Q := fun d Q o0 o1 => by
      rw [T201]
      refine (r201a hT.2.2.2.2 nL b gb d Q o1 6 0 (by omega)).trans ?_
      rw [wb]; rfl
    obtain ⟨p1, A1, B1, f1, f2, f3, fR, f4⟩ := p66 r nL hw 4 0 p A B (by omega) hT hP hR
    rcases f4 with ⟨g1, g2⟩ | ⟨g1, g2⟩
    · have hT1 := TX_fr hT f1 f2
      obtain ⟨b1, gb1, h⟩ := p67 hT1 f3 nL (show 32 < 128 by omega)
      rcases h with ⟨hp, eb, ga1⟩ | ⟨eb, ga1⟩
      · obtain ⟨s1, s2, s3⟩ := PS_s (r := r) f3 hp
        refine ⟨p1 + 1, _, _, Fi_t f1 s2, Fi_t f2 s3, s1, fR, .inl ⟨w, hw, fun d Q o1 => ?_, fun d Q o0 o1 => ?_⟩⟩
        · rw [e1, g1, sm_push_s, T63_14, mm_bf (by decide)]
          refine (ga1 (d + 1) _).trans ?_
          rw [sm_push_s]
        · rw [e2, g2, T201_39, mm_bf (by decide), gb1, sm_push_s, T201_83, mm_bt (show b1 = 32 from eb), f3.2.1, nI_1]
      · refine ⟨p1, A1, B1, f1, f2, f3, fR, .inr ⟨fun d Q o1 => ?_, fun d Q o0 o1 => ?_⟩⟩
        · rw [e1, g1, sm_push_s, T63_14, mm_bf (by decide)]
          refine (ga1 (d + 1) _).trans ?_
          rw [sm_push_s, T63_23, mm_bt rfl]
        · rw [e2, g2, T201_39, mm_bf (by decide), gb1, sm_push_s, T201_83, mm_bf (show ¬ b1 = 32 from eb)]
    · refine ⟨p1, A1, B1, f1, f2, f3, fR, .inr ⟨fun d Q o1 => ?_, fun d Q o0 o1 => ?_⟩⟩
      · rw [e1, g1, sm_push_s, T63_14, mm_bt rfl]
      · rw [e2, g2]
def wwy (b : Int32) : Int32 := if b = 108 then 0 else if b = 119 then 1 else if b = 101 then 2 else -1
theorem wwy_e {p n : Nat} {a b : Int32} (h : LKe p n a b) : wwy a = wwy b ∧ (wwy b < 0 ∨ (¬ wwy b < 0 ∧ p < n)) := by
  unfold wwy
  rcases LK_x h (show 108 < 128 by omega) with ⟨h1, h2, h3⟩ | ⟨h1, h2⟩
  · have h1' : a = 108 := h1
    have h2' : b = 108 := h2
    rw [if_pos h1', if_pos h2']; exact ⟨rfl, .inr ⟨by decide, h3⟩⟩
  have h1' : ¬ a = 108 := h1
  have h2' : ¬ b = 108 := h2
  rw [if_neg h1', if_neg h2']
  rcases LK_x h (show 119 < 128 by omega) with ⟨h1, h2, h3⟩ | ⟨h1, h2⟩
  · have h1' : a = 119 := h1
    have h2' : b = 119 := h2
    rw [if_pos h1', if_pos h2']; exact ⟨rfl, .inr ⟨by decide, h3⟩⟩
  have h1' : ¬ a = 119 := h1
  have h2' : ¬ b = 119 := h2
  rw [if_neg h1', if_neg h2']
  rcases LK_x h (show 101 < 128 by omega) with ⟨h1, h2, h3⟩ | ⟨h1, h2⟩
  · have h1' : a = 101 := h1
    have h2' : b = 101 := h2
    rw [if_pos h1', if_pos h2']; exact ⟨rfl, .inr ⟨by decide, h3⟩⟩
  have h1' : ¬ a = 101 := h1
  have h2' : ¬ b = 101 := h2
  rw [if_neg h1', if_neg h2']; exact ⟨rfl, .inl (by decide)⟩
theorem m69 {A : sm_M} (nL : Nat) {a : Int32} (ga : ∀ d Q, sm_W d 65 0 [vo 13] [] (sm_G0 nL) A Q = Q (vi a) (sm_G0 nL) A) (d : Nat) (Q : sm_Q) (o0 : Option sm_V) : sm_W (d + 1) 69 0 [vo 13, vo 6, o0] [] (sm_G0 nL) A Q = Q (vi (wwy a)) (sm_G0 nL) A := by
  unfold wwy
  have c0 : sm_sc 6 (Int32.toNatClampNeg 0) = 108 := by decide
  have c1 : sm_sc 6 (Int32.toNatClampNeg (0 + 1)) = 119 := by decide
  have c2 : sm_sc 6 (Int32.toNatClampNeg (0 + 1 + 1)) = 101 := by decide
  rw [T69, T69_2, mm_bt (by decide), ga, sm_push_s, T69_14, mm_ck (by decide), c0]
  by_cases h1 : a = 108
  · rw [mm_bt h1, if_pos h1]
  rw [mm_bf h1, if_neg h1]
  refine (T69_2 _ _ _ _ _).trans ?_
  rw [mm_bt (by decide), ga, sm_push_s, T69_14, mm_ck (by decide), c1]
  by_cases h2 : a = 119
  · rw [mm_bt h2, if_pos h2]; rfl
  rw [mm_bf h2, if_neg h2]
  refine (T69_2 _ _ _ _ _).trans ?_
  rw [mm_bt (by decide), ga, sm_push_s, T69_14, mm_ck (by decide), c2]
  by_cases h3 : a = 101
  · rw [mm_bt h3, if_pos h3]; rfl
  rw [mm_bf h3, if_neg h3]
  refine (T69_2 _ _ _ _ _).trans ?_
  rw [mm_bf (by decide)]
theorem r203s (d : Nat) (x0 x1 x2 x3 b : Int32) (o4 : Option sm_V) (nL : Nat) (B : sm_M) (Q : sm_Q) : sm_W (d + 1) 203 17 [vo 11, vi x0, vi x1, vi x2, vi x3, o4] [Sum.inl b] (sm_G0 nL) B Q = sm_Br (decide (wwy b < 0)) (Q (vi 0) (sm_G0 nL) B) (sm_Br (decide (((x2 >>> (wwy b &&& 31)) &&& 1) = 1)) (Q (vi 0) (sm_G0 nL) B) (sm_W (d + 1) 203 7 [vo 11, vi x0, vi ((10 * x1) + wwy b), vi (x2 ||| (1 <<< (wwy b &&& 31))), vi (x3 + 1), vi (wwy b)] [] (sm_G0 nL) (sm_u B 11 0 32 ((B 11 0 32) + 1)) Q)) := by
  unfold wwy
  rw [T203_17]
  by_cases h1 : b = 108
  · rw [mm_bt h1, if_pos h1]
  rw [mm_bf h1, if_neg h1]
  by_cases h2 : b = 119
  · rw [mm_bt h2, if_pos h2]
  rw [mm_bf h2, if_neg h2]
  by_cases h3 : b = 101
  · rw [mm_bt h3, if_pos h3]
  rw [mm_bf h3, if_neg h3]
theorem p68 (r : Nat) (hr : r < 11) (nL : Nat) {n : Nat} : ∀ j m p A B x1 x2, m + j = 3 → TX n A B → PS n A B p → RW r A B → ∃ ok p' A' B', (∀ d Q o4, sm_W (d + 2) 68 7 [vo 13, vr r, vi x1, vi x2, vi (nI m), o4] [] (sm_G0 nL) A Q = Q (vi (mb ok)) (sm_G0 nL) A') ∧ (∀ d Q o4, sm_W (d + 1) 203 7 [vo 11, vi (nI r), vi x2, vi x1, vi (nI m), o4] [] (sm_G0 nL) B Q = Q (vi (mb ok)) (sm_G0 nL) B') ∧ Fi (PA_r r) A A' ∧ Fi (PB_r r) B B' ∧ PS n A' B' p' ∧ (ok = true → RW r A' B') := by
  intro j
  induction j with
  | zero =>
    intro m p A B x1 x2 hm hT hP hR
    have hm' : m = 3 := by omega
    subst hm'
    have ri : sm_in (nI r) 11 = true := mm_in hr (by decide)
    have rc : (nI r).toNatClampNeg = r := nI_clamp (by omega)
    have hpA : PA_r r 36 r 6 = true := by simp [PA_r]
    have hpB : PB_r r 72 0 r = true := by simp [PB_r]
    refine ⟨true, p, sm_u A 36 r 6 x2, sm_u B 72 0 r x2, fun d Q o4 => ?_, fun d Q o4 => ?_, Fi_u (Fi_r _ _) hpA, Fi_u (Fi_r _ _) hpB, hP, fun _ => ⟨fun j hj => ?_, ?_, ?_⟩⟩
    · rw [T68_7, mm_bf (by decide)]; rfl
    · rw [T203_7, mm_bf (by decide), mm_ck ri, rc]; rfl
    · rw [mm_un (show ¬ (r = r ∧ 2 + j = 6) by omega)]; exact hR.1 j hj
    · rw [mm_up]; exact mm_up.symm
    · rw [mm_un (show ¬ (r = r ∧ 7 = 6) by omega)]; exact hR.2.2
  | succ j ih =>
    intro m p A B x1 x2 hm hT hP hR
    have m3 : nI m < (3 : Int32) := nI_lt (show m < 3 by omega) (by decide)
    obtain ⟨a, b, ga, gb, hL⟩ := p65 hT hP nL
    obtain ⟨we, hw⟩ := wwy_e hL
    have hA : ∀ d Q o4, sm_W (d + 2) 68 7 [vo 13, vr r, vi x1, vi x2, vi (nI m), o4] [] (sm_G0 nL) A Q = sm_W (d + 2) 68 19 [vo 13, vr r, vi x1, vi x2, vi (nI m), o4] [Sum.inl (wwy b)] (sm_G0 nL) A Q := fun d Q o4 => by
      rw [T68_7, mm_bt m3, m69 nL ga, sm_push_s, we]
    have hB : ∀ d Q o4, sm_W (d + 1) 203 7 [vo 11, vi (nI r), vi x2, vi x1, vi (nI m), o4] [] (sm_G0 nL) B Q = sm_W (d + 1) 203 17 [vo 11, vi (nI r), vi x2, vi x1, vi (nI m), o4] [Sum.inl b] (sm_G0 nL) B Q := fun d Q o4 => by
      rw [T203_7, mm_bt m3, gb, sm_push_s]
    rcases hw with hw | ⟨hw, hp⟩
    · exact ⟨false, p, A, B, fun d Q o4 => by rw [hA, T68_19, mm_bt hw]; rfl, fun d Q o4 => by rw [hB, r203s, mm_bt hw]; rfl, Fi_r _ _, Fi_r _ _, hP, fun h => absurd h (by decide)⟩
    by_cases hb : ((x1 >>> (wwy b &&& 31)) &&& 1) = 1
    · exact ⟨false, p, A, B, fun d Q o4 => by rw [hA, T68_19, mm_bf hw, mm_bt hb]; rfl, fun d Q o4 => by rw [hB, r203s, mm_bf hw, mm_bt hb]; rfl, Fi_r _ _, Fi_r _ _, hP, fun h => absurd h (by decide)⟩
    obtain ⟨s1, s2, s3⟩ := PS_s (r := r) hP hp
    obtain ⟨ok, p', A', B', g1, g2, g3, g4, g5⟩ := ih (m + 1) (p + 1) _ _ (x1 ||| (1 <<< (wwy b &&& 31))) ((10 * x2) + wwy b) (by omega) (TX_fr hT s2 s3) s1 hR
    refine ⟨ok, p', A', B', fun d Q o4 => ?_, fun d Q o4 => ?_, Fi_t s2 g3, Fi_t s3 g4, g5⟩
    · rw [hA, T68_19, mm_bf hw, mm_bf hb, hP.1, nI_1, nI_1, g1]
    · rw [hB, r203s, mm_bf hw, mm_bf hb, hP.2.1, nI_1, nI_1, g2]
