/-! rule: one clause, all clauses, the call -/
theorem p63 (r : Nat) (hr : r < 11) (nL : Nat) {n p : Nat} {A B : sm_M} (hT : TX n A B) (hP : PS n A B p) (hR : RW r A B) : ∃ ok p' A' B', (∀ d Q o1, sm_W (d + 3) 63 0 [vo 13, vr r, o1] [] (sm_G0 nL) A Q = Q (vi (mb ok)) (sm_G0 nL) A') ∧ (∀ d Q o1, sm_W (d + 2) 200 0 [vo 11, vi (nI r), o1] [] (sm_G0 nL) B Q = Q (vi (mb ok)) (sm_G0 nL) B') ∧ Fi (PA_r r) A A' ∧ Fi (PB_r r) B B' ∧ PS n A' B' p' ∧ (ok = true → RW r A' B') := by
  obtain ⟨p1, A1, B1, f1, f2, f3, fR, f4⟩ := p63w r nL hT hP hR
  rcases f4 with ⟨w, hw, g1, g2⟩ | ⟨g1, g2⟩
  · have hT1 := TX_fr hT f1 f2
    have w0 : ¬ nI w < 0 := nI_pos (by omega)
    have h6 : w = 4 ∨ w = 5 ∨ w < 4 := by omega
    rcases h6 with rfl | rfl | h4
    · obtain ⟨ok, p', A', B', q1, q2, q3, q4, q5⟩ := p68 r hr nL 3 0 p1 A1 B1 0 0 (by omega) hT1 f3 fR
      refine ⟨ok, p', A', B', fun d Q o1 => ?_, fun d Q o1 => ?_, Fi_t f1 q3, Fi_t f2 q4, q5⟩
      · rw [g1, T63_23, mm_bf (by decide), mm_bt (by decide), T68]
        refine (q1 d _ none).trans ?_
        rw [sm_push_s, T63_37, mm_ck (mb_z ok)]
      · rw [T200, g2, sm_push_s, T200_4, mm_bf w0, mm_bt (by decide), T203]
        refine (q2 d _ none).trans ?_
        rw [sm_push_s, T200_19]
        cases ok
        · exact mm_bt rfl
        · exact mm_bf (by decide)
    · obtain ⟨ok, p', A', B', b, q0, q1, q2, q3, q4, q5⟩ := p71 r hr nL 5 0 0 p1 A1 B1 (by omega) (by omega) rfl rfl hT1 f3 fR
      refine ⟨ok, p', A', B', fun d Q o1 => ?_, fun d Q o1 => ?_, Fi_t f1 q3, Fi_t f2 q4, q5⟩
      · rw [g1, T63_23, mm_bf (by decide), mm_bf (by decide), mm_bt (by decide), T71]
        refine (q1 d _ none).trans ?_
        rw [sm_push_s, T63_48, mm_ck (mb_z ok)]
      · rw [T200, g2, sm_push_s, T200_4, mm_bf w0, mm_bf (by decide), mm_bt (by decide), T205, q0, sm_push_s]
        refine (r205t d (nI r) 0 b none nL B1 _).trans ?_
        refine (q2 d _).trans ?_
        rw [sm_push_s, T200_35]
        cases ok
        · exact mm_bt rfl
        · exact mm_bf (by decide)
    · obtain ⟨ok, p', A', B', q1, q2, q3, q4, q5⟩ := p72 r hr nL h4 3 0 0 p1 A1 B1 (by omega) (by decide) hT1 f3 fR
      have hm : wmp w = w + 1 := (by decide : ∀ w, w < 4 → wmp w = w + 1) w h4
      have n0 : ¬ nI (w + 1) = 0 := (by decide : ∀ w, w < 4 → ¬ nI (w + 1) = 0) w h4
      have n5 : ¬ nI (w + 1) = 5 := (by decide : ∀ w, w < 4 → ¬ nI (w + 1) = 5) w h4
      have m4 : ¬ nI w = 4 := (by decide : ∀ w, w < 4 → ¬ nI w = 4) w h4
      have m5 : ¬ nI w = 5 := (by decide : ∀ w, w < 4 → ¬ nI w = 5) w h4
      have eB : 4 * nI r + nI w = nI (4 * r + w) := by show nI 4 * nI r + nI w = _; rw [pk_mul, nI_add]
      refine ⟨ok, p', A', B', fun d Q o1 => ?_, fun d Q o1 => ?_, Fi_t f1 q3, Fi_t f2 q4, q5⟩
      · rw [g1, hm, T63_23, mm_bf (by decide), mm_bf n0, mm_bf n5, T72]
        refine (q1 (d + 1) _).trans ?_
        rw [sm_push_s, T63_57, mm_ck (mb_z ok)]
      · rw [T200, g2, sm_push_s, T200_4, mm_bf w0, mm_bf m4, mm_bf m5, eB, T207]
        refine (q2 d _).trans ?_
        rw [sm_push_s, T200_50]
        cases ok
        · exact mm_bt rfl
        · exact mm_bf (by decide)
  · refine ⟨false, p1, A1, B1, fun d Q o1 => by rw [g1]; rfl, fun d Q o1 => ?_, f1, f2, f3, fun h => absurd h (by decide)⟩
    rw [T200, g2, sm_push_s, T200_4]; exact mm_bt (by decide)
/-- the end of the reference's reading -/
def wfin (ok : Bool) (r : Nat) (x0 : Int32) (p nL : Nat) (B : sm_M) (Q : sm_Q) : Prop := if ok = true then Q (vi (nI r)) (sm_G0 nL) (sm_u (sm_u (sm_u B 11 0 26 0) 70 0 r x0) 11 0 27 (nI (r + 1))) else Q (vi (-10 - nI p)) (sm_G0 nL) (sm_u B 11 0 26 0)
theorem r197f (r : Nat) (hr : r < 11) (nL : Nat) {p : Nat} {B : sm_M} (pb : B 11 0 32 = nI p) (d : Nat) (Q : sm_Q) (x0 k : Int32) : sm_W (d + 3) 197 46 [vo 11, vi x0, vi k, vi (mb false)] [] (sm_G0 nL) B Q = wfin false r x0 p nL B Q := by
  rw [T197_46, mm_bt (show mb false = 0 from rfl), mm_bt (show mb false = 0 from rfl)]
  show Q (vi (-10 - B 11 0 32)) _ _ = Q (vi (-10 - nI p)) _ _
  rw [pb]
theorem r197t (r : Nat) (hr : r < 11) (nL : Nat) {n p : Nat} {B : sm_M} (hp : p ≤ n) (hn : n ≤ 120) (pb : B 11 0 32 = nI p) (eb : B 11 0 26 = nI n) (h27 : B 11 0 27 = nI r) {b : Int32} (gb : ∀ d Q, sm_W d 202 0 [vo 11] [] (sm_G0 nL) B Q = Q (vi b) (sm_G0 nL) B) (d : Nat) (Q : sm_Q) (x0 k : Int32) (hk : ¬ b = 59 ∨ ¬ k < 8) : sm_W (d + 3) 197 46 [vo 11, vi x0, vi k, vi (mb true)] [] (sm_G0 nL) B Q = wfin (decide (p = n)) r x0 p nL B Q := by
  have ri : sm_in (nI r) 11 = true := mm_in hr (by decide)
  have rc : (nI r).toNatClampNeg = r := nI_clamp (by omega)
  have h1 : ¬ mb true = 0 := by decide
  have pe : (B 11 0 32 = B 11 0 26) = (p = n) := by rw [pb, eb]; exact propext (nI_eq (by omega) (by omega))
  have ea : nI r + 1 - 1 = nI r := by rw [nI_1]; show nI (r + 1) - nI 1 = _; rw [pk_sub (show 1 ≤ r + 1 by omega)]; rfl
  have tail : sm_Br (decide (mb true = 0)) (Q (vi (-10 - (sm_u B 11 0 26 0) 11 0 32)) (sm_G0 nL) (sm_u B 11 0 26 0)) (sm_Br (decide (B 11 0 32 = B 11 0 26)) (sm_Ck (sm_in ((sm_u B 11 0 26 0) 11 0 27) 11) (Q (vi (((sm_u B 11 0 26 0) 11 0 27) + 1 - 1)) (sm_G0 nL) (sm_u (sm_u (sm_u B 11 0 26 0) 70 0 ((sm_u B 11 0 26 0) 11 0 27).toNatClampNeg x0) 11 0 27 (((sm_u B 11 0 26 0) 11 0 27) + 1)))) (Q (vi (-10 - (sm_u B 11 0 26 0) 11 0 32)) (sm_G0 nL) (sm_u B 11 0 26 0))) = wfin (decide (p = n)) r x0 p nL B Q := by
    have e27 : (sm_u B 11 0 26 0) 11 0 27 = nI r := h27
    have e32 : (sm_u B 11 0 26 0) 11 0 32 = nI p := pb
    rw [mm_bf h1, e27, e32, mm_ck ri, rc, ea, nI_1]
    unfold wfin
    by_cases h : p = n
    · rw [mm_bt (pe.mpr h), decide_eq_true h]; rfl
    · rw [mm_bf (fun hh => h (pe.mp hh)), decide_eq_false h]; rfl
  rw [T197_46, mm_bf h1, gb, sm_push_s, T197_54]
  by_cases hb : b = 59
  · rw [mm_bt hb, mm_bf (hk.resolve_left (fun h => h hb))]; exact tail
  · rw [mm_bf hb]; exact tail
/-- from the k-th clause on -/
theorem p62 (r : Nat) (hr : r < 11) (nL : Nat) {n : Nat} : ∀ j k p A B, k + j = 8 → 1 ≤ k → TX n A B → PS n A B p → RW r A B → B 11 0 27 = nI r → ∃ ok p' A' B', (∀ d Q, sm_W (d + 4) 62 7 [vo 13, vr r, vi (nI k)] [] (sm_G0 nL) A Q = Q (vi (mb ok)) (sm_G0 nL) A') ∧ (∀ d Q x0 K, (∀ s M1, K (vi s) (sm_G0 nL) M1 = sm_W (d + 3) 197 46 [vo 11, vi x0, vi (nI k), vi s] [] (sm_G0 nL) M1 Q) → sm_W (d + 2) 200 0 [vo 11, vi (nI r), none] [] (sm_G0 nL) B K = wfin ok r x0 p' nL B' Q) ∧ Fi (PA_r r) A A' ∧ Fi (PB_r r) B B' ∧ PS n A' B' p' ∧ (ok = true → RW r A' B') := by
  intro j
  induction j with
  | zero =>
    intro k p A B hk k1 hT hP hR h27
    have hk' : k = 8 := by omega
    subst hk'
    obtain ⟨ok, p', A', B', q1, q2, q3, q4, q5, q6⟩ := p63 r hr nL hT hP hR
    have hT1 := TX_fr hT q3 q4
    have h27' : B' 11 0 27 = nI r := (q4 11 0 27 rfl).trans h27
    obtain ⟨a, b, ga, gb, hL⟩ := p65 hT1 q5 nL
    have hn := hT.1
    have hp := q5.2.2
    have pe : (A' 13 0 5 = A' 13 0 4) = (p' = n) := by
      rw [q5.1, hT1.2.1]; exact propext (nI_eq (by omega) (by omega))
    cases ok with
    | false =>
      refine ⟨false, p', A', B', fun d Q => ?_, fun d Q x0 K hK => ?_, q3, q4, q5, fun h => absurd h (by decide)⟩
      · rw [T62_7, mm_bf (by decide), q1, sm_push_s, T62_18]; exact mm_bt rfl
      · rw [q2, hK, r197f r hr nL q5.2.1]
    | true =>
      refine ⟨decide (p' = n), p', A', B', fun d Q => ?_, fun d Q x0 K hK => ?_, q3, q4, q5, fun _ => q6 rfl⟩
      · rw [T62_7, mm_bf (by decide), q1, sm_push_s, T62_18, mm_bf (by decide)]
        by_cases h : p' = n
        · rw [mm_bt (pe.mpr h), decide_eq_true h]; rfl
        · rw [mm_bf (fun hh => h (pe.mp hh)), decide_eq_false h]; exact mm_bt rfl
      · rw [q2, hK, r197t r hr nL hp hn q5.2.1 hT1.2.2.1 h27' gb d Q x0 (nI 8) (.inr (by decide))]
  | succ j ih =>
    intro k p A B hk k1 hT hP hR h27
    obtain ⟨ok, p', A', B', q1, q2, q3, q4, q5, q6⟩ := p63 r hr nL hT hP hR
    have hT1 := TX_fr hT q3 q4
    have h27' : B' 11 0 27 = nI r := (q4 11 0 27 rfl).trans h27
    have hn := hT.1
    have hp := q5.2.2
    have k8 : ¬ (8 : Int32) < nI k := nI_nlt (show k ≤ 8 by omega) (by decide)
    have k8' : nI k < (8 : Int32) := nI_lt (show k < 8 by omega) (by decide)
    have kn8 : ¬ nI k = (8 : Int32) := fun h => by
      have := (nI_eq (by omega) (by decide)).mp (h.trans (show (8 : Int32) = nI 8 from rfl)); omega
    have pe : (A' 13 0 5 = A' 13 0 4) = (p' = n) := by
      rw [q5.1, hT1.2.1]; exact propext (nI_eq (by omega) (by omega))
    cases ok with
    | false =>
      refine ⟨false, p', A', B', fun d Q => ?_, fun d Q x0 K hK => ?_, q3, q4, q5, fun h => absurd h (by decide)⟩
      · rw [T62_7, mm_bf k8, q1, sm_push_s, T62_18]; exact mm_bt rfl
      · rw [q2, hK, r197f r hr nL q5.2.1]
    | true =>
      obtain ⟨b, gb, h⟩ := p67 hT1 q5 nL (show 59 < 128 by omega)
      by_cases hpn : p' = n
      · have hb : ¬ b = 59 := by
          rcases h with ⟨h1, -⟩ | ⟨h1, -⟩
          · omega
          · exact h1
        refine ⟨true, p', A', B', fun d Q => ?_, fun d Q x0 K hK => ?_, q3, q4, q5, q6⟩
        · rw [T62_7, mm_bf k8, q1, sm_push_s, T62_18, mm_bf (by decide), mm_bt (pe.mpr hpn)]; rfl
        · rw [q2, hK, r197t r hr nL hp hn q5.2.1 hT1.2.2.1 h27' gb d Q x0 (nI k) (.inl hb), decide_eq_true hpn]
      rcases h with ⟨h1, h2, h3⟩ | ⟨h1, h3⟩
      · obtain ⟨s1, s2, s3⟩ := PS_s (r := r) q5 h1
        obtain ⟨ok2, p2, A2, B2, t1, t2, t3, t4, t5⟩ := ih (k + 1) (p' + 1) _ _ (by omega) (by omega) (TX_fr hT1 s2 s3) s1 (q6 rfl) h27'
        refine ⟨ok2, p2, A2, B2, fun d Q => ?_, fun d Q x0 K hK => ?_, Fi_t q3 (Fi_t s2 t3), Fi_t q4 (Fi_t s3 t4), t5⟩
        · rw [T62_7, mm_bf k8, q1, sm_push_s, T62_18, mm_bf (by decide), mm_bf (fun hh => hpn (pe.mp hh)), mm_bf kn8]
          refine (h3 (d + 2) _).trans ?_
          rw [sm_push_s, T62_48, mm_bf (by decide), nI_1]; exact t1 d Q
        · rw [q2, hK, T197_46, mm_bf (show ¬ mb true = 0 by decide), gb, sm_push_s, T197_54, mm_bt (show b = 59 from h2), mm_bt k8', h27', q5.2.1, nI_1, nI_1]
          exact t2 d Q x0 _ (fun s M1 => by rw [sm_push_s, T197_86])
      · refine ⟨false, p', A', B', fun d Q => ?_, fun d Q x0 K hK => ?_, q3, q4, q5, fun h => absurd h (by decide)⟩
        · rw [T62_7, mm_bf k8, q1, sm_push_s, T62_18, mm_bf (by decide), mm_bf (fun hh => hpn (pe.mp hh)), mm_bf kn8]
          refine (h3 (d + 2) _).trans ?_
          rw [sm_push_s, T62_48]; exact mm_bt rfl
        · rw [q2, hK, r197t r hr nL hp hn q5.2.1 hT1.2.2.1 h27' gb d Q x0 (nI k) (.inl h1), decide_eq_false hpn]
