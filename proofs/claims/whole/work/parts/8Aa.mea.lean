/-! notice: the telling -/
def PA_nt0 (f k : Nat) : Bool := Nat.beq f 42 && (Nat.beq k 9 || Nat.beq k 10)
def PB_nt0 (f k : Nat) : Bool := Nat.beq f 67 || Nat.beq f 68
def K_dn (A A1 B1 : sm_M) (q : Int32) (j : Nat) : Prop := A1 42 j 9 = B1 67 0 j ∧ A1 42 j 10 = B1 68 0 j ∧ (A1 42 j 9 = A 42 j 9 ∨ (A 42 j 7 = q ∧ A1 42 j 9 = q)) ∧ (A1 42 j 10 = A 42 j 10 ∨ (A 42 j 8 = q ∧ A1 42 j 10 = q))
theorem nt_step {A B A1 B1 : sm_M} {t i nq : Nat} {K F : Int32} (nL : Nat) (y : Int32) (ht : t ≤ 90) (hq : nq < 60) (hi : i < t) (ta : A 14 0 3 = nI t) (tb : B 11 0 13 = nI t) (qa : A 14 0 5 = nI nq) (qb : B 11 0 49 = nI nq) (hU : K_unt A B (nI nq) F i) (h9 : A 42 i 9 = B 67 0 i) (h10 : A 42 i 10 = B 68 0 i) (hA : Fr PA_nt0 A A1) (hB : Fr PB_nt0 B B1) (hr : ∀ j, i ≤ j → A1 42 j 9 = A 42 j 9 ∧ A1 42 j 10 = A 42 j 10 ∧ B1 67 0 j = B 67 0 j ∧ B1 68 0 j = B 68 0 j) :
    ∃ A2 B2, (∀ d Q o3, ∃ o4, sm_W (d + 2) 112 25 [vo 14, vi y, vi K, vi (nI i), o3] [] (sm_G0 nL) A1 Q = sm_W (d + 2) 112 25 [vo 14, vi y, vi K, vi (nI (i + 1)), o4] [] (sm_G0 nL) A2 Q) ∧ (∀ d Q o, sm_W (d + 2) 233 129 [vo 11, vi K, vi F, o, vi (nI i)] [] (sm_G0 nL) B1 Q = sm_W (d + 2) 233 129 [vo 11, vi K, vi F, o, vi (nI (i + 1))] [] (sm_G0 nL) B2 Q) ∧ Fr PA_nt0 A A2 ∧ Fr PB_nt0 B B2 ∧ K_dn A A2 B2 (nI nq) i ∧ (∀ j, j ≠ i → (∀ k, A2 42 j k = A1 42 j k) ∧ B2 67 0 j = B1 67 0 j ∧ B2 68 0 j = B1 68 0 j) := by
  obtain ⟨u1, u7, u7', u8, u8'⟩ := hU
  obtain ⟨r9, r10, r67, r68⟩ := hr i (Nat.le_refl _)
  have ei : sm_in (nI i) 90 = true := mm_in (by omega) (by decide)
  have ec : (nI i).toNatClampNeg = i := nI_clamp (by omega)
  have il : nI i < nI t := nI_lt (by omega) (by omega)
  have a1 : A1 42 i 1 = A 42 i 1 := hA 42 i 1 rfl
  have a7 : A1 42 i 7 = A 42 i 7 := hA 42 i 7 rfl
  have a8 : A1 42 i 8 = A 42 i 8 := hA 42 i 8 rfl
  have at' : A1 14 0 3 = nI t := (hA 14 0 3 rfl).trans ta
  have aq : A1 14 0 5 = nI nq := (hA 14 0 5 rfl).trans qa
  have b59 : B1 59 0 i = A 42 i 1 := (hB 59 0 i rfl).trans u1.symm
  have b64 : B1 64 0 i = B 64 0 i := hB 64 0 i rfl
  have b65 : B1 65 0 i = B 65 0 i := hB 65 0 i rfl
  have b66 : B1 66 0 i = B 66 0 i := hB 66 0 i rfl
  have bt : B1 11 0 13 = nI t := (hB 11 0 13 rfl).trans tb
  have bq : B1 11 0 49 = nI nq := (hB 11 0 49 rfl).trans qb
  have w8 : ∀ v, sm_u A1 42 i 9 v 42 i 8 = A 42 i 8 := fun v => (mm_un (by omega)).trans a8
  have w10 : ∀ v, sm_u A1 42 i 9 v 42 i 10 = A1 42 i 10 := fun v => mm_un (by omega)
  have w5 : ∀ v, sm_u A1 42 i 9 v 14 0 5 = nI nq := fun v => aq
  have x64 : ∀ v, sm_u B1 67 0 i v 64 0 i = B 64 0 i := fun v => b64
  have x66 : ∀ v, sm_u B1 67 0 i v 66 0 i = B 66 0 i := fun v => b66
  have x68 : ∀ v, sm_u B1 67 0 i v 68 0 i = B 68 0 i := fun v => r68
  have x49 : ∀ v, sm_u B1 67 0 i v 11 0 49 = nI nq := fun v => bq
  have oth : ∀ (v9 v10 : Int32) (j : Nat), j ≠ i → ∀ k, sm_u (sm_u A1 42 i 9 v9) 42 i 10 v10 42 j k = A1 42 j k := fun v9 v10 j hj k => (mm_un (fun h => hj h.1)).trans (mm_un (fun h => hj h.1))
  by_cases b : wbt K (A 42 i 1) = 1
  · have bz : ¬ wbt K (A 42 i 1) = 0 := by rw [b]; decide
    have c9 : ∀ (v9 v10 : Int32), sm_u (sm_u A1 42 i 9 v9) 42 i 10 v10 42 i 9 = v9 := fun v9 v10 => (mm_un (by omega)).trans mm_up
    have c10 : ∀ (v9 v10 : Int32), sm_u (sm_u A1 42 i 9 v9) 42 i 10 v10 42 i 10 = v10 := fun v9 v10 => mm_up
    have e67 : ∀ v w : Int32, sm_u (sm_u B1 67 0 i v) 68 0 i w 67 0 i = v := fun v w => (mm_up (A := B1) : sm_u B1 67 0 i v 67 0 i = v)
    have e68 : ∀ v w : Int32, sm_u (sm_u B1 67 0 i v) 68 0 i w 68 0 i = w := fun v w => mm_up
    by_cases c7 : A 42 i 7 = nI nq
    · by_cases c8 : A 42 i 8 = nI nq
      · refine ⟨sm_u (sm_u A1 42 i 9 (nI nq)) 42 i 10 (nI nq), sm_u (sm_u B1 67 0 i (nI nq)) 68 0 i (nI nq), fun d Q o3 => ⟨some (Sum.inr (Sum.inr (some (42, i)))), ?_⟩, fun d Q o => ?_, Fr_u (Fr_u hA rfl) rfl, Fr_u (Fr_u hB rfl) rfl, ⟨by rw [c9, e67], by rw [c10, e68], .inr ⟨c7, c9 _ _⟩, .inr ⟨c8, c10 _ _⟩⟩, fun j hj => ⟨oth _ _ j hj, mm_un (A := B1) (fun h => hj h.2), mm_un (A := sm_u B1 67 0 i (nI nq)) (fun h => hj h.2)⟩⟩
        · rw [T112_25, at', mm_bt il, m42s at' ht hi, sm_push_s, T112_38, a1, mm_bt b, a7, aq, mm_bt c7, w8, mm_bt c8, w5, nI_1]
        · rw [T233_129, bt, mm_bt il]; simp only [ei, ec, sm_Ck_t, b59, b65, b64, b66, r67, r68, x64, x66, x68, x49, bq, u7.mp c7, u7' c7, (u8.mp c8).1, (u8.mp c8).2, u8' c8, bz, ↓sm_Br_d, ↓reduceIte, nI_1]
      · refine ⟨sm_u (sm_u A1 42 i 9 (nI nq)) 42 i 10 (A1 42 i 10), sm_u B1 67 0 i (nI nq), fun d Q o3 => ⟨some (Sum.inr (Sum.inr (some (42, i)))), ?_⟩, fun d Q o => ?_, Fr_u (Fr_u hA rfl) rfl, Fr_u hB rfl, ⟨by rw [c9, mm_up], by rw [c10, r10, h10]; exact r68.symm, .inr ⟨c7, c9 _ _⟩, .inl ((c10 _ _).trans r10)⟩, fun j hj => ⟨oth _ _ j hj, mm_un (A := B1) (fun h => hj h.2), rfl⟩⟩
        · rw [T112_25, at', mm_bt il, m42s at' ht hi, sm_push_s, T112_38, a1, mm_bt b, a7, aq, mm_bt c7, w8, mm_bf c8, w10, nI_1]
        · rw [T233_129, bt, mm_bt il]
          by_cases c64 : B 64 0 i < 0
          · simp only [ei, ec, sm_Ck_t, b59, b65, b64, b66, r67, r68, x64, x66, x68, x49, bq, u7.mp c7, u7' c7, c64, bz, ↓sm_Br_d, ↓reduceIte, nI_1]
          · have c8' : ¬ F < B 66 0 i := fun h => c8 (u8.mpr ⟨c64, h⟩)
            simp only [ei, ec, sm_Ck_t, b59, b65, b64, b66, r67, r68, x64, x66, x68, x49, bq, u7.mp c7, u7' c7, c64, c8', bz, ↓sm_Br_d, ↓reduceIte, nI_1]
    · have c7' : ¬ F < B 65 0 i := fun h => c7 (u7.mpr h)
      have w9 : sm_u A1 42 i 9 (A1 42 i 9) = A1 := mm_us
      by_cases c8 : A 42 i 8 = nI nq
      · refine ⟨sm_u (sm_u A1 42 i 9 (A1 42 i 9)) 42 i 10 (nI nq), sm_u B1 68 0 i (nI nq), fun d Q o3 => ⟨some (Sum.inr (Sum.inr (some (42, i)))), ?_⟩, fun d Q o => ?_, Fr_u (Fr_u hA rfl) rfl, Fr_u hB rfl, ⟨by rw [c9, r9, h9]; exact r67.symm, by rw [c10, mm_up], .inl ((c9 _ _).trans r9), .inr ⟨c8, c10 _ _⟩⟩, fun j hj => ⟨oth _ _ j hj, rfl, mm_un (A := B1) (fun h => hj h.2)⟩⟩
        · rw [T112_25, at', mm_bt il, m42s at' ht hi, sm_push_s, T112_38, a1, mm_bt b, a7, aq, mm_bf c7, w8, mm_bt c8, w5, nI_1]
        · rw [T233_129, bt, mm_bt il]; simp only [ei, ec, sm_Ck_t, b59, b65, b64, b66, r67, r68, x64, x66, x68, x49, bq, c7', (u8.mp c8).1, (u8.mp c8).2, u8' c8, bz, ↓sm_Br_d, ↓reduceIte, nI_1]
      · refine ⟨sm_u (sm_u A1 42 i 9 (A1 42 i 9)) 42 i 10 (A1 42 i 10), B1, fun d Q o3 => ⟨some (Sum.inr (Sum.inr (some (42, i)))), ?_⟩, fun d Q o => ?_, Fr_u (Fr_u hA rfl) rfl, hB, ⟨by rw [c9, r9, h9]; exact r67.symm, by rw [c10, r10, h10]; exact r68.symm, .inl ((c9 _ _).trans r9), .inl ((c10 _ _).trans r10)⟩, fun j hj => ⟨oth _ _ j hj, rfl, rfl⟩⟩
        · rw [T112_25, at', mm_bt il, m42s at' ht hi, sm_push_s, T112_38, a1, mm_bt b, a7, aq, mm_bf c7, w8, mm_bf c8, w10, nI_1]
        · rw [T233_129, bt, mm_bt il]
          by_cases c64 : B 64 0 i < 0
          · simp only [ei, ec, sm_Ck_t, b59, b65, b64, b66, r67, r68, x64, x66, x68, x49, bq, c7', c64, bz, ↓sm_Br_d, ↓reduceIte, nI_1]
          · have c8' : ¬ F < B 66 0 i := fun h => c8 (u8.mpr ⟨c64, h⟩)
            simp only [ei, ec, sm_Ck_t, b59, b65, b64, b66, r67, r68, x64, x66, x68, x49, bq, c7', c64, c8', bz, ↓sm_Br_d, ↓reduceIte, nI_1]
  · have bz : wbt K (A 42 i 1) = 0 := (wbt_01 K _).resolve_right b
    refine ⟨A1, B1, fun d Q o3 => ⟨some (Sum.inr (Sum.inr (some (42, i)))), ?_⟩, fun d Q o => ?_, hA, hB, ⟨by rw [r9, r67, h9], by rw [r10, r68, h10], .inl r9, .inl r10⟩, fun j hj => ⟨fun _ => rfl, rfl, rfl⟩⟩
    · rw [T112_25, at', mm_bt il, m42s at' ht hi, sm_push_s, T112_38, a1, mm_bf b, nI_1]
    · rw [T233_129, bt, mm_bt il]; simp only [ei, ec, sm_Ck_t, b59, bz, ↓sm_Br_d, ↓reduceIte, nI_1]
theorem nt_loop {A B : sm_M} {t nq : Nat} {K F : Int32} (nL : Nat) (y : Int32) (ht : t ≤ 90) (hq : nq < 60) (ta : A 14 0 3 = nI t) (tb : B 11 0 13 = nI t) (qa : A 14 0 5 = nI nq) (qb : B 11 0 49 = nI nq) (hU : ∀ i, i < t → K_unt A B (nI nq) F i ∧ A 42 i 9 = B 67 0 i ∧ A 42 i 10 = B 68 0 i) : ∀ (m i : Nat) (A1 B1 : sm_M), i + m = t → Fr PA_nt0 A A1 → Fr PB_nt0 B B1 → (∀ j, j < i → K_dn A A1 B1 (nI nq) j) → (∀ j, i ≤ j → A1 42 j 9 = A 42 j 9 ∧ A1 42 j 10 = A 42 j 10 ∧ B1 67 0 j = B 67 0 j ∧ B1 68 0 j = B 68 0 j) →
    ∃ A2 B2, (∀ d Q o3, sm_W (d + 2) 112 25 [vo 14, vi y, vi K, vi (nI i), o3] [] (sm_G0 nL) A1 Q = Q (vi (nI nq)) (sm_G0 nL) (sm_u (sm_u A2 39 0 nq y) 14 0 5 (nI (nq + 1)))) ∧ (∀ d Q o, sm_W (d + 2) 233 129 [vo 11, vi K, vi F, o, vi (nI i)] [] (sm_G0 nL) B1 Q = Q (vi (nI nq)) (sm_G0 nL) (sm_u (sm_u (sm_u B2 85 0 nq (B 11 0 2)) 86 0 nq (B 11 0 1)) 11 0 49 (nI (nq + 1)))) ∧ Fr PA_nt0 A A2 ∧ Fr PB_nt0 B B2 ∧ (∀ j, j < t → K_dn A A2 B2 (nI nq) j) ∧ (∀ j, t ≤ j → A2 42 j 9 = A 42 j 9 ∧ A2 42 j 10 = A 42 j 10) := by
  intro m
  induction m with
  | zero =>
    intro i A1 B1 hi hA hB hd hr
    have hi' : i = t := by omega
    subst hi'
    have qi : sm_in (nI nq) 60 = true := mm_in (by omega) (by decide)
    have qc : (nI nq).toNatClampNeg = nq := nI_clamp (by omega)
    have at' : A1 14 0 3 = nI i := (hA 14 0 3 rfl).trans ta
    have aq : A1 14 0 5 = nI nq := (hA 14 0 5 rfl).trans qa
    have bt : B1 11 0 13 = nI i := (hB 11 0 13 rfl).trans tb
    have bq : B1 11 0 49 = nI nq := (hB 11 0 49 rfl).trans qb
    have b2 : B1 11 0 2 = B 11 0 2 := hB 11 0 2 rfl
    have b1 : B1 11 0 1 = B 11 0 1 := hB 11 0 1 rfl
    refine ⟨A1, B1, fun d Q o3 => ?_, fun d Q o => ?_, hA, hB, hd, fun j hj => ⟨(hr j hj).1, (hr j hj).2.1⟩⟩
    · rw [T112_25, at', mm_bf (nI_nlt (Nat.le_refl _) (by omega)), aq, mm_ck qi, qc, nI_1, nI_pred]
    · rw [T233_129, bt, mm_bf (nI_nlt (Nat.le_refl _) (by omega))]; simp only [bq, qi, sm_Ck_t, qc, nI_1, nI_pred, b2, b1]
  | succ m ih =>
    intro i A1 B1 hi hA hB hd hr
    obtain ⟨hu, h9, h10⟩ := hU i (by omega)
    obtain ⟨A2, B2, s1, s2, s3, s4, s5, s6⟩ := nt_step nL y (K := K) ht hq (by omega) ta tb qa qb hu h9 h10 hA hB hr
    obtain ⟨A3, B3, g1, g2, g3⟩ := ih (i + 1) A2 B2 (by omega) s3 s4 (fun j hj => by
      by_cases h : j = i
      · subst h; exact s5
      · obtain ⟨e1, e2, e3⟩ := s6 j h
        obtain ⟨f1, f2, f3, f4⟩ := hd j (by omega)
        exact ⟨by rw [e1, e2, f1], by rw [e1, e3, f2], by rw [e1]; exact f3, by rw [e1]; exact f4⟩) (fun j hj => by
      obtain ⟨e1, e2, e3⟩ := s6 j (by omega)
      obtain ⟨f1, f2, f3, f4⟩ := hr j (by omega)
      exact ⟨by rw [e1, f1], by rw [e1, f2], by rw [e2, f3], by rw [e3, f4]⟩)
    refine ⟨A3, B3, fun d Q o3 => ?_, fun d Q o => (s2 d Q o).trans (g2 d Q o), g3⟩
    obtain ⟨o4, h⟩ := s1 d Q o3
    exact h.trans (g1 d Q o4)
