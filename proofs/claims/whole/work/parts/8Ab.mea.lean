/-! notice, the call -/
theorem K_bef_F {a b n : Int32} {q C : Nat} {NC : Nat → Nat} (h : K_bef a b n q C NC) (hq : q ≤ 60) (hC : C < 2 ^ 30) {F : Int32} (hF : (q = 0 ∧ F = 0) ∨ (0 < q ∧ F = nI (NC (q - 1)) ∧ NC (q - 1) < 2 ^ 30)) : (a = nI q ↔ F < b) ∧ (a = nI q → n < 0) := by
  obtain ⟨u, c, h1, h2, h3, rfl, rfl, h4, h5⟩ := h
  refine ⟨?_, fun e => ?_⟩
  · rw [nI_eq (by omega) (by omega)]
    rcases hF with ⟨rfl, rfl⟩ | ⟨h0, rfl, hF⟩
    · exact ⟨fun _ => nI_lt (show 0 < c by omega) (by omega), fun _ => by omega⟩
    · rw [nI_ltI (by omega) (by omega), ← h4 (q - 1) (by omega)]
      omega
  · have e' := (nI_eq (by omega) (by omega)).mp e
    rcases h5 with rfl | ⟨j, hj, hj2, rfl⟩
    · decide
    · omega
theorem K_bef_q {a b n n' : Int32} {q C : Nat} {NC : Nat → Nat} (h : K_bef a b n q C NC) (hq : q < 60) (hn : n' = n ∨ (a = nI q ∧ n' = nI q)) : K_bef a b n' (q + 1) (C + 1) (fun j => if j = q then C + 1 else NC j) := by
  obtain ⟨u, c, h1, h2, h3, rfl, rfl, h4, h5⟩ := h
  refine ⟨u, c, by omega, h2, by omega, rfl, rfl, fun j hj => ?_, ?_⟩
  · by_cases hjq : j = q
    · subst hjq; simp only [↓reduceIte]; omega
    · simp only [hjq, ↓reduceIte]; exact h4 j (by omega)
  · rcases hn with rfl | ⟨e, rfl⟩
    · rcases h5 with h5 | ⟨j, g1, g2, g3⟩
      · exact .inl h5
      · exact .inr ⟨j, g1, by omega, g3⟩
    · have e' := (nI_eq (by omega) (by omega)).mp e
      exact .inr ⟨q, by omega, by omega, rfl⟩
def PA_ntc (f k : Nat) : Bool := PA_nt0 f k || Nat.beq f 39 || (Nat.beq f 14 && Nat.beq k 5)
def PB_ntc (f k : Nat) : Bool := PB_nt0 f k || Nat.beq f 85 || Nat.beq f 86 || (Nat.beq f 11 && (Nat.beq k 2 || Nat.beq k 49))
def Ntc (A B A' B' : sm_M) (m : Nat) : Prop := ∃ q C, q < 60 ∧ C ≤ m ∧ B 11 0 49 = nI q ∧ B 11 0 2 = nI C ∧ B' 11 0 49 = nI (q + 1) ∧ B' 11 0 2 = nI (C + 1) ∧ B' 85 0 q = nI (C + 1) ∧ (∀ j, j ≠ q → B' 85 0 j = B 85 0 j) ∧ Fr PA_ntc A A' ∧ Fr PB_ntc B B' ∧ J_thg A' B' ∧ J_tel 0 (m + 1) A' B'
theorem p111 {A B : sm_M} {m : Nat} (hD : J_day A B) (hG : J_thg A B) (hR : J_rul A B) (hT : J_tel 0 m A B) (hm : m < 2 ^ 29) (nL : Nat) : ∃ r A' B', (∀ d Q, sm_W (d + 3) 111 0 [vo 10] [] (sm_G0 nL) A Q = Q (vi r) (sm_G0 nL) A') ∧ (∀ d Q, sm_W (d + 2) 233 0 [vo 11, none, none, none, none] [] (sm_G0 nL) B Q = Q (vi r) (sm_G0 nL) B') ∧ ((A' = A ∧ B' = B) ∨ Ntc A B A' B' m) := by
  have hG' := hG
  obtain ⟨n, hn, ea, eb, hK, h0⟩ := hR
  obtain ⟨dA, y, hy, dB⟩ := hD
  obtain ⟨t, q, C, NC, t1, q1, C1, ta, tb, qa, qb, cb, hN, hN2, hT1, hT2⟩ := hT
  obtain ⟨t', s, g1, g2, g3, g4, g5, g6, g7, g8⟩ := hG
  have et : t' = t := (nI_eq (by omega) (by omega)).mp (g4.symm.trans tb)
  subst et
  have hk7 := (wA_eq hK h0 (nI y)).2.2.2.2.2.2
  generalize hK' : wtl B (wrule B (nI y) n) = K at hk7
  obtain ⟨F, hF, hFB⟩ : ∃ F : Int32, ((q = 0 ∧ F = 0) ∨ (0 < q ∧ F = nI (NC (q - 1)) ∧ NC (q - 1) < 2 ^ 30)) ∧ ((q = 0 ∧ F = 0) ∨ (0 < q ∧ B 85 0 (q - 1) = F)) := by
    rcases Nat.eq_zero_or_pos q with h | h
    · exact ⟨0, .inl ⟨h, rfl⟩, .inl ⟨h, rfl⟩⟩
    · have := hN (q - 1) (by omega)
      exact ⟨_, .inr ⟨h, rfl, by omega⟩, .inr ⟨h, this.1⟩⟩
  have hU : ∀ i, i < t' → K_unt A B (nI q) F i ∧ A 42 i 9 = B 67 0 i ∧ A 42 i 10 = B 68 0 i := fun i hi => by
    obtain ⟨f1, f2, f3, f4⟩ := hT1 i hi
    have k1 := K_bef_F f3 q1 (by omega) hF
    refine ⟨⟨(g7 i hi).1, k1.1, k1.2, ?_⟩, f1, f2⟩
    rcases f4 with ⟨z1, z2, z3⟩ | ⟨z1, z2⟩
    · have hne : ¬ A 42 i 8 = nI q := by
        rw [z2]; intro h; exact nI_pos (show q < 2 ^ 31 by omega) (by rw [← h]; decide)
      exact ⟨⟨fun h => absurd h hne, fun h => absurd z1 h.1⟩, fun h => absurd h hne⟩
    · have k2 := K_bef_F z2 q1 (by omega) hF
      exact ⟨⟨fun h => ⟨z1, k2.1.mp h⟩, fun h => k2.1.mpr h.2⟩, k2.2⟩
  have kA : ∀ d Q, sm_W (d + 3) 111 0 [vo 10] [] (sm_G0 nL) A Q = sm_W (d + 2) 112 5 [vo 14, vi (nI y), vi K, none, none] [Sum.inl (nI (wuc A K (nI q) t'))] (sm_G0 nL) A (fun r G1 M1 => sm_W (d + 3) 111 25 [vo 10] (sm_push r []) G1 M1 Q) := fun d Q => by
    rw [T111, dA, dB, m48e (d + 2) nL (nI y) none none hn ea hK]
    have fin : ∀ (f4 i5 : Nat), Nat.beq (sm_fc f4) 4 = true → A f4 i5 7 = K → sm_W (d + 3) 111 19 [vo 10] [Sum.inr (Sum.inr (some (f4, i5))), Sum.inl (nI y), Sum.inr (Sum.inr (some (14, 0)))] (sm_G0 nL) A Q = sm_W (d + 2) 112 5 [vo 14, vi (nI y), vi K, none, none] [Sum.inl (nI (wuc A K (nI q) t'))] (sm_G0 nL) A (fun r G1 M1 => sm_W (d + 3) 111 25 [vo 10] (sm_push r []) G1 M1 Q) := fun f4 i5 hf hv => by
      rw [T111_19, mm_ck hf, hv, T112, T113]
      refine (m113 d nL t1 ta K (nI q) qa _ t' 0 none (by omega)).trans ?_
      rw [sm_push_s]
    cases ho : wrule B (nI y) n with
    | none => rw [ho] at hk7; exact fin 34 0 rfl hk7
    | some k => rw [ho] at hk7; exact fin 36 k rfl hk7
  have kB : ∀ d Q, sm_W (d + 2) 233 0 [vo 11, none, none, none, none] [] (sm_G0 nL) B Q = sm_Br (decide (nI (wfl (wuc A K (nI q) t')) = 0)) (Q (vi (-3)) (sm_G0 nL) B) (sm_Br (decide (B 11 0 49 = 60)) (Q (vi (-4)) (sm_G0 nL) B) (sm_W (d + 2) 233 129 [vo 11, vi K, vi F, vi (nI (wfl (wuc A K (nI q) t'))), vi 0] [] (sm_G0 nL) (sm_u B 11 0 2 (B 11 0 2 + 1)) Q)) := fun d Q => by
    rw [T233, dB, r210 d nL (nI y) hn eb, hK', sm_push_s, T233_8]
    have h := r233a d nL t1 tb K (nI q) F (fun i hi => (hU i hi).1) Q t' 0 (by omega)
    rcases hFB with ⟨hq0, rfl⟩ | ⟨hq0, hF2⟩
    · subst hq0
      rw [qb, mm_bt (by decide)]
      rw [qb] at h; exact h
    · have e1 : nI q - 1 = nI (q - 1) := pk_sub (show 1 ≤ q by omega)
      rw [qb, mm_bf (nI_ne0 hq0 (by omega)), e1, mm_ck (mm_in (by omega) (by decide)), nI_clamp (by omega), hF2]
      rw [qb] at h; exact h
  by_cases hz : wuc A K (nI q) t' = 0
  · refine ⟨-3, A, B, fun d Q => ?_, fun d Q => ?_, .inl ⟨rfl, rfl⟩⟩
    · rw [kA, hz, T112_5, mm_bt (by decide), sm_push_s, T111_25]
    · rw [kB, hz, mm_bt (by decide)]
  have hc := wuc_le (A := A) (K := K) (q := nI q) t'
  have z1 : ¬ nI (wuc A K (nI q) t') = 0 := nI_ne0 (by omega) (by omega)
  have z2 : ¬ nI (wfl (wuc A K (nI q) t')) = 0 := by simp only [wfl, hz, ↓reduceIte]; decide
  by_cases hfu : q = 60
  · subst hfu
    refine ⟨-4, A, B, fun d Q => ?_, fun d Q => ?_, .inl ⟨rfl, rfl⟩⟩
    · rw [kA, T112_5, mm_bf z1, qa, mm_bf (by decide), sm_push_s, T111_25]
    · rw [kB, mm_bf z2, qb, mm_bt (by decide)]
  have hq60 : q < 60 := by omega
  have q60 : nI q < (60 : Int32) := nI_lt hq60 (by decide)
  have q60' : ¬ nI q = (60 : Int32) := fun h => hfu ((nI_eq (by omega) (by decide)).mp (show nI q = nI 60 from h))
  obtain ⟨A2, B2, l1, l2, l3, l4, l5, l6⟩ := nt_loop (A := A) (B := sm_u B 11 0 2 (B 11 0 2 + 1)) (K := K) (F := F) nL (nI y) t1 hq60 ta tb qa qb hU t' 0 A (sm_u B 11 0 2 (B 11 0 2 + 1)) (by omega) (Fr_r _ _) (Fr_r _ _) (fun j hj => absurd hj (by omega)) (fun j _ => ⟨rfl, rfl, rfl, rfl⟩)
  have hc1 : sm_u B 11 0 2 (B 11 0 2 + 1) 11 0 2 = nI (C + 1) := by rw [mm_up, cb, nI_1]
  have hy1 : sm_u B 11 0 2 (B 11 0 2 + 1) 11 0 1 = nI y := dB
  rw [hc1, hy1] at l2
  have frA : Fr PA_ntc A (sm_u (sm_u A2 39 0 q (nI y)) 14 0 5 (nI (q + 1))) := Fr_u (Fr_u (Fr_w l3 (fun f k h => by unfold PA_ntc at h; simp only [Bool.or_eq_false_iff] at h; exact h.1.1)) rfl) rfl
  have frB : Fr PB_ntc B (sm_u (sm_u (sm_u B2 85 0 q (nI (C + 1))) 86 0 q (nI y)) 11 0 49 (nI (q + 1))) := Fr_u (Fr_u (Fr_u (Fr_t (Fr_u (Fr_r _ _) rfl) (Fr_w l4 (fun f k h => by unfold PB_ntc at h; simp only [Bool.or_eq_false_iff] at h; exact h.1.1.1))) rfl) rfl) rfl
  have b2 : B2 11 0 2 = nI (C + 1) := (l4 11 0 2 rfl).trans hc1
  have b85 : ∀ j, j ≠ q → sm_u (sm_u (sm_u B2 85 0 q (nI (C + 1))) 86 0 q (nI y)) 11 0 49 (nI (q + 1)) 85 0 j = B 85 0 j := fun j hj => (mm_un (A := B2) (fun h => hj h.2) : sm_u B2 85 0 q (nI (C + 1)) 85 0 j = _).trans (l4 85 0 j rfl)
  have b85q : sm_u (sm_u (sm_u B2 85 0 q (nI (C + 1))) 86 0 q (nI y)) 11 0 49 (nI (q + 1)) 85 0 q = nI (C + 1) := (mm_up (A := B2) : sm_u B2 85 0 q (nI (C + 1)) 85 0 q = _)
  refine ⟨nI q, sm_u (sm_u A2 39 0 q (nI y)) 14 0 5 (nI (q + 1)), sm_u (sm_u (sm_u B2 85 0 q (nI (C + 1))) 86 0 q (nI y)) 11 0 49 (nI (q + 1)), fun d Q => ?_, fun d Q => ?_, .inr ⟨q, C, hq60, C1, qb, cb, rfl, b2, b85q, b85, frA, frB, ⟨t', s, g1, g2, ?_, ?_, ?_, fun i hi => ?_, fun i hi => ?_, fun i hi hi2 => ?_⟩, ⟨t', q + 1, C + 1, fun j => if j = q then C + 1 else NC j, t1, by omega, by omega, ?_, ?_, rfl, rfl, b2, fun j hj => ?_, fun i j hij hj => ?_, fun i hi => ?_, fun i hi hi2 => ?_⟩⟩⟩
  · rw [kA, T112_5, mm_bf z1, qa, mm_bt q60]
    refine (l1 d _ none).trans ?_
    rw [sm_push_s, T111_25]
  · rw [kB, mm_bf z2, qb, mm_bf q60']; exact l2 d Q _
  · exact (frA 14 0 3 rfl).trans g3
  · exact (frB 11 0 13 rfl).trans g4
  · exact (frB 11 0 3 rfl).trans g5
  · exact (frA 42 i 0 rfl).trans (g6 i hi)
  · have := g7 i hi
    unfold K_thg at this ⊢
    rw [frA 42 i 1 rfl, frA 42 i 2 rfl, frA 42 i 3 rfl, frA 42 i 4 rfl, frA 42 i 5 rfl, frA 42 i 6 rfl, frB 59 0 i rfl, frB 60 0 i rfl, frB 61 0 i rfl, frB 62 0 i rfl, frB 63 0 i rfl, frB 64 0 i rfl]
    exact this
  · have := g8 i hi hi2
    exact ⟨(frA 42 i 6 rfl).trans this.1, (l6 i hi).1.trans this.2.1, (l6 i hi).2.trans this.2.2⟩
  · exact (frA 14 0 3 rfl).trans g3
  · exact (frB 11 0 13 rfl).trans g4
  · by_cases hjq : j = q
    · subst hjq
      refine ⟨by rw [b85q]; simp, by simp, ?_, y, hy, ?_⟩
      · exact ((mm_up (A := A2) : sm_u A2 39 0 j (nI y) 39 0 j = nI y)).trans ((mm_up (A := sm_u B2 85 0 j (nI (C + 1))) : sm_u (sm_u B2 85 0 j (nI (C + 1))) 86 0 j (nI y) 86 0 j = nI y)).symm
      · exact (mm_up (A := sm_u B2 85 0 j (nI (C + 1))) : sm_u (sm_u B2 85 0 j (nI (C + 1))) 86 0 j (nI y) 86 0 j = nI y)
    · obtain ⟨n1, n2, n3, n4⟩ := hN j (by omega)
      have e39 : sm_u (sm_u A2 39 0 q (nI y)) 14 0 5 (nI (q + 1)) 39 0 j = A 39 0 j := (mm_un (A := A2) (fun h => hjq h.2) : sm_u A2 39 0 q (nI y) 39 0 j = _).trans (l3 39 0 j rfl)
      have e86 : sm_u (sm_u (sm_u B2 85 0 q (nI (C + 1))) 86 0 q (nI y)) 11 0 49 (nI (q + 1)) 86 0 j = B 86 0 j := (mm_un (A := sm_u B2 85 0 q (nI (C + 1))) (fun h => hjq h.2) : sm_u (sm_u B2 85 0 q (nI (C + 1))) 86 0 q (nI y) 86 0 j = _).trans (l4 86 0 j rfl)
      rw [b85 j hjq, e39, e86]
      simp only [hjq, ↓reduceIte]
      exact ⟨n1, by omega, n3, n4⟩
  · by_cases hjq : j = q
    · subst hjq
      have : i ≠ j := by omega
      have h2 := (hN i (by omega)).2.1
      simp only [this, ↓reduceIte]; omega
    · have : i ≠ q := by omega
      simp only [this, hjq, ↓reduceIte]; exact hN2 i j hij (by omega)
  · obtain ⟨f1, f2, f3, f4⟩ := hT1 i hi
    obtain ⟨k1, k2, k3, k4⟩ := l5 i hi
    have e9 : sm_u (sm_u A2 39 0 q (nI y)) 14 0 5 (nI (q + 1)) 42 i 9 = A2 42 i 9 := rfl
    have e10 : sm_u (sm_u A2 39 0 q (nI y)) 14 0 5 (nI (q + 1)) 42 i 10 = A2 42 i 10 := rfl
    have e67 : sm_u (sm_u (sm_u B2 85 0 q (nI (C + 1))) 86 0 q (nI y)) 11 0 49 (nI (q + 1)) 67 0 i = B2 67 0 i := rfl
    have e68 : sm_u (sm_u (sm_u B2 85 0 q (nI (C + 1))) 86 0 q (nI y)) 11 0 49 (nI (q + 1)) 68 0 i = B2 68 0 i := rfl
    unfold K_tel
    rw [e9, e10, e67, e68, frA 42 i 7 rfl, frA 42 i 8 rfl, frB 65 0 i rfl, frB 64 0 i rfl, frB 66 0 i rfl]
    refine ⟨k1, k2, K_bef_q f3 hq60 ?_, ?_⟩
    · rcases k3 with h | ⟨h, h'⟩
      · exact .inl (by rw [← k1, h, f1])
      · exact .inr ⟨h, by rw [← k1, h']⟩
    · rcases f4 with ⟨w1, w2, w3⟩ | ⟨w1, w2⟩
      · refine .inl ⟨w1, w2, ?_⟩
        rcases k4 with h | ⟨h, h'⟩
        · rw [← k2, h, f2, w3]
        · rw [w2] at h
          exact absurd (show (-1 : Int32) < 0 by decide) (by rw [h]; exact nI_pos (by omega))
      · refine .inr ⟨w1, K_bef_q w2 hq60 ?_⟩
        rcases k4 with h | ⟨h, h'⟩
        · exact .inl (by rw [← k2, h, f2])
        · exact .inr ⟨h, by rw [← k2, h']⟩
  · have := hT2 i hi hi2
    exact ⟨(frA 42 i 8 rfl).trans this.1, (l6 i hi).1.trans this.2.1, (l6 i hi).2.trans this.2.2⟩
