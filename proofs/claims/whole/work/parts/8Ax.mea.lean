/-! stood; under scratch -/
theorem VC_of {A B : sm_M} {n e0 : Nat} (hS : J_srv A B) (hG : J_thg A B) (hT : J_tel e0 n A B) (hH : J_sht A B) {m : Nat} (hE : J_edi m A B) (hP : J_cop A B) (hC : J_cor A B) : ∃ t s P, VW A B t s ∧ P ≤ 24 ∧ A 10 0 9 = nI P ∧ B 11 0 52 = nI P ∧ ∀ c, c < P → (∃ e k c0 r q z u qn E S K, VC A B c e k c0 r q z t s u qn E S K) ∧ A 25 c 1 = B 88 0 c ∧ ∃ y, y ≤ 9999 ∧ B 88 0 c = nI y := by
  obtain ⟨t, s, hV⟩ := VW_of hS hG
  obtain ⟨t', q', C', NC, ht90, hq60', hCm, ta', tb', qa', qb', cb', hNC, hNC2, hTl, hTr⟩ := hT
  have et : t' = t := (nI_eq (by omega) (by have := hV.1; omega)).mp (tb'.symm.trans hV.2.2.2.2.1)
  subst et
  obtain ⟨S', hS16, sa, sb, hK⟩ := hH
  obtain ⟨S, E, qn, C, e1, e2, e3, e4, Ea, Eb, e7, e8, e9, e10, hKE, -⟩ := hE
  have eS : S' = S := (nI_eq (by omega) (by omega)).mp (sb.symm.trans e3)
  subst eS
  have eq' : q' = qn := (nI_eq (by omega) (by omega)).mp (qb'.symm.trans e8)
  subst eq'
  obtain ⟨P, E', p1, pa, pb, p4, p5, hKP⟩ := hP
  have eE : E' = E := (nI_eq (by omega) (by omega)).mp (p5.symm.trans Eb)
  subst eE
  obtain ⟨K, hK99, ka, kb, hc4, hcE⟩ := hC
  refine ⟨t', s, P, hV, p1, pa, pb, fun c hc => ?_⟩
  obtain ⟨a1, a2, ⟨e, he, eb⟩, y, hy, ey⟩ := hKP c hc
  refine ⟨?_, a2, y, hy, ey⟩
  obtain ⟨f1, ⟨k, hk, f2⟩, f3, f4, u, cc, f5, f6, f7, f8, f9⟩ := hKE e he
  obtain ⟨c0, r, q, z, hK0, hSA, hZ⟩ := K_sht_SA (hK k hk)
  refine ⟨e, k, c0, r, q, z, u, q', E', S', K, hV, by omega, a1.trans eb, eb, he, p4, Ea, f1.trans f2, f2, hk, hS16, sa, hSA, hK0, f5, f7, hq60', f4, fun i hi => ?_, f9, hK99, kb, hc4 c (by omega), fun j hj h => hcE c j (by omega) hj h⟩
  obtain ⟨g1, g2, g3, g4⟩ := hTl i hi
  have rng : ∀ {a b n : Int32}, K_bef a b n q' C' NC → (n = -1 ∨ ∃ j, j < q' ∧ n = nI j) := fun h => by
    obtain ⟨u0, v0, w1, w2, w3, w4, w5, w6, w7⟩ := h
    rcases w7 with h | ⟨j, w8, h1, h2⟩
    · exact .inl h
    · exact .inr ⟨j, h1, h2⟩
  refine ⟨g1, g2, rng g3, ?_⟩
  rcases g4 with ⟨-, -, h⟩ | ⟨-, h⟩
  · exact .inl h
  · exact rng h
theorem VC_sc {A B A1 B1 : sm_M} {c e k c0 r q z t s u qn E S K : Nat} (hC : VC A B c e k c0 r q z t s u qn E S K) (hA : Fr scA A A1) (hB : Fr scB B B1) : VC A1 B1 c e k c0 r q z t s u qn E S K := by
  obtain ⟨hV, hc, a25, b87, he, hE, a7, a24, b81, hk, hS, a5, hSA, hK0, a3, hu, hq, h46, hN, hj, hK, b55, h4, hcE⟩ := hC
  have hwn : ∀ j, wcn B1 c j = wcn B c j := fun j => wcn_c (fun i _ => hB 89 0 i rfl)
  obtain ⟨s0, s1, s2, s3⟩ := K_sh0_s2 hK0 (sB2_w hB)
  refine ⟨VW_s2 hV (sA2_w hA) (sB2_w hB), hc, (hA 25 c 0 rfl).trans a25, (hB 87 0 c rfl).trans b87, he, hE, (hA 10 0 7 rfl).trans a7, (hA 24 e 0 rfl).trans a24, (hB 81 0 e rfl).trans b81, hk, hS, (hA 10 0 5 rfl).trans a5, SA_s2 hSA (sA2_w hA), ⟨s0, s1, s2, s3, K_sh0_Z hK0⟩, (hA 24 e 3 rfl).trans a3, hu, hq, fun i hi => ?_, fun i hi => ?_, fun j hjq => ?_, hK, (hB 11 0 55 rfl).trans b55, ?_, fun j hjK h => ?_⟩
  · rw [hA 46 e i rfl, hB 84 0 _ rfl]; exact h46 i hi
  · rw [hA 42 i 9 rfl, hA 42 i 10 rfl, hB 67 0 i rfl, hB 68 0 i rfl]; exact hN i hi
  · rw [hB 82 0 e rfl, hB 85 0 j rfl]; exact hj j hjq
  · rw [hA 25 c 4 rfl, hwn]; exact h4
  · rw [hB 89 0 j rfl] at h
    rw [hwn, hA 47 c _ rfl, hA 48 c _ rfl, hB 90 0 j rfl, hB 91 0 j rfl]; exact hcE j hjK h
theorem wcb_sc {B B1 : sm_M} (hB : Fr scB B B1) (c : Nat) (y : Int32) : ∀ j, wcb B1 c y j = wcb B c y j
  | 0 => rfl
  | j + 1 => by
    have ih := wcb_sc hB c y j
    unfold wcb
    rw [ih, hB 89 0 j rfl, hB 90 0 j rfl, hB 91 0 j rfl]
theorem won_sc {B B1 : sm_M} (hB : Fr scB B B1) (e : Nat) (to v : Int32) : won B1 e to v = won B e to v := by
  unfold won
  rw [hB 82 0 e rfl, hB 85 0 _ rfl]
theorem wlf_sc {B B1 : sm_M} (hB : Fr scB B B1) (e : Nat) (to c z : Int32) : ∀ i, wlf B1 e to c z i = wlf B e to c z i
  | 0 => rfl
  | i + 1 => by
    have ih := wlf_sc hB e to c z i
    unfold wlf wnk
    rw [ih, won_sc hB, won_sc hB, hB 59 0 i rfl, hB 60 0 i rfl, hB 62 0 i rfl, hB 67 0 i rfl, hB 68 0 i rfl]
theorem wso_sc {B B1 : sm_M} (hB : Fr scB B B1) (e c0 r q x : Nat) (to : Int32) (t : Nat) : wso B1 e c0 r q x to t = wso B e c0 r q x to t := by
  unfold wso
  cases wpo c0 r q x with
  | none => rfl
  | some p => simp only [wlf_sc hB, hB 84 0 (12 * e + p) rfl]
theorem p124 {A B : sm_M} {n e0 m : Nat} (hS : J_srv A B) (hG : J_thg A B) (hT : J_tel e0 n A B) (hH : J_sht A B) (hE : J_edi m A B) (hP : J_cop A B) (hC : J_cor A B) (x0 x1 x2 : Int32) (nL : Nat) : ∃ r, (∀ d Q, sm_W (d + 4) 124 0 [vo 10, vi x0, vi x1, vi x2, none] [] (sm_G0 nL) A Q = Q (vi r) (sm_G0 nL) A) ∧ (∀ d Q, sm_W (d + 3) 243 0 [vo 11, vi x0, vi x1, vi x2] [] (sm_G0 nL) B Q = Q (vi r) (sm_G0 nL) B) := by
  obtain ⟨t, s, P, hV, hP24, pa, pb, hCo⟩ := VC_of hS hG hT hH hE hP hC
  rcases mm_sv x0 P (by omega) with h | ⟨g0, g1, g2⟩ | ⟨c, hc, rfl, c0, c1, c2⟩
  · exact ⟨-1000000, fun d Q => by simp only [T124, h, ↓sm_Br_d, ↓reduceIte, sm_Ck_t, mm_zb0, mm_zb1], fun d Q => by simp only [T243, h, ↓sm_Br_d, ↓reduceIte, sm_Ck_t, mm_zb0, mm_zb1]⟩
  · exact ⟨-1000000, fun d Q => by simp only [T124, g0, pa, pb, g1, g2, ↓sm_Br_d, ↓reduceIte, sm_Ck_t, mm_zb0, mm_zb1], fun d Q => by simp only [T243, g0, pa, pb, g1, g2, ↓sm_Br_d, ↓reduceIte, sm_Ck_t, mm_zb0, mm_zb1]⟩
  have c24 : nI c < (24 : Int32) := nI_lt (show c < 24 by omega) (by decide)
  have ci : sm_in (nI c) 24 = true := mm_in (by omega) (by decide)
  have cc : (nI c).toNatClampNeg = c := nI_clamp (by omega)
  obtain ⟨⟨e, k, cc0, r, q, z, u, qn, E, S, K, hVC⟩, a1, y, hy, ey⟩ := hCo c hc
  rcases mm_r47 x1 with h | ⟨g0, g1, g2⟩ | ⟨x, hx, rfl, v0, v1, v2, -⟩
  · exact ⟨-1000000, fun d Q => by simp only [T124, c0, pa, pb, c1, c2, c24, ci, h, ↓sm_Br_d, ↓reduceIte, sm_Ck_t, mm_zb0, mm_zb1], fun d Q => by simp only [T243, c0, pa, pb, c1, c2, c24, ci, h, ↓sm_Br_d, ↓reduceIte, sm_Ck_t, mm_zb0, mm_zb1]⟩
  · exact ⟨-1000000, fun d Q => by simp only [T124, c0, pa, pb, c1, c2, c24, ci, g0, g1, g2, ↓sm_Br_d, ↓reduceIte, sm_Ck_t, mm_zb0, mm_zb1], fun d Q => by simp only [T243, c0, pa, pb, c1, c2, c24, ci, g0, g1, g2, ↓sm_Br_d, ↓reduceIte, sm_Ck_t, mm_zb0, mm_zb1]⟩
  by_cases b0 : x2 < 0
  · exact ⟨-1000000, fun d Q => by simp only [T124, c0, pa, pb, c1, c2, c24, ci, v0, v1, v2, b0, ↓sm_Br_d, ↓reduceIte, sm_Ck_t, mm_zb0, mm_zb1], fun d Q => by simp only [T243, c0, pa, pb, c1, c2, c24, ci, v0, v1, v2, b0, ↓sm_Br_d, ↓reduceIte, sm_Ck_t, mm_zb0, mm_zb1]⟩
  by_cases b1 : 9999 < x2
  · exact ⟨-1000000, fun d Q => by simp only [T124, c0, pa, pb, c1, c2, c24, ci, v0, v1, v2, b0, b1, ↓sm_Br_d, ↓reduceIte, sm_Ck_t, mm_zb0, mm_zb1], fun d Q => by simp only [T243, c0, pa, pb, c1, c2, c24, ci, v0, v1, v2, b0, b1, ↓sm_Br_d, ↓reduceIte, sm_Ck_t, mm_zb0, mm_zb1]⟩
  by_cases b2 : x2 < nI y
  · exact ⟨-1000000, fun d Q => by simp only [T124, c0, pa, pb, c1, c2, c24, ci, cc, v0, v1, v2, b0, b1, a1, ey, b2, ↓sm_Br_d, ↓reduceIte, sm_Ck_t, mm_zb0, mm_zb1], fun d Q => by simp only [T243, c0, pa, pb, c1, c2, c24, ci, cc, v0, v1, v2, b0, b1, a1, ey, b2, ↓sm_Br_d, ↓reduceIte, sm_Ck_t, mm_zb0, mm_zb1]⟩
  refine ⟨wso B e cc0 r q x (wcb B c x2 K) t, fun d Q => ?_, fun d Q => ?_⟩
  · simp only [T124, c0, pa, c1, c24, ci, cc, v0, v2, b0, b1, a1, ey, b2, ↓sm_Br_d, ↓reduceIte, sm_Ck_t, mm_zb0, mm_zb1]
    rw [m125 nL hVC (show x < 48 by omega) x2 d, sm_push_s, T124_46]
  · simp only [T243, c0, pb, c2, ci, cc, v0, v1, b0, b1, ey, b2, ↓sm_Br_d, ↓reduceIte, sm_Ck_t, mm_zb0, mm_zb1]
    rw [r244 nL hVC (show x < 48 by omega) x2 d, sm_push_s, T243_44]
/-! worse -/
def VR (A B : sm_M) (n : Nat) : Prop := n ≤ 10 ∧ A 13 0 1 = nI n ∧ B 11 0 27 = nI n ∧ (∀ r, r < n → K_rul A B r) ∧ A 34 0 0 = -1 ∧ A 34 0 2 = 999 ∧ A 34 0 3 = 0 ∧ A 34 0 4 = 0 ∧ A 34 0 5 = 999 ∧ A 34 0 6 = 210 ∧ A 34 0 7 = 0
theorem VR_s2 {A B A1 : sm_M} {n : Nat} (h : VR A B n) (hA : Fr sA2 A A1) : VR A1 B n := by
  obtain ⟨h1, h2, h3, h4, h5⟩ := h
  refine ⟨h1, (hA 13 0 1 rfl).trans h2, h3, fun r hr => ?_, ?_⟩
  · have := h4 r hr
    unfold K_rul at this ⊢
    rw [hA 36 r 0 rfl, hA 36 r 1 rfl, hA 36 r 2 rfl, hA 36 r 3 rfl, hA 36 r 4 rfl, hA 36 r 5 rfl, hA 36 r 6 rfl, hA 36 r 7 rfl]
    exact this
  · rw [hA 34 0 0 rfl, hA 34 0 2 rfl, hA 34 0 3 rfl, hA 34 0 4 rfl, hA 34 0 5 rfl, hA 34 0 6 rfl, hA 34 0 7 rfl]; exact h5
theorem wo_loop {A B : sm_M} {c e k c0 r q z t s u qn E S K x n yy : Nat} (nL : Nat) (hC : VC A B c e k c0 r q z t s u qn E S K) (hR : VR A B n) (hx : x < 48) (hyy : yy ≤ 9999) : ∀ j dd cnt A1 B1, dd + j = yy + 1 → Fr scA A A1 → Fr scB B B1 → ∃ res A2 B2, (∀ d Q o1 o6 o7, sm_W (d + 5) 129 56 [vo 10, o1, vi (nI x), vi (nI yy), some (Sum.inr (Sum.inr (some (25, c)))), vi (nI cnt), vi (nI dd), o6, o7] [] (sm_G0 nL) A1 Q = Q (vi (nI res)) (sm_G0 nL) A2) ∧ (∀ d Q o5 o6, sm_W (d + 5) 246 66 [vo 11, vi (nI c), vi (nI x), vi (nI yy), vi (nI cnt), vi (nI dd), o5, o6] [] (sm_G0 nL) B1 Q = Q (vi (nI res)) (sm_G0 nL) B2) ∧ Fr scA A A2 ∧ Fr scB B B2 := by
  intro j
  induction j with
  | zero =>
    intro dd cnt A1 B1 hd hA hB
    have hl : nI yy < nI dd := nI_lt (by omega) (by omega)
    exact ⟨cnt, A1, B1, fun d Q o1 o6 o7 => by rw [T129_56, mm_bt hl], fun d Q o5 o6 => by rw [T246_66, mm_bt hl], hA, hB⟩
  | succ j ih =>
    intro dd cnt A1 B1 hd hA hB
    have hl : ¬ nI yy < nI dd := nI_nlt (by omega) (by omega)
    have hC1 := VC_sc hC hA hB
    have hC1' := VC_sc hC hA (Fr_r scB B)
    have hR1 := VR_s2 hR (sA2_w hA)
    obtain ⟨r1, r2, r3, r4, r5⟩ := id hR1
    obtain ⟨f, i, hw, hRO⟩ := RO_of r4 r5 (nI dd)
    obtain ⟨A2, m1, m2⟩ := m79 (A := A1) (B := B) nL (nI x) (nI dd) hC1'.1 hRO
    have hA2 : Fr scA A A2 := Fr_t hA m2
    have kA : ∀ d Q o1 o6 o7, sm_W (d + 5) 129 56 [vo 10, o1, vi (nI x), vi (nI yy), some (Sum.inr (Sum.inr (some (25, c)))), vi (nI cnt), vi (nI dd), o6, o7] [] (sm_G0 nL) A1 Q = sm_W (d + 5) 129 92 [vo 10, o1, vi (nI x), vi (nI yy), some (Sum.inr (Sum.inr (some (25, c)))), vi (nI cnt), vi (nI dd), vi (wso B e c0 r q x (wcb B c (nI dd) K) t), o7] [Sum.inl (LW B (wrule B (nI dd) n) (nI x) (nI dd) t s)] (sm_G0 nL) A2 Q := fun d Q o1 o6 o7 => by
      rw [T129_56, mm_bf hl, m125 nL hC1' hx (nI dd) (d + 1), sm_push_s, T129_71, m48e (d + 4) nL (nI dd) none none r1 r2 r4, hw, sm_push_s, T129_89, m1, sm_push_s]
    generalize hso : wso B e c0 r q x (wcb B c (nI dd) K) t = v at kA
    generalize hlw : LW B (wrule B (nI dd) n) (nI x) (nI dd) t s = lw at kA
    have kB0 : ∀ d Q o5 o6, sm_W (d + 5) 246 66 [vo 11, vi (nI c), vi (nI x), vi (nI yy), vi (nI cnt), vi (nI dd), o5, o6] [] (sm_G0 nL) B1 Q = sm_W (d + 5) 246 80 [vo 11, vi (nI c), vi (nI x), vi (nI yy), vi (nI cnt), vi (nI dd), o5, o6] [Sum.inl v] (sm_G0 nL) B1 Q := fun d Q o5 o6 => by
      rw [T246_66, mm_bf hl, r244 nL hC1 hx (nI dd) (d + 2), sm_push_s, wso_sc hB, wcb_sc hB, hso]
    by_cases hv : v = -1000000
    · obtain ⟨res, A3, B3, g1, g2, g3⟩ := ih (dd + 1) cnt A2 B1 (by omega) hA2 hB
      exact ⟨res, A3, B3, fun d Q o1 o6 o7 => by rw [kA, T129_92, mm_bt hv, nI_1, g1], fun d Q o5 o6 => by rw [kB0, T246_80, mm_bt hv, nI_1, g2], g3⟩
    obtain ⟨B2, q1, q2⟩ := r215 (A := A) (B := B1) nL (nI x) (nI dd) (VW_s2 hC.1 (Fr_r _ _) (sB2_w hB)) r1 ((hB 11 0 27 rfl).trans r3) (Fr_r scB B1)
    have hB2 : Fr scB B B2 := Fr_t hB q2
    rw [wrule_s2 (sB2_w hB), LW_s2 (sB2_w hB), hlw] at q1
    have kB : ∀ d Q o5 o6, sm_W (d + 5) 246 66 [vo 11, vi (nI c), vi (nI x), vi (nI yy), vi (nI cnt), vi (nI dd), o5, o6] [] (sm_G0 nL) B1 Q = sm_W (d + 5) 246 99 [vo 11, vi (nI c), vi (nI x), vi (nI yy), vi (nI cnt), vi (nI dd), vi v, o6] [Sum.inl lw] (sm_G0 nL) B2 Q := fun d Q o5 o6 => by
      rw [kB0, T246_80, mm_bf hv, q1, sm_push_s]
    by_cases hw1 : lw = -1000000
    · obtain ⟨res, A3, B3, g1, g2, g3⟩ := ih (dd + 1) cnt A2 B2 (by omega) hA2 hB2
      exact ⟨res, A3, B3, fun d Q o1 o6 o7 => by rw [kA, T129_92, mm_bf hv, mm_bt hw1, nI_1, g1], fun d Q o5 o6 => by rw [kB, T246_99, mm_bt hw1, nI_1, Int32.add_zero, g2], g3⟩
    by_cases hlt : lw < v
    · obtain ⟨res, A3, B3, g1, g2, g3⟩ := ih (dd + 1) (cnt + 1) A2 B2 (by omega) hA2 hB2
      exact ⟨res, A3, B3, fun d Q o1 o6 o7 => by rw [kA, T129_92, mm_bf hv, mm_bf hw1, mm_bt hlt]; simp only [nI_1]; exact g1 _ _ _ _ _, fun d Q o5 o6 => by rw [kB, T246_99, mm_bf hw1, mm_bt hlt]; simp only [nI_1]; exact g2 _ _ _ _, g3⟩
    · obtain ⟨res, A3, B3, g1, g2, g3⟩ := ih (dd + 1) cnt A2 B2 (by omega) hA2 hB2
      exact ⟨res, A3, B3, fun d Q o1 o6 o7 => by rw [kA, T129_92, mm_bf hv, mm_bf hw1, mm_bf hlt, nI_1, g1], fun d Q o5 o6 => by rw [kB, T246_99, mm_bf hw1, mm_bf hlt, nI_1, Int32.add_zero, g2], g3⟩
theorem p129 {A B : sm_M} {n e0 m : Nat} (hD : J_day A B) (hS : J_srv A B) (hG : J_thg A B) (hR : J_rul A B) (hT : J_tel e0 n A B) (hH : J_sht A B) (hE : J_edi m A B) (hP : J_cop A B) (hC : J_cor A B) (x0 x1 x2 : Int32) (nL : Nat) : ∃ r A' B', (∀ d Q, sm_W (d + 5) 129 0 [vo 10, vi x0, vi x1, vi x2, none, none, none, none, none] [] (sm_G0 nL) A Q = Q (vi r) (sm_G0 nL) A') ∧ (∀ d Q, sm_W (d + 5) 246 0 [vo 11, vi x0, vi x1, vi x2, none, none, none, none] [] (sm_G0 nL) B Q = Q (vi r) (sm_G0 nL) B') ∧ Fr scA A A' ∧ Fr scB B B' := by
  obtain ⟨dA, td, htd, dB⟩ := hD
  obtain ⟨t, s, P, hV, hP24, pa, pb, hCo⟩ := VC_of hS hG hT hH hE hP hC
  obtain ⟨nr, hRR⟩ := hR
  have er : ∀ r : Int32, (∀ d Q, sm_W (d + 5) 129 0 [vo 10, vi x0, vi x1, vi x2, none, none, none, none, none] [] (sm_G0 nL) A Q = Q (vi r) (sm_G0 nL) A) → (∀ d Q, sm_W (d + 5) 246 0 [vo 11, vi x0, vi x1, vi x2, none, none, none, none] [] (sm_G0 nL) B Q = Q (vi r) (sm_G0 nL) B) → ∃ r A' B', (∀ d Q, sm_W (d + 5) 129 0 [vo 10, vi x0, vi x1, vi x2, none, none, none, none, none] [] (sm_G0 nL) A Q = Q (vi r) (sm_G0 nL) A') ∧ (∀ d Q, sm_W (d + 5) 246 0 [vo 11, vi x0, vi x1, vi x2, none, none, none, none] [] (sm_G0 nL) B Q = Q (vi r) (sm_G0 nL) B') ∧ Fr scA A A' ∧ Fr scB B B' := fun r h1 h2 => ⟨r, A, B, h1, h2, Fr_r _ _, Fr_r _ _⟩
  rcases mm_sv x0 P (by omega) with h | ⟨g0, g1, g2⟩ | ⟨c, hc, rfl, c0, c1, c2⟩
  · exact er (-5) (fun d Q => by simp only [T129, h, ↓sm_Br_d, ↓reduceIte, sm_Ck_t, mm_zb0, mm_zb1]) (fun d Q => by simp only [T246, h, ↓sm_Br_d, ↓reduceIte, sm_Ck_t, mm_zb0, mm_zb1])
  · exact er (-5) (fun d Q => by simp only [T129, g0, pa, g1, ↓sm_Br_d, ↓reduceIte, sm_Ck_t, mm_zb0, mm_zb1]) (fun d Q => by simp only [T246, g0, pb, g2, ↓sm_Br_d, ↓reduceIte, sm_Ck_t, mm_zb0, mm_zb1])
  have c24 : nI c < (24 : Int32) := nI_lt (show c < 24 by omega) (by decide)
  have ci : sm_in (nI c) 24 = true := mm_in (by omega) (by decide)
  have cc : (nI c).toNatClampNeg = c := nI_clamp (by omega)
  obtain ⟨⟨e, k, cc0, r, q, z, u, qn, E, S, K, hVC⟩, a1, y, hy, ey⟩ := hCo c hc
  rcases mm_r47 x1 with h | ⟨g0, g1, g2⟩ | ⟨x, hx, rfl, v0, v1, v2, -⟩
  · exact er (-5) (fun d Q => by simp only [T129, c0, pa, c1, c24, ci, h, ↓sm_Br_d, ↓reduceIte, sm_Ck_t, mm_zb0, mm_zb1]) (fun d Q => by simp only [T246, c0, pb, c2, h, ↓sm_Br_d, ↓reduceIte, sm_Ck_t, mm_zb0, mm_zb1])
  · exact er (-5) (fun d Q => by simp only [T129, c0, pa, c1, c24, ci, g0, g1, g2, ↓sm_Br_d, ↓reduceIte, sm_Ck_t, mm_zb0, mm_zb1]) (fun d Q => by simp only [T246, c0, pb, c2, g0, g1, g2, ↓sm_Br_d, ↓reduceIte, sm_Ck_t, mm_zb0, mm_zb1])
  by_cases b2 : x2 < nI y
  · exact er (-5) (fun d Q => by simp only [T129, c0, pa, c1, c24, ci, cc, v0, v1, v2, a1, ey, b2, ↓sm_Br_d, ↓reduceIte, sm_Ck_t, mm_zb0, mm_zb1]) (fun d Q => by simp only [T246, c0, pb, c2, ci, cc, v0, v1, v2, a1, ey, b2, ↓sm_Br_d, ↓reduceIte, sm_Ck_t, mm_zb0, mm_zb1])
  by_cases b3 : nI td < x2
  · exact er (-5) (fun d Q => by simp only [T129, c0, pa, c1, c24, ci, cc, v0, v1, v2, a1, ey, b2, dA, dB, b3, ↓sm_Br_d, ↓reduceIte, sm_Ck_t, mm_zb0, mm_zb1]) (fun d Q => by simp only [T246, c0, pb, c2, ci, cc, v0, v1, v2, a1, ey, b2, dB, b3, ↓sm_Br_d, ↓reduceIte, sm_Ck_t, mm_zb0, mm_zb1])
  have b0 : ¬ x2 < 0 := fun h => b2 (by
    have h1 := Int32.lt_iff_toInt_lt.mp h
    rw [Int32.lt_iff_toInt_lt, nI_toInt (by omega)]
    rw [show (0 : Int32).toInt = 0 from by decide] at h1; omega)
  obtain ⟨yy, hyy, rfl⟩ := nI_of b0
  rw [nI_ltI (by omega) (by omega)] at b2 b3
  have hlo : ∃ st, st ≤ yy ∧ (∀ (X Y : Prop), sm_Br (decide (nI y < nI yy - 99)) X Y = if y + 99 < yy then X else Y) ∧ (∀ (X Y : Prop), sm_Br (decide (nI yy - 99 < nI y)) X Y = if yy < y + 99 then X else Y) ∧ (st = if y + 99 < yy then yy - 99 else y) := by
    refine ⟨if y + 99 < yy then yy - 99 else y, by split <;> omega, fun X Y => ?_, fun X Y => ?_, rfl⟩
    · have h1 : (nI y < nI yy - 99) = (y + 99 < yy) := by
        apply propext
        rw [show (99 : Int32) = nI 99 from rfl, Int32.lt_iff_toInt_lt, pk_sub_toInt (by omega) (by decide), nI_toInt (by omega)]; omega
      by_cases h : y + 99 < yy
      · rw [mm_bt (h1.mpr h), if_pos h]
      · rw [mm_bf (fun hh => h (h1.mp hh)), if_neg h]
    · have h1 : (nI yy - 99 < nI y) = (yy < y + 99) := by
        apply propext
        rw [show (99 : Int32) = nI 99 from rfl, Int32.lt_iff_toInt_lt, pk_sub_toInt (by omega) (by decide), nI_toInt (by omega)]; omega
      by_cases h : yy < y + 99
      · rw [mm_bt (h1.mpr h), if_pos h]
      · rw [mm_bf (fun hh => h (h1.mp hh)), if_neg h]
  obtain ⟨st, hst, hb1, hb2, hste⟩ := hlo
  obtain ⟨res, A2, B2, g1, g2, g3, g4⟩ := wo_loop nL hVC hRR (show x < 48 by omega) (show yy ≤ 9999 by omega) (yy + 1 - st) st 0 A B (by omega) (Fr_r _ _) (Fr_r _ _)
  have b2' : ¬ nI yy < nI y := nI_nlt (by omega) (by omega)
  have b3' : ¬ nI td < nI yy := nI_nlt (by omega) (by omega)
  refine ⟨nI res, A2, B2, fun d Q => ?_, fun d Q => ?_, g3, g4⟩
  · rw [T129, mm_bf c0, pa, mm_bt c1, mm_bt c24, mm_ck ci, cc, mm_bf v0, mm_bt v2, a1, ey, mm_bf b2', dA, dB, mm_bf b3', hb1]
    by_cases h : y + 99 < yy
    · rw [if_pos h] at hste ⊢
      subst hste
      rw [show (99 : Int32) = nI 99 from rfl, pk_sub (show 99 ≤ yy by omega)]
      exact g1 d Q _ _ _
    · rw [if_neg h] at hste ⊢
      subst hste
      exact g1 d Q _ _ _
  · rw [T246, mm_bf c0, pb, mm_bf c2, mm_ck mm_zb1, mm_bf v0, mm_bf v1, mm_ck mm_zb1, mm_ck ci, cc, ey, mm_bf b2', dB, mm_bf b3', mm_ck ci, hb2]
    simp only [mm_ck ci]
    by_cases h : y + 99 < yy
    · rw [if_pos h] at hste
      subst hste
      rw [if_neg (by omega), show (99 : Int32) = nI 99 from rfl, pk_sub (show 99 ≤ yy by omega)]
      exact g2 d Q _ _
    · rw [if_neg h] at hste
      subst hste
      by_cases h2 : yy < st + 99
      · rw [if_pos h2]; exact g2 d Q _ _
      · have h3 : yy = st + 99 := by omega
        rw [if_neg h2, show (99 : Int32) = nI 99 from rfl, pk_sub (show 99 ≤ yy by omega), show yy - 99 = st by omega]
        exact g2 d Q _ _
