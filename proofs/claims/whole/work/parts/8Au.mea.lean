/-! edition, the call -/
theorem wle_c {B B' : sm_M} {k : Nat} : ∀ {n : Nat}, (∀ e, e < n → B' 81 0 e = B 81 0 e) → wle B' k n = wle B k n
  | 0, _ => rfl
  | n + 1, h => by
    have ih := wle_c (B := B) (B' := B') (k := k) (n := n) (fun e he => h e (by omega))
    unfold wle
    rw [ih, h n (Nat.lt_succ_self _)]
def PA_ed (f k : Nat) : Bool := sA2 f k || Nat.beq f 46 || Nat.beq f 24 || (Nat.beq f 23 && Nat.beq k 4) || (Nat.beq f 10 && Nat.beq k 7)
def PB_ed (f k : Nat) : Bool := sB2 f k || Nat.beq f 81 || Nat.beq f 82 || Nat.beq f 83 || Nat.beq f 84 || (Nat.beq f 11 && (Nat.beq k 2 || Nat.beq k 44))
theorem RB_u {B : sm_M} {i k : Nat} {v : Int32} : RB (sm_u B 11 i k v) = RB B := by
  funext f' i' k'
  unfold RB
  by_cases hf : 50 ≤ f' ∧ f' ≤ 73
  · rw [if_pos hf, if_pos hf]; exact if_neg (fun h => by omega)
  · rw [if_neg hf, if_neg hf]
theorem wrule_u {B : sm_M} {i k : Nat} {v y : Int32} {n : Nat} : wrule (sm_u B 11 i k v) y n = wrule B y n := by rw [← wrule_RB, RB_u, wrule_RB]
theorem LW_u {B : sm_M} {i k : Nat} {v : Int32} {o : Option Nat} {c y : Int32} {t s : Nat} : LW (sm_u B 11 i k v) o c y t s = LW B o c y t s := by rw [← LW_RB, RB_u, LW_RB]
theorem Fr_46 {P : Nat → Nat → Bool} {A A1 : sm_M} {E n : Nat} {g : Nat → Int32} (h : Fr P A A1) (hp : ∀ k, P 46 k = true) : Fr P A (r46 A1 E g n) := fun f i k hk => by
  refine Eq.trans (if_neg (fun hh => ?_)) (h f i k hk)
  rw [hh.1, hp] at hk; exact absurd hk (by decide)
theorem Fr_84 {P : Nat → Nat → Bool} {B B1 : sm_M} {E n : Nat} {g : Nat → Int32} (h : Fr P B B1) (hp : ∀ k, P 84 k = true) : Fr P B (r84 B1 E g n) := fun f i k hk => by
  refine Eq.trans (if_neg (fun hh => ?_)) (h f i k hk)
  rw [hh.1, hp] at hk; exact absurd hk (by decide)
theorem p103 {A B : sm_M} {m : Nat} (hD : J_day A B) (hS : J_srv A B) (hG : J_thg A B) (hR : J_rul A B) (hN : J_num B) (hH : J_sht A B) (hT : J_tel 0 m A B) (hE : J_edi m A B) (hm : m < 2 ^ 29) (x0 : Int32) (nL : Nat) : ∃ r A' B', (∀ d Q, sm_W (d + 6) 103 0 [vo 10, vi x0, none] [] (sm_G0 nL) A Q = Q (vi r) (sm_G0 nL) A') ∧ (∀ d Q, sm_W (d + 7) 228 0 [vo 11, vi x0, none, none, none] [] (sm_G0 nL) B Q = Q (vi r) (sm_G0 nL) B') ∧ ((A' = A ∧ B' = B) ∨ (Fr PA_ed A A' ∧ Fr PB_ed B B' ∧ B' 11 0 2 = B 11 0 2 + 1 ∧ J_edi (m + 1) A' B' ∧ ∃ E k, E < 60 ∧ B 11 0 44 = nI E ∧ B' 11 0 44 = nI (E + 1) ∧ B' 81 0 E = nI k ∧ ∀ e, e ≠ E → B' 81 0 e = B 81 0 e)) := by
  obtain ⟨dA, y, hy, dB⟩ := hD
  obtain ⟨t, s, hV⟩ := VW_of hS hG
  obtain ⟨n, hn, ea, eb, hKr, h0⟩ := hR
  obtain ⟨S, hS16, sa, sb, hK⟩ := hH
  obtain ⟨t', q', C', NC, -, hq60', hCm, -, -, qa', qb', cb', hNC, -⟩ := hT
  obtain ⟨S2, E, qn, C, e1, e2, e3, e4, Ea, Eb, e7, e8, e9, e10, hKE, hE0, hEl, hEn⟩ := hE
  have eS : S2 = S := (nI_eq (by omega) (by omega)).mp (e3.symm.trans sb)
  subst eS
  have eq' : q' = qn := (nI_eq (by omega) (by omega)).mp (qb'.symm.trans e8)
  subst eq'
  rcases mm_sv x0 S2 (by omega) with h | ⟨g0, g1, g2⟩ | ⟨k, hk, rfl, k0, k1, k2⟩
  · exact ⟨-1, A, B, fun d Q => by simp only [T103, h, ↓sm_Br_d, ↓reduceIte, sm_Ck_t, mm_zb0, mm_zb1], fun d Q => by simp only [T228, h, ↓sm_Br_d, ↓reduceIte, sm_Ck_t, mm_zb0, mm_zb1], .inl ⟨rfl, rfl⟩⟩
  · exact ⟨-1, A, B, fun d Q => by simp only [T103, g0, sa, sb, g1, g2, ↓sm_Br_d, ↓reduceIte, sm_Ck_t, mm_zb0, mm_zb1], fun d Q => by simp only [T228, g0, sa, sb, g1, g2, ↓sm_Br_d, ↓reduceIte, sm_Ck_t, mm_zb0, mm_zb1], .inl ⟨rfl, rfl⟩⟩
  have k16 : nI k < (16 : Int32) := nI_lt (show k < 16 by omega) (by decide)
  have ki : sm_in (nI k) 16 = true := mm_in (by omega) (by decide)
  have kc : (nI k).toNatClampNeg = k := nI_clamp (by omega)
  by_cases hf : E = 60
  · subst hf
    have f1 : ¬ nI 60 < (60 : Int32) := by decide
    have f2 : (nI 60 = (60 : Int32)) = True := eq_true rfl
    exact ⟨-4, A, B, fun d Q => by simp only [T103, k0, sa, sb, k1, k2, k16, ki, Ea, Eb, f1, f2, ↓sm_Br_d, ↓reduceIte, sm_Ck_t, mm_zb0, mm_zb1], fun d Q => by simp only [T228, k0, sa, sb, k1, k2, k16, ki, Ea, Eb, f1, f2, ↓sm_Br_d, ↓reduceIte, sm_Ck_t, mm_zb0, mm_zb1], .inl ⟨rfl, rfl⟩⟩
  have hE60 : E < 60 := by omega
  have n1 : nI E < (60 : Int32) := nI_lt hE60 (by decide)
  have n2 : ¬ nI E = (60 : Int32) := fun h => hf ((nI_eq (by omega) (by decide)).mp (show nI E = nI 60 from h))
  have Ei : sm_in (nI E) 60 = true := mm_in hE60 (by decide)
  have Ec : (nI E).toNatClampNeg = E := nI_clamp (by omega)
  obtain ⟨c, r, q, z, hK0, hSA, hZ⟩ := K_sht_SA (hK k hk)
  obtain ⟨f, i, hw, hRO⟩ := RO_of hKr h0 (nI y)
  obtain ⟨nn, hnn, eN⟩ := J_num_c hN hn eb (nI y) (show 1 < 4 by decide)
  obtain ⟨A1, m1, m2, m3⟩ := m95 nL (nI y) hV hRO hSA hZ
  rw [eN] at m3
  have hC1 : sm_u B 11 0 2 (B 11 0 2 + 1) 11 0 2 = nI (C + 1) := by rw [mm_up, e10, nI_1]
  obtain ⟨B2, r1, r2, r3⟩ := r221 (A := A) (B := sm_u B 11 0 2 (B 11 0 2 + 1)) nL (nI y) hV hn eb (show k < 16 by omega) hK0 hnn (show wcl (sm_u B 11 0 2 (B 11 0 2 + 1)) (wrule (sm_u B 11 0 2 (B 11 0 2 + 1)) (nI y) n) 1 = nI nn by
    rw [wrule_u, ← eN]
    cases wrule B (nI y) n <;> rfl) (Fr_r _ _)
  rw [wrule_u] at r1 r3
  simp only [LW_u] at r1 r3
  have hm12 := hZ.2.2.2.2.1
  have hwlt := wfw_lt (G := fun u => LW B (wrule B (nI y) n) (nI (wce c q u)) (nI y) t s) (c := c) (q := q) (z := z) (N := nI nn) hm12
  have hp12 : 2 ^ (r * q) ≤ 4096 := Nat.pow_le_pow_right (n := 2) (by decide) hm12
  generalize hGG : (fun u => LW B (wrule B (nI y) n) (nI (wce c q u)) (nI y) t s) = G at m3 r1 hwlt
  have hGe : ∀ u, LW B (wrule B (nI y) n) (nI (wce c q u)) (nI y) t s = G u := fun u => by rw [← hGG]
  simp only [hGe] at r3
  have hm99 := fun (A' : sm_M) h1 h2 => m99 (A := A') (B := B) (k := k) nL (nI nn) h1 hZ G h2
  generalize hww : wfw G c q z (r * q) (nI nn) = w at r1 hwlt hm99
  have hbm : ∀ i, w.testBit i = true → i < r * q := fun i hb => by
    rcases Nat.lt_or_ge i (r * q) with h | h
    · exact h
    · rw [Nat.testBit_lt_two_pow (Nat.lt_of_lt_of_le hwlt (Nat.pow_le_pow_right (by decide) h))] at hb; exact absurd hb (by decide)
  have a1E : A1 10 0 7 = nI E := (m2 10 0 7 rfl).trans Ea
  have a1d : A1 10 0 0 = nI y := (m2 10 0 0 rfl).trans (dA.trans dB)
  have a1q : A1 14 0 5 = nI q' := (m2 14 0 5 rfl).trans qa'
  have eC : C' = C := (nI_eq (by omega) (by omega)).mp (cb'.symm.trans e10)
  subst eC
  have b2C : B2 11 0 2 = nI (C' + 1) := (r2 11 0 2 rfl).trans hC1
  have b2E : B2 11 0 44 = nI E := (r2 11 0 44 rfl).trans Eb
  have hM : ∀ f, 50 ≤ f → f ≤ 73 → ∀ i, r84 (sm_u (sm_u B2 81 0 E (nI k)) 82 0 E (nI (C' + 1))) E (wrow G w) 12 f 0 i = B f 0 i := fun f h1 h2 i => by
    obtain ⟨w1, w2, w3, w4, w5⟩ := sB2_0 f (by omega) h1
    refine (if_neg (fun hh => by omega)).trans ((if_neg (fun hh => by omega)).trans ((if_neg (fun hh => by omega)).trans ((r2 f 0 i (by unfold sB2 scB; rw [w1, w2, w3, w4, w5]; rfl)).trans (if_neg (fun hh => by omega)))))
  have h83 : r84 (sm_u (sm_u B2 81 0 E (nI k)) 82 0 E (nI (C' + 1))) E (wrow G w) 12 83 0 E = nI (wlc B c r q (nI y) 0) := by
    show B2 83 0 E = 0
    exact (r2 83 0 E rfl).trans (hE0 E (Nat.le_refl _) hE60)
  have hBl := fun d Q => r228b (A := A) (B := B) (M := r84 (sm_u (sm_u B2 81 0 E (nI k)) 82 0 E (nI (C' + 1))) E (wrow G w) 12) (k := k) nL (nI y) hV (by omega) hE60 hZ (show B2 76 0 k = nI c from (r2 76 0 k rfl).trans hK0.1) (show B2 77 0 k = nI r from (r2 77 0 k rfl).trans hK0.2.1) (show B2 78 0 k = nI q from (r2 78 0 k rfl).trans hK0.2.2.1) (show B2 11 0 1 = nI y from (r2 11 0 1 rfl).trans dB) (show B2 11 0 13 = nI t from (r2 11 0 13 rfl).trans hV.2.2.2.2.1) hM d Q (vi (nI w)) t 0 (by omega)
  rw [← h83, mm_us] at hBl
  have frA : Fr PA_ed A (sm_u (sm_u (sm_u (sm_u (r46 (sm_u A1 24 E 0 (nI k)) E (wrow G w) 12) 24 E 2 (nI (wlc B c r q (nI y) t))) 24 E 3 (nI q')) 23 k 4 (nI E)) 10 0 7 (nI (E + 1))) := Fr_u (Fr_u (Fr_u (Fr_u (Fr_46 (Fr_u (Fr_w m2 (fun f k h => by unfold PA_ed at h; simp only [Bool.or_eq_false_iff] at h; exact h.1.1.1.1)) rfl) (fun k => rfl)) rfl) rfl) rfl) rfl
  have frB : Fr PB_ed B (sm_u (sm_u (r84 (sm_u (sm_u B2 81 0 E (nI k)) 82 0 E (nI (C' + 1))) E (wrow G w) 12) 83 0 E (nI (wlc B c r q (nI y) t))) 11 0 44 (nI (E + 1))) := Fr_u (Fr_u (Fr_84 (Fr_u (Fr_u (Fr_t (Fr_u (Fr_r _ _) rfl) (Fr_w r2 (fun f k h => by unfold PB_ed at h; simp only [Bool.or_eq_false_iff] at h; exact h.1.1.1.1.1))) rfl) rfl) (fun k => rfl)) rfl) rfl
  have b81 : ∀ e, e ≠ E → (sm_u (sm_u (r84 (sm_u (sm_u B2 81 0 E (nI k)) 82 0 E (nI (C' + 1))) E (wrow G w) 12) 83 0 E (nI (wlc B c r q (nI y) t))) 11 0 44 (nI (E + 1))) 81 0 e = B 81 0 e := fun e he => (mm_un (A := B2) (fun h => he h.2) : sm_u B2 81 0 E (nI k) 81 0 e = _).trans (r2 81 0 e rfl)
  have b81E : (sm_u (sm_u (r84 (sm_u (sm_u B2 81 0 E (nI k)) 82 0 E (nI (C' + 1))) E (wrow G w) 12) 83 0 E (nI (wlc B c r q (nI y) t))) 11 0 44 (nI (E + 1))) 81 0 E = nI k := (mm_up (A := B2) : sm_u B2 81 0 E (nI k) 81 0 E = nI k)
  have b82E : (sm_u (sm_u (r84 (sm_u (sm_u B2 81 0 E (nI k)) 82 0 E (nI (C' + 1))) E (wrow G w) 12) 83 0 E (nI (wlc B c r q (nI y) t))) 11 0 44 (nI (E + 1))) 82 0 E = nI (C' + 1) := (mm_up (A := sm_u B2 81 0 E (nI k)) : sm_u (sm_u B2 81 0 E (nI k)) 82 0 E (nI (C' + 1)) 82 0 E = nI (C' + 1))
  have b82 : ∀ e, e ≠ E → (sm_u (sm_u (r84 (sm_u (sm_u B2 81 0 E (nI k)) 82 0 E (nI (C' + 1))) E (wrow G w) 12) 83 0 E (nI (wlc B c r q (nI y) t))) 11 0 44 (nI (E + 1))) 82 0 e = B 82 0 e := fun e he => (mm_un (A := sm_u B2 81 0 E (nI k)) (fun h => he h.2) : sm_u (sm_u B2 81 0 E (nI k)) 82 0 E (nI (C' + 1)) 82 0 e = _).trans (r2 82 0 e rfl)
  have b83E : (sm_u (sm_u (r84 (sm_u (sm_u B2 81 0 E (nI k)) 82 0 E (nI (C' + 1))) E (wrow G w) 12) 83 0 E (nI (wlc B c r q (nI y) t))) 11 0 44 (nI (E + 1))) 83 0 E = nI (wlc B c r q (nI y) t) := (mm_up (A := r84 (sm_u (sm_u B2 81 0 E (nI k)) 82 0 E (nI (C' + 1))) E (wrow G w) 12) : sm_u (r84 (sm_u (sm_u B2 81 0 E (nI k)) 82 0 E (nI (C' + 1))) E (wrow G w) 12) 83 0 E (nI (wlc B c r q (nI y) t)) 83 0 E = _)
  have b83 : ∀ e, e ≠ E → (sm_u (sm_u (r84 (sm_u (sm_u B2 81 0 E (nI k)) 82 0 E (nI (C' + 1))) E (wrow G w) 12) 83 0 E (nI (wlc B c r q (nI y) t))) 11 0 44 (nI (E + 1))) 83 0 e = B 83 0 e := fun e he => (mm_un (A := r84 (sm_u (sm_u B2 81 0 E (nI k)) 82 0 E (nI (C' + 1))) E (wrow G w) 12) (fun h => he h.2) : sm_u (r84 (sm_u (sm_u B2 81 0 E (nI k)) 82 0 E (nI (C' + 1))) E (wrow G w) 12) 83 0 E (nI (wlc B c r q (nI y) t)) 83 0 e = _).trans (r2 83 0 e rfl)
  have b85 : ∀ j, (sm_u (sm_u (r84 (sm_u (sm_u B2 81 0 E (nI k)) 82 0 E (nI (C' + 1))) E (wrow G w) 12) 83 0 E (nI (wlc B c r q (nI y) t))) 11 0 44 (nI (E + 1))) 85 0 j = B 85 0 j := fun j => frB 85 0 j rfl
  have b84 : ∀ v, (sm_u (sm_u (r84 (sm_u (sm_u B2 81 0 E (nI k)) 82 0 E (nI (C' + 1))) E (wrow G w) 12) 83 0 E (nI (wlc B c r q (nI y) t))) 11 0 44 (nI (E + 1))) 84 0 v = if 12 * E ≤ v ∧ v < 12 * E + 12 then wrow G w (v - 12 * E) else B 84 0 v := fun v => by
    show (if 84 = 84 ∧ 0 = 0 ∧ 12 * E ≤ v ∧ v < 12 * E + 12 then wrow G w (v - 12 * E) else sm_u (sm_u B2 81 0 E (nI k)) 82 0 E (nI (C' + 1)) 84 0 v) = _
    by_cases hv : 12 * E ≤ v ∧ v < 12 * E + 12
    · rw [if_pos hv, if_pos ⟨rfl, rfl, hv⟩]
    · rw [if_neg hv, if_neg (fun hh => hv hh.2.2)]; exact r2 84 0 v rfl
  have a46E : ∀ v, v < 12 → (sm_u (sm_u (sm_u (sm_u (r46 (sm_u A1 24 E 0 (nI k)) E (wrow G w) 12) 24 E 2 (nI (wlc B c r q (nI y) t))) 24 E 3 (nI q')) 23 k 4 (nI E)) 10 0 7 (nI (E + 1))) 46 E v = wrow G w v := fun v hv => (if_pos ⟨rfl, rfl, hv⟩ : r46 (sm_u A1 24 E 0 (nI k)) E (wrow G w) 12 46 E v = _)
  have a46 : ∀ e v, e ≠ E → (sm_u (sm_u (sm_u (sm_u (r46 (sm_u A1 24 E 0 (nI k)) E (wrow G w) 12) 24 E 2 (nI (wlc B c r q (nI y) t))) 24 E 3 (nI q')) 23 k 4 (nI E)) 10 0 7 (nI (E + 1))) 46 e v = A 46 e v := fun e v he => (if_neg (fun h => he h.2.1) : r46 (sm_u A1 24 E 0 (nI k)) E (wrow G w) 12 46 e v = _).trans (m2 46 e v rfl)
  have a24 : ∀ e v, e ≠ E → (sm_u (sm_u (sm_u (sm_u (r46 (sm_u A1 24 E 0 (nI k)) E (wrow G w) 12) 24 E 2 (nI (wlc B c r q (nI y) t))) 24 E 3 (nI q')) 23 k 4 (nI E)) 10 0 7 (nI (E + 1))) 24 e v = A 24 e v := fun e v he => by
    have h1 : (sm_u (sm_u (sm_u (sm_u (r46 (sm_u A1 24 E 0 (nI k)) E (wrow G w) 12) 24 E 2 (nI (wlc B c r q (nI y) t))) 24 E 3 (nI q')) 23 k 4 (nI E)) 10 0 7 (nI (E + 1))) 24 e v = A1 24 e v := by simp [sm_u, r46, he]
    rw [h1]; exact m2 24 e v rfl
  have a23 : ∀ j, (sm_u (sm_u (sm_u (sm_u (r46 (sm_u A1 24 E 0 (nI k)) E (wrow G w) 12) 24 E 2 (nI (wlc B c r q (nI y) t))) 24 E 3 (nI q')) 23 k 4 (nI E)) 10 0 7 (nI (E + 1))) 23 j 4 = if j = k then nI E else A 23 j 4 := fun j => by
    have h2 : A1 23 j 4 = A 23 j 4 := m2 23 j 4 rfl
    rw [← h2]
    by_cases hj : j = k
    · subst hj; simp [sm_u]
    · simp [sm_u, r46, hj]
  refine ⟨nI E, _, _, fun d Q => ?_, fun d Q => ?_, .inr ⟨frA, frB, ?_, ⟨S2, E + 1, q', C' + 1, e1, ?_, ?_, by omega, rfl, rfl, hq60', ?_, by omega, b2C, fun e he => ?_, fun e he he2 => ?_, fun j hj => ?_, fun j hj hj2 => ?_⟩, E, k, hE60, Eb, rfl, b81E, b81⟩⟩
  · simp only [T103, k0, sa, k1, k16, ki, kc, Ea, n1, dA, dB, ↓sm_Br_d, ↓reduceIte, sm_Ck_t, mm_zb0, mm_zb1]
    rw [m48e (d + 5) nL (nI y) none none hn ea hKr, hw, sm_push_s, T103_44, m1, sm_push_n, T103_47, a1E, mm_ck Ei, Ec, a1d, T104]
    refine (m104 (A := A1) (B := B) nL (nI y) (VW_s2 hV m2 (Fr_r _ _)) (SA_s2 hSA m2) hZ (d + 3) _ t 0 none (by omega)).trans ?_
    rw [sm_push_s, T103_70, a1q, T106, hm99 (sm_u A1 24 E 0 (nI k)) (show SA (sm_u A1 24 E 0 (nI k)) k c r q z from (SA_s2 hSA m2 : SA A1 k c r q z)) (show LK (sm_u A1 24 E 0 (nI k)) B k c r q z (nI nn) G from m3), sm_push_s, T106_9]
    have h106 := m106 (A := sm_u A1 24 E 0 (nI k)) (E := E) (k := k) nL G (show w < 2 ^ 31 by omega) (fun i _ hb => m3.1 i (hbm i hb)) (d + 1)
    have h0 := fun Q' o1 x3 x4 => h106 Q' o1 x3 x4 12 0 (by omega)
    rw [r46_0] at h0
    refine (h0 _ _ _ _).trans ?_
    have a3E : sm_u (sm_u (r46 (sm_u A1 24 E 0 (nI k)) E (wrow G w) 12) 24 E 2 (nI (wlc B c r q (nI y) t))) 24 E 3 (nI q') 10 0 7 = nI E := a1E
    rw [sm_push_n, T103_80, a3E, nI_1, nI_pred]
  · simp only [T228, k0, sb, k2, Eb, n2, dB, ↓sm_Br_d, ↓reduceIte, sm_Ck_t, mm_zb0, mm_zb1]
    rw [r1, sm_push_s, T228_46, b2C, mm_ck Ei, mm_ck Ei, Ec]
    have h0 := r228a (B := sm_u (sm_u B2 81 0 E (nI k)) 82 0 E (nI (C' + 1))) (E := E) (k := k) nL G hE60 (show w < 2 ^ 31 by omega) (fun i _ hb => r3 i (hbm i hb)) d Q 12 0 (by omega)
    rw [r84_0] at h0
    refine h0.trans ((hBl d Q).trans ?_)
    have b44 : r84 (sm_u (sm_u B2 81 0 E (nI k)) 82 0 E (nI (C' + 1))) E (wrow G w) 12 11 0 44 = nI E := b2E
    rw [b44, nI_1]
  · exact b2C.trans (by rw [e10, nI_1])
  · exact (frA 10 0 5 rfl).trans sa
  · exact (frB 11 0 38 rfl).trans sb
  · exact (frB 11 0 49 rfl).trans qb'
  · by_cases heE : e = E
    · subst heE
      refine ⟨?_, ⟨k, hk, b81E⟩, ?_, fun i hi => ?_, q', C' + 1, ?_, b82E, Nat.le_refl _, Nat.le_refl _, fun j hj => ⟨fun _ => ?_, fun _ => hj⟩⟩
      · rw [b81E]; simp [sm_u, r46]
      · rw [b83E]; simp [sm_u]
      · rw [a46E i hi, b84, if_pos ⟨by omega, by omega⟩, show 12 * e + i - 12 * e = i from by omega]
      · simp [sm_u]
      · rw [b82E, b85, (hNC j hj).1]
        have := (hNC j hj).2.1
        exact nI_nlt (by omega) (by omega)
    · obtain ⟨h1, h2, h3, h4, u, cc, h5, h6, h7, h8, h9⟩ := hKE e (by omega)
      unfold K_edi
      rw [a24 e 0 heE, a24 e 2 heE, a24 e 3 heE, b81 e heE, b82 e heE, b83 e heE]
      refine ⟨h1, h2, h3, fun i hi => ?_, u, cc, h5, h6, h7, by omega, fun j hj => by rw [b85]; exact h9 j hj⟩
      rw [a46 e i heE, b84, if_neg (by omega)]; exact h4 i hi
  · rw [b83 e (by omega)]; exact hE0 e (by omega) he2
  · rw [a23]
    have hwl : ∀ j, wle (sm_u (sm_u (r84 (sm_u (sm_u B2 81 0 E (nI k)) 82 0 E (nI (C' + 1))) E (wrow G w) 12) 83 0 E (nI (wlc B c r q (nI y) t))) 11 0 44 (nI (E + 1))) j (E + 1) = if nI k = nI j then some E else wle B j E := fun j => by
      have h1 := wle_c (B := B) (k := j) (n := E) (fun e he => b81 e (by omega))
      show (if _ = nI j then some E else wle _ j E) = _
      rw [b81E, h1]
    rw [hwl]
    by_cases hjk : j = k
    · subst hjk; rw [if_pos rfl, if_pos rfl]; rfl
    · rw [if_neg hjk, if_neg (fun h => hjk ((nI_eq (by omega) (by omega)).mp h).symm)]; exact hEl j hj
  · rw [a23, if_neg (by omega)]; exact hEn j hj hj2
