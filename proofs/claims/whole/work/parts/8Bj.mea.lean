/-! line: the loop -/
theorem mm_dif (a b : Nat) : nI (a + b) - nI a = nI b := by rw [pk_sub (Nat.le_add_right a b), Nat.add_sub_cancel_left]
def PA_ln (f k : Nat) : Bool := Nat.beq f 42 || (Nat.beq f 14 && Nat.beq k 3) || (Nat.beq f 10 && Nat.beq k 14)
def PB_ln (f k : Nat) : Bool := (Nat.ble 59 f && Nat.ble f 68) || (Nat.beq f 11 && (Nat.beq k 13 || Nat.beq k 24))
theorem ln_ex {A : sm_M} {y r c : Int32} (nL u : Nat) {dir k n : Nat} (hd : dir < 4) (hn : n ≤ 48) (hk : k < n) (hy : REL y r c) (h0 : A 10 0 14 = 0) {v x3 x5 x8 e : Int32} (he : ¬ e = 0) (h34 : ∀ d Q, sm_W (d + 3) 34 0 [vo 10, vi v, vi y, vi (x3 + nI k), v26 u, vi (x5 + nI k), none, none] [] (sm_G0 nL) A Q = Q (vi e) (sm_G0 nL) A) (d : Nat) (Q : sm_Q) (o1 o4 : Option sm_V) (hv : ∃ z : Int32, o4 = vi z) : sm_W (d + 4) 32 107 [vo 10, vi v, o1, vi (nI dir), vi x3, o4, vi x5, vi (nI n), v26 u, vi x8, vi y, vi (nI k)] [] (sm_G0 nL) A Q = Q (vi (A 14 0 3 - x8)) (sm_G0 nL) (sm_u A 10 0 14 e) := by
  have kn : nI k < nI n := nI_lt hk (by omega)
  have e0 : ¬ (sm_u A 10 0 14 e) 10 0 14 = 0 := he
  have fin : ∀ y' : Int32, sm_W (d + 4) 32 107 [vo 10, vi v, o1, vi (nI dir), vi x3, o4, vi x5, vi (nI n), v26 u, vi x8, vi y', vi (nI k + 1)] [] (sm_G0 nL) (sm_u A 10 0 14 e) Q = Q (vi (A 14 0 3 - x8)) (sm_G0 nL) (sm_u A 10 0 14 e) := fun y' => by
    rw [T32_107]
    by_cases h : nI k + 1 < nI n
    · rw [mm_bt h, mm_bf e0]; rfl
    · rw [mm_bf h]; rfl
  rw [T32_107, mm_bt kn, mm_bt h0, h34, sm_push_s]
  rcases hy with ⟨q, hq, rfl, -⟩ | ⟨rfl, -⟩
  · obtain ⟨y', -, g⟩ := m141q nL u hd hq
    rw [g]; exact fin y'
  · rw [T32_141, mm_bt (by decide)]; exact fin (-1)
theorem ln_loop (nL : Nat) {s u dir n m h v t0 : Nat} (hs : s ≤ 12) (hv : v < s) (hu : u < 6) (hd : dir < 4) (hn : n ≤ 48) (hh : h ≤ 99999) (x5 : Int32) : ∀ j k did y r c A B, k + j = n → A 10 0 14 = 0 → B 11 0 24 = 0 → J_thg A B → J_tel 1 m A B → ¬ B 11 0 2 = 0 → J_day A B → J_sea A B → B 11 0 3 = nI s → J_tap A B → J_tp3 B → (B 96 0 u = -1 ∨ B 96 0 u = 3) → REL y r c → A 14 0 3 = nI (t0 + did) → ∃ a A' B', (∀ d Q o1, sm_W (d + 4) 32 107 [vo 10, vi (nI v), o1, vi (nI dir), vi (nI h), vi (nI u), vi x5, vi (nI n), v26 u, vi (nI t0), vi y, vi (nI k)] [] (sm_G0 nL) A Q = Q (vi a) (sm_G0 nL) A') ∧ (∀ d Q o1 o11 o12 o13 o14 o15 o16, sm_W (d + 2) 180 115 [vo 11, vi (nI v), o1, vi (nI dir), vi (nI h), vi (nI u), vi x5, vi (nI n), vi (nI did), vi r, vi c, vi (nI k), o11, o12, o13, o14, o15, o16] [] (sm_G0 nL) B Q = Q (vi a) (sm_G0 nL) B') ∧ J_thg A' B' ∧ J_tel 1 m A' B' ∧ J_end A' B' ∧ Fr PA_ln A A' ∧ Fr PB_ln B B' := by
  intro j
  induction j with
  | zero =>
    intro k did y r c A B hk h0 h24 hT hTel hC hD hS es hP hP3 ek hy ht
    have hk' : k = n := by omega
    subst hk'
    have lt : ¬ nI k < nI k := nI_nlt (Nat.le_refl _) (by omega)
    have t9 : A 14 0 3 - nI t0 = nI (t0 + did) - nI t0 := by rw [ht]
    refine ⟨A 14 0 3 - nI t0, A, B, fun d Q o1 => ?_, fun d Q o1 o11 o12 o13 o14 o15 o16 => ?_, ?_, hTel, ⟨h0.trans h24.symm, .inr ⟨0, by omega, h24⟩⟩, Fr_r _ _, Fr_r _ _⟩
    · rw [T32_107, mm_bf lt]
    · rw [T180_115, mm_bf lt, t9, mm_dif]
    · exact hT
  | succ j ih =>
    intro k did y r c A B hk h0 h24 hT hTel hC hD hS es hP hP3 ek hy ht
    have hkn : k < n := by omega
    have kn : nI k < nI n := nI_lt hkn (by omega)
    have t9 : A 14 0 3 - nI t0 = nI did := by rw [ht, mm_dif]
    have ui : sm_in (nI u) 6 = true := mm_in hu (by decide)
    have uc : (nI u).toNatClampNeg = u := nI_clamp (by omega)
    obtain ⟨k0, k1, -, ⟨m6, hm6, em6⟩, hit⟩ := hP u hu
    have exit : ∀ e : Nat, 1 ≤ e → e ≤ 5 → (∀ d Q, sm_W (d + 3) 34 0 [vo 10, vi (nI v), vi y, vi (nI h + nI k), v26 u, vi (x5 + nI k), none, none] [] (sm_G0 nL) A Q = Q (vi (nI e)) (sm_G0 nL) A) → (∀ d Q o1 o11 o12 o13 o14 o15 o16, sm_W (d + 2) 180 115 [vo 11, vi (nI v), o1, vi (nI dir), vi (nI h), vi (nI u), vi x5, vi (nI n), vi (nI did), vi r, vi c, vi (nI k), o11, o12, o13, o14, o15, o16] [] (sm_G0 nL) B Q = Q (vi (nI did)) (sm_G0 nL) (sm_u B 11 0 24 (nI e))) → ∃ a A' B', (∀ d Q o1, sm_W (d + 4) 32 107 [vo 10, vi (nI v), o1, vi (nI dir), vi (nI h), vi (nI u), vi x5, vi (nI n), v26 u, vi (nI t0), vi y, vi (nI k)] [] (sm_G0 nL) A Q = Q (vi a) (sm_G0 nL) A') ∧ (∀ d Q o1 o11 o12 o13 o14 o15 o16, sm_W (d + 2) 180 115 [vo 11, vi (nI v), o1, vi (nI dir), vi (nI h), vi (nI u), vi x5, vi (nI n), vi (nI did), vi r, vi c, vi (nI k), o11, o12, o13, o14, o15, o16] [] (sm_G0 nL) B Q = Q (vi a) (sm_G0 nL) B') ∧ J_thg A' B' ∧ J_tel 1 m A' B' ∧ J_end A' B' ∧ Fr PA_ln A A' ∧ Fr PB_ln B B' := fun e he1 he5 g1 g2 => by
      have hne : ¬ nI e = 0 := nI_ne0 (by omega) (by omega)
      exact ⟨nI did, sm_u A 10 0 14 (nI e), sm_u B 11 0 24 (nI e), fun d Q o1 => (ln_ex nL u hd hn hkn hy h0 hne g1 d Q o1 _ ⟨_, rfl⟩).trans (by rw [t9]), g2, hT, hTel, ⟨rfl, .inr ⟨e, by omega, rfl⟩⟩, Fr_u (Fr_r _ _) rfl, Fr_u (Fr_r _ _) rfl⟩
    rcases ek with ek | ek
    · refine exit 1 (by omega) (by omega) (fun d Q => ?_) (fun d Q o1 o11 o12 o13 o14 o15 o16 => ?_)
      · rw [T34, k0, ek, mm_bt (by decide)]; rfl
      · rw [T180_115, mm_bt kn, mm_ck ui, uc, ek, mm_bt (by decide)]; rfl
    have s1 : ¬ (3 : Int32) = -1 := by decide
    have ek1 : nI k + 1 = nI (k + 1) := nI_1 k
    have s2 : ¬ (3 : Int32) < 0 := by decide
    rcases mm_at x5 (show k < 48 by omega) hm6 with ⟨i, hi, a1, a2, a3, a4⟩ | ⟨a1, a2⟩
    rotate_left
    · refine exit 2 (by omega) (by omega) (fun d Q => ?_) (fun d Q o1 o11 o12 o13 o14 o15 o16 => ?_)
      · rw [T34, k0, ek, mm_bf s1, k1, em6]
        rcases a1 with a1 | ⟨a1, a1'⟩
        · rw [mm_bt a1]; rfl
        · rw [mm_bf a1, mm_bf a1']; rfl
      · rw [T180_115, mm_bt kn, mm_ck ui, uc, ek, mm_bf s2, em6]
        rcases a2 with a2 | ⟨a2, a2'⟩
        · rw [mm_bt a2]; rfl
        · rw [mm_bf a2, mm_ck ui, mm_bf a2']; rfl
    have i0 : ¬ nI i < 0 := nI_pos (by omega)
    have im : nI i < nI m6 := nI_lt hi (by omega)
    have i60 : nI i < (60 : Int32) := nI_lt (show i < 60 by omega) (by decide)
    have ii : sm_in (nI i) 60 = true := mm_in (by omega) (by decide)
    have ic : (nI i).toNatClampNeg = i := nI_clamp (by omega)
    have hy0 := hy
    rcases hy with ⟨q, hq, rfl, rfl, rfl⟩ | ⟨rfl, hb⟩
    rotate_left
    · refine exit 3 (by omega) (by omega) (fun d Q => ?_) (fun d Q o1 o11 o12 o13 o14 o15 o16 => ?_)
      · rw [T34, k0, ek, mm_bf s1, k1, em6, a1, mm_bf i0, mm_bt im, mm_bt i60, mm_bt (by decide)]; rfl
      · rw [T180_115, mm_bt kn, mm_ck ui, uc, ek, mm_bf s2, em6, mm_bf a2, mm_ck ui, mm_bt a3]
        by_cases b1 : r < 0
        · rw [mm_bt b1]; rfl
        by_cases b2 : 5 < r
        · rw [mm_bf b1, mm_bt b2]; rfl
        by_cases b3 : c < 0
        · rw [mm_bf b1, mm_bf b2, mm_bt b3]; rfl
        have b4 : 7 < c := ((hb.resolve_left b1).resolve_left b2).resolve_left b3
        rw [mm_bf b1, mm_bf b2, mm_bf b3, mm_bt b4]; rfl
    have q0 : ¬ nI q < 0 := nI_pos (by omega)
    have q48 : nI q < (48 : Int32) := nI_lt hq (by decide)
    have r0 : ¬ nI (q / 8) < 0 := nI_pos (by omega)
    have r5 : ¬ (5 : Int32) < nI (q / 8) := nI_nlt (show q / 8 ≤ 5 by omega) (by decide)
    have c0 : ¬ nI (q % 8) < 0 := nI_pos (by omega)
    have c7 : ¬ (7 : Int32) < nI (q % 8) := nI_nlt (show q % 8 ≤ 7 by omega) (by decide)
    have ep : (60 : Int32) * nI u + nI i = nI (60 * u + i) := by show nI 60 * nI u + nI i = _; rw [pk_mul, nI_add]
    have pin : sm_in (nI (60 * u + i)) 360 = true := mm_in (by omega) (by decide)
    have pc : (nI (60 * u + i)).toNatClampNeg = 60 * u + i := nI_clamp (by omega)
    have eq : (8 : Int32) * nI (q / 8) + nI (q % 8) = nI q := by
      show nI 8 * nI (q / 8) + nI (q % 8) = _; rw [pk_mul, nI_add, show 8 * (q / 8) + q % 8 = q by omega]
    have eh : nI h + nI k = nI (h + k) := nI_add _ _
    obtain ⟨y', hy', gy⟩ := m141q nL u hd hq
    have hA34 : ∀ d Q, sm_W (d + 3) 34 0 [vo 10, vi (nI v), vi (nI q), vi (nI h + nI k), v26 u, vi (x5 + nI k), none, none] [] (sm_G0 nL) A Q = sm_Br (decide (A 49 u i = 999999999)) (Q (vi 0) (sm_G0 nL) A) (sm_W (d + 3) 34 68 [vo 10, vi (nI v), vi (nI q), vi (nI (h + k)), v26 u, vi (nI i), vi (A 49 u i), none] [Sum.inl (nI (wtide B q (h + k))), Sum.inl (A 49 u i >>> ((3 : Int32) &&& 31))] (sm_G0 nL) A Q) := fun d Q => by
      obtain ⟨f1, f2, f3⟩ := mm_fd8 (A 49 u i)
      rw [T34, k0, ek, mm_bf s1, k1, em6, a1, mm_bf i0, mm_bt im, mm_bt i60, mm_bf q0, mm_bt q48, mm_ck ii, ic, eh]
      by_cases hbl : A 49 u i = 999999999
      · rw [mm_bt hbl, mm_bt hbl]
      rw [mm_bf hbl, mm_bf hbl, mm_cn (by decide)]
      by_cases g1 : A 49 u i ^^^ 8 < 0
      · rw [mm_bt g1]
        by_cases g2 : A 49 u i / 8 * 8 = A 49 u i
        · rw [mm_bt g2, f2 g1 g2, m24 d none none none hS.1 hS.2 hq (by omega) nL, sm_push_s]
        · rw [mm_bf g2, f3 g1 g2, m24 d none none none hS.1 hS.2 hq (by omega) nL, sm_push_s]
      · rw [mm_bf g1, f1 g1, m24 d none none none hS.1 hS.2 hq (by omega) nL, sm_push_s]
    rcases hit i (by omega) with ⟨b9, b8⟩ | ⟨b9, b8⟩
    rotate_left
    · obtain ⟨a, A', B', u1, u2, u3⟩ := ih (k + 1) did y' _ _ (sm_u A 10 0 14 0) B (by omega) rfl h24 hT hTel hC hD hS es hP hP3 (.inr ek) hy' ht
      refine ⟨a, A', B', fun d Q o1 => ?_, fun d Q o1 o11 o12 o13 o14 o15 o16 => ?_, u3.1, u3.2.1, u3.2.2.1, Fr_t (Fr_u (Fr_r _ _) rfl) u3.2.2.2.1, u3.2.2.2.2⟩
      · rw [T32_107, mm_bt kn, mm_bt h0, hA34, mm_bt b8, sm_push_s, gy, ek1]; exact u1 d Q o1
      · have n9 : ¬ (1 : Int32) = 0 := by decide
        rw [T180_115, mm_bt kn, mm_ck ui, uc, ek, mm_bf s2, em6, mm_bf a2, mm_ck ui, mm_bt a3, mm_bf r0, mm_bf r5, mm_bf c0, mm_bf c7, a4, ep, mm_ck pin, pc, b9, mm_bf n9]
        simp only [ek1]
        have h4 : dir = 0 ∨ dir = 1 ∨ dir = 2 ∨ dir = 3 := by omega
        rcases h4 with rfl | rfl | rfl | rfl
        · rw [mm_bf (by decide), mm_bf (by decide), mm_bt (by decide)]; exact u2 d Q _ _ _ _ _ _ _
        · rw [mm_bt (by decide), mm_bf (by decide), mm_bf (by decide)]; exact u2 d Q _ _ _ _ _ _ _
        · rw [mm_bf (by decide), mm_bf (by decide), mm_bf (by decide), mm_bt (by decide)]; exact u2 d Q _ _ _ _ _ _ _
        · rw [mm_bf (by decide), mm_bt (by decide), mm_bf (by decide), mm_bf (by decide)]; exact u2 d Q _ _ _ _ _ _ _
    have nbl : ¬ A 49 u i = 999999999 := by rw [b8]; exact hP3 u hu ek i (by omega) b9
    have hB : ∀ d Q o1 o11 o12 o13 o14 o15 o16, sm_W (d + 2) 180 115 [vo 11, vi (nI v), o1, vi (nI dir), vi (nI h), vi (nI u), vi x5, vi (nI n), vi (nI did), vi (nI (q / 8)), vi (nI (q % 8)), vi (nI k), o11, o12, o13, o14, o15, o16] [] (sm_G0 nL) B Q = sm_W (d + 2) 180 258 [vo 11, vi (nI v), o1, vi (nI dir), vi (nI h), vi (nI u), vi x5, vi (nI n), vi (nI did), vi (nI (q / 8)), vi (nI (q % 8)), vi (nI k), some (Sum.inr (Sum.inl (x5.toInt64 + (nI k).toInt64))), none, vi (nI (60 * u + i)), vi (nI q), o15, o16] [Sum.inl (nI (wtide B q (h + k))), Sum.inl (A 49 u i >>> ((3 : Int32) &&& 31))] (sm_G0 nL) B Q := fun d Q o1 o11 o12 o13 o14 o15 o16 => by
      rw [T180_115, mm_bt kn, mm_ck ui, uc, ek, mm_bf s2, em6, mm_bf a2, mm_ck ui, mm_bt a3, mm_bf r0, mm_bf r5, mm_bf c0, mm_bf c7, a4, ep, mm_ck pin, pc, mm_bt b9, mm_ck pin, eq, eh, r173 d none none none none hS.1 hq (by omega) nL, sm_push_s, b8]
    generalize A 49 u i >>> ((3 : Int32) &&& 31) = f8 at hA34 hB
    by_cases g0 : f8 - nI (wtide B q (h + k)) < -99
    · refine exit 4 (by omega) (by omega) (fun d Q => ?_) (fun d Q o1 o11 o12 o13 o14 o15 o16 => ?_)
      · rw [hA34, mm_bf nbl, T34_68, mm_bt g0]; rfl
      · rw [hB, T180_258, mm_bt g0, mm_ck mm_zb0]; rfl
    by_cases g1 : 999 < f8 - nI (wtide B q (h + k))
    · refine exit 4 (by omega) (by omega) (fun d Q => ?_) (fun d Q o1 o11 o12 o13 o14 o15 o16 => ?_)
      · rw [hA34, mm_bf nbl, T34_68, mm_bf g0, mm_bt g1]; rfl
      · rw [hB, T180_258, mm_bf g0, mm_bt g1, mm_ck mm_zb0]; rfl
    have hT0 := hT
    obtain ⟨t, s', ht90, -, ta, tb, es', tn, -⟩ := hT0
    by_cases hf : t = 90
    · subst hf
      refine exit 5 (by omega) (by omega) (fun d Q => ?_) (fun d Q o1 o11 o12 o13 o14 o15 o16 => ?_)
      · rw [hA34, mm_bf nbl, T34_68, mm_bf g0, mm_bf g1, ta, mm_bf (by decide), mm_bt (by decide)]; rfl
      · rw [hB, T180_258, mm_bf g0, mm_bf g1, mm_ck mm_zb1, tb, mm_bt (by decide)]; rfl
    have n1 : nI t < (90 : Int32) := nI_lt (show t < 90 by omega) (by decide)
    have n2 : ¬ nI t = (90 : Int32) := fun h => hf ((nI_eq (by omega) (by decide)).mp (show nI t = nI 90 from h))
    have ti : sm_in (nI t) 90 = true := mm_in (by omega) (by decide)
    have tc : (nI t).toNatClampNeg = t := nI_clamp (by omega)
    have et1 : nI t + 1 = nI (t + 1) := nI_1 t
    have ed1 : nI did + 1 = nI (did + 1) := nI_1 did
    have t00 : ¬ nI t < 0 := nI_pos (by omega)
    have hA : ∀ d Q, sm_W (d + 3) 34 0 [vo 10, vi (nI v), vi (nI q), vi (nI h + nI k), v26 u, vi (x5 + nI k), none, none] [] (sm_G0 nL) A Q = Q (vi 0) (sm_G0 nL) (aA A t (nI 1) (nI v) (nI q) (f8 - nI (wtide B q (h + k)))) := fun d Q => by
      have hr : sm_u (sm_u (sm_u (sm_u (sm_u (sm_u A 42 t 1 1) 42 t 3 (nI v)) 42 t 2 (nI q)) 42 t 4 (f8 - nI (wtide B q (h + k)))) 42 t 5 (A 10 0 0)) 42 t 7 (A 14 0 5) 42 t 0 = nI t := by
        rw [← tn t (by omega)]; simp [sm_u]
      rw [hA34, mm_bf nbl, T34_68, mm_bf g0, mm_bf g1, ta, mm_bt n1, mm_ck ti, tc, et1, hr, mm_bf t00]; rfl
    obtain ⟨a, A', B', u1, u2, u3, u4, u5, u6, u7⟩ := ih (k + 1) (did + 1) y' _ _ (sm_u (aA A t (nI 1) (nI v) (nI q) (f8 - nI (wtide B q (h + k)))) 10 0 14 0) (aB0 B t (nI 1) (nI v) (nI q) (f8 - nI (wtide B q (h + k)))) (by omega) rfl h24 (J_thg_add0 hT hD tb es (by omega) hs (by omega) (by omega) hv hq ⟨g0, g1⟩) (J_tel_add0 hTel tb (by omega) hC _ _ _ _) hC hD hS es hP hP3 (.inr ek) hy' (by
      show nI (t + 1) = nI (t0 + (did + 1))
      rw [← et1, ← ta, ht, nI_1]; rfl)
    refine ⟨a, A', B', fun d Q o1 => ?_, fun d Q o1 o11 o12 o13 o14 o15 o16 => ?_, u3, u4, u5, Fr_t (show Fr PA_ln A (sm_u (aA A t (nI 1) (nI v) (nI q) (f8 - nI (wtide B q (h + k)))) 10 0 14 0) from Fr_u (Fr_u (Fr_u (Fr_u (Fr_u (Fr_u (Fr_u (Fr_u (Fr_r _ _) rfl) rfl) rfl) rfl) rfl) rfl) rfl) rfl) u6, Fr_t (show Fr PB_ln B (aB0 B t (nI 1) (nI v) (nI q) (f8 - nI (wtide B q (h + k)))) from Fr_u (Fr_u (Fr_u (Fr_u (Fr_u (Fr_u (Fr_u (Fr_u (Fr_u (Fr_u (Fr_r _ _) rfl) rfl) rfl) rfl) rfl) rfl) rfl) rfl) rfl) rfl) u7⟩
    · rw [T32_107, mm_bt kn, mm_bt h0, hA, sm_push_s, gy, ek1]; exact u1 d Q o1
    · rw [hB, T180_258, mm_bf g0, mm_bf g1, mm_ck mm_zb1, tb, mm_bf n2]
      simp only [mm_ck ti, tc, et1, ek1, ed1]
      have h4 : dir = 0 ∨ dir = 1 ∨ dir = 2 ∨ dir = 3 := by omega
      rcases h4 with rfl | rfl | rfl | rfl
      · rw [mm_bf (by decide), mm_bf (by decide), mm_bt (by decide)]; exact u2 d Q _ _ _ _ _ _ _
      · rw [mm_bt (by decide), mm_bf (by decide), mm_bf (by decide)]; exact u2 d Q _ _ _ _ _ _ _
      · rw [mm_bf (by decide), mm_bf (by decide), mm_bf (by decide), mm_bt (by decide)]; exact u2 d Q _ _ _ _ _ _ _
      · rw [mm_bf (by decide), mm_bt (by decide), mm_bf (by decide), mm_bf (by decide)]; exact u2 d Q _ _ _ _ _ _ _
