/-! the law: its loop (by program: genlaw.py) -/
theorem step_of {n nL : Nat} {M : sm_M} (hI : InvP n M M) (CW RW' : Nat → sm_M → sm_Q → Prop) (q : ∀ A B, InvP n A B → ∃ r A' B', (∀ d Q, CW d A Q = Q (vi r) (sm_G0 nL) A') ∧ (∀ d Q, RW' d B Q = Q (vi r) (sm_G0 nL) B') ∧ Res n A B A' B') : ∃ r M1 M2, (∀ d Q, CW d M Q = Q (vi r) (sm_G0 nL) M1) ∧ (∀ d Q, RW' d M1 Q = Q (vi r) (sm_G0 nL) M2) ∧ (∀ i k, M1 0 i k = M 0 i k) ∧ InvP (n + 1) M2 M2 := by
  obtain ⟨r1, A1, B1, c1, -, h1⟩ := q M M hI
  have f1 := h1.2.1
  obtain ⟨r, A2, B2, c2, d2, h2⟩ := q M A1 (InvP_c hI (Fr_r _ _) f1)
  have e := (c1 0 (fun x g m => x = vi r1 ∧ m = A1)).symm.trans (c2 0 (fun x g m => x = vi r1 ∧ m = A1))
  have e2 : vi r = vi r1 ∧ A2 = A1 := e.mp ⟨rfl, rfl⟩
  obtain ⟨e3, e4⟩ := e2
  have e5 : r = r1 := by cases e3; rfl
  subst e5; subst e4
  exact ⟨r, A2, B2, c2, d2, fun i k => f1 0 i k rfl, InvP_c h2.1 h2.2.2 (Fr_r _ _)⟩
theorem BL_18 (d nL : Nat) (x3 : Int32) (M : sm_M) (Q : sm_Q) : sm_W d 0 18 [vo 0, vo 10, vo 11, vi x3] [] (sm_G0 nL) M Q = sm_Br (decide (Int32.ofNat nL - 8 < x3)) (sm_W d 0 1877 [vo 0, vo 10, vo 11, vi x3] [] (sm_G0 nL) M Q) (sm_W d 0 27 [vo 0, vo 10, vo 11, vi x3] [] (sm_G0 nL) M Q) := (sm_I_eq 6 _ _ _ _ _ _ _ _).trans rfl
theorem BL_27 (d nL : Nat) (x3 : Int32) (M : sm_M) (Q : sm_Q) : sm_W d 0 27 [vo 0, vo 10, vo 11, vi x3] [] (sm_G0 nL) M Q = sm_Ck (sm_in x3 nL) (sm_swP (M 0 0 x3.toNatClampNeg &&& 63) (fun pc' => sm_W d 0 pc' [vo 0, vo 10, vo 11, vi x3] [] (sm_G0 nL) M Q) (sm_sw 0) (sm_sd 0)) := (sm_I_eq 6 _ _ _ _ _ _ _ _).trans rfl
theorem BL_1871 (d nL : Nat) (x3 : Int32) (M : sm_M) (Q : sm_Q) : sm_W d 0 1871 [vo 0, vo 10, vo 11, vi x3] [] (sm_G0 nL) M Q = sm_W d 0 18 [vo 0, vo 10, vo 11, vi (x3 + 8)] [] (sm_G0 nL) M Q := (sm_I_eq 2 _ _ _ _ _ _ _ _).trans rfl
theorem BL_1877 (d nL : Nat) (x3 : Int32) (M : sm_M) (Q : sm_Q) : sm_W d 0 1877 [vo 0, vo 10, vo 11, vi x3] [] (sm_G0 nL) M Q = Q (vi 1) (sm_G0 nL) M := (sm_I_eq 2 _ _ _ _ _ _ _ _).trans rfl
def Lcase (n nL : Nat) (M : sm_M) (q : Nat) : Prop := ∃ M2, InvP (n + 1) M2 M2 ∧ ∀ d Q, sm_W (d + 11) 0 q [vo 0, vo 10, vo 11, vi (nI (8 * n))] [] (sm_G0 nL) M Q = sm_W (d + 11) 0 1871 [vo 0, vo 10, vo 11, vi (nI (8 * n))] [] (sm_G0 nL) M2 Q
theorem BL_236 (d nL : Nat) (x3 : Int32) (M : sm_M) (Q : sm_Q) : sm_W (d + 1) 0 236 [vo 0, vo 10, vo 11, vi x3] [] (sm_G0 nL) M Q = sm_Ck (sm_in (x3 + 1) nL) (sm_W d 14 0 [vo 10, vi (M 0 0 (x3 + 1).toNatClampNeg)] [] (sm_G0 nL) M (fun r G1 M1 => sm_W (d + 1) 0 245 [vo 0, vo 10, vo 11, vi x3] (sm_push r []) G1 M1 Q)) := (sm_I_eq 7 _ _ _ _ _ _ _ _).trans rfl
theorem BL_245 (d nL : Nat) (x3 s1 : Int32) (M : sm_M) (Q : sm_Q) : sm_W (d + 1) 0 245 [vo 0, vo 10, vo 11, vi x3] [Sum.inl s1] (sm_G0 nL) M Q = sm_Ck (sm_in (x3 + 1) nL) (sm_W d 165 0 [vo 11, vi (M 0 0 (x3 + 1).toNatClampNeg)] [] (sm_G0 nL) M (fun r G1 M1 => sm_W (d + 1) 0 254 [vo 0, vo 10, vo 11, vi x3] (sm_push r [Sum.inl s1]) G1 M1 Q)) := (sm_I_eq 7 _ _ _ _ _ _ _ _).trans rfl
theorem BL_254 (d nL : Nat) (x3 s1 s2 : Int32) (M : sm_M) (Q : sm_Q) : sm_W d 0 254 [vo 0, vo 10, vo 11, vi x3] [Sum.inl s2, Sum.inl s1] (sm_G0 nL) M Q = sm_Br (decide (s1 = s2)) (sm_W d 0 1871 [vo 0, vo 10, vo 11, vi x3] [] (sm_G0 nL) M Q) (sm_W d 0 257 [vo 0, vo 10, vo 11, vi x3] [] (sm_G0 nL) M Q) := (sm_I_eq 1 _ _ _ _ _ _ _ _).trans rfl
theorem Lc_236 {n nL : Nat} {M : sm_M} (hI : InvP n M M) (hn : n < 2 ^ 29) (hL : nL < 2 ^ 31) (h8 : 8 * n + 8 ≤ nL) : Lcase n nL M 236 := by
  obtain ⟨r, M1, M2, c, e, f0, hI2⟩ := step_of (nL := nL) hI (fun d A Q => sm_W d 14 0 [vo 10, vi (M 0 0 (8 * n + 1))] [] (sm_G0 nL) A Q) (fun d B Q => sm_W (d + 1) 165 0 [vo 11, vi (M 0 0 (8 * n + 1))] [] (sm_G0 nL) B Q) (fun A B h => q14 h hn (M 0 0 (8 * n + 1)) nL)
  have a1 : nI (8 * n) + 1 = nI (8 * n + 1) := by show nI (8 * n) + nI 1 = _; rw [nI_add]
  have b1 : sm_in (nI (8 * n + 1)) nL = true := mm_in (by omega) hL
  have c1 : (nI (8 * n + 1)).toNatClampNeg = 8 * n + 1 := nI_clamp (by omega)
  refine ⟨M2, hI2, fun d Q => ?_⟩
  rw [BL_236, a1, mm_ck b1, c1]
  refine (c (d + 10) _).trans ?_
  rw [sm_push_s, BL_245, a1, mm_ck b1, c1, f0 0 (8 * n + 1)]
  refine (e (d + 9) _).trans ?_
  rw [sm_push_s, BL_254, mm_bt rfl]
theorem BL_259 (d nL : Nat) (x3 : Int32) (M : sm_M) (Q : sm_Q) : sm_W (d + 1) 0 259 [vo 0, vo 10, vo 11, vi x3] [] (sm_G0 nL) M Q = sm_Ck (sm_in (x3 + 1) nL) (sm_Ck (sm_in (x3 + 2) nL) (sm_Ck (sm_in (x3 + 3) nL) (sm_W d 15 0 [vo 10, vi (M 0 0 (x3 + 1).toNatClampNeg), vi (M 0 0 (x3 + 2).toNatClampNeg), vi (M 0 0 (x3 + 3).toNatClampNeg)] [] (sm_G0 nL) M (fun r G1 M1 => sm_W (d + 1) 0 278 [vo 0, vo 10, vo 11, vi x3] (sm_push r []) G1 M1 Q)))) := (sm_I_eq 17 _ _ _ _ _ _ _ _).trans rfl
theorem BL_278 (d nL : Nat) (x3 s1 : Int32) (M : sm_M) (Q : sm_Q) : sm_W (d + 1) 0 278 [vo 0, vo 10, vo 11, vi x3] [Sum.inl s1] (sm_G0 nL) M Q = sm_Ck (sm_in (x3 + 1) nL) (sm_Ck (sm_in (x3 + 2) nL) (sm_Ck (sm_in (x3 + 3) nL) (sm_W d 167 0 [vo 11, vi (M 0 0 (x3 + 1).toNatClampNeg), vi (M 0 0 (x3 + 2).toNatClampNeg), vi (M 0 0 (x3 + 3).toNatClampNeg)] [] (sm_G0 nL) M (fun r G1 M1 => sm_W (d + 1) 0 297 [vo 0, vo 10, vo 11, vi x3] (sm_push r [Sum.inl s1]) G1 M1 Q)))) := (sm_I_eq 17 _ _ _ _ _ _ _ _).trans rfl
theorem BL_297 (d nL : Nat) (x3 s1 s2 : Int32) (M : sm_M) (Q : sm_Q) : sm_W d 0 297 [vo 0, vo 10, vo 11, vi x3] [Sum.inl s2, Sum.inl s1] (sm_G0 nL) M Q = sm_Br (decide (s1 = s2)) (sm_W d 0 1871 [vo 0, vo 10, vo 11, vi x3] [] (sm_G0 nL) M Q) (sm_W d 0 300 [vo 0, vo 10, vo 11, vi x3] [] (sm_G0 nL) M Q) := (sm_I_eq 1 _ _ _ _ _ _ _ _).trans rfl
theorem Lc_259 {n nL : Nat} {M : sm_M} (hI : InvP n M M) (hn : n < 2 ^ 29) (hL : nL < 2 ^ 31) (h8 : 8 * n + 8 ≤ nL) : Lcase n nL M 259 := by
  obtain ⟨r, M1, M2, c, e, f0, hI2⟩ := step_of (nL := nL) hI (fun d A Q => sm_W (d + 1) 15 0 [vo 10, vi (M 0 0 (8 * n + 1)), vi (M 0 0 (8 * n + 2)), vi (M 0 0 (8 * n + 3))] [] (sm_G0 nL) A Q) (fun d B Q => sm_W (d + 1) 167 0 [vo 11, vi (M 0 0 (8 * n + 1)), vi (M 0 0 (8 * n + 2)), vi (M 0 0 (8 * n + 3))] [] (sm_G0 nL) B Q) (fun A B h => q15 h hn (M 0 0 (8 * n + 1)) (M 0 0 (8 * n + 2)) (M 0 0 (8 * n + 3)) nL)
  have a1 : nI (8 * n) + 1 = nI (8 * n + 1) := by show nI (8 * n) + nI 1 = _; rw [nI_add]
  have b1 : sm_in (nI (8 * n + 1)) nL = true := mm_in (by omega) hL
  have c1 : (nI (8 * n + 1)).toNatClampNeg = 8 * n + 1 := nI_clamp (by omega)
  have a2 : nI (8 * n) + 2 = nI (8 * n + 2) := by show nI (8 * n) + nI 2 = _; rw [nI_add]
  have b2 : sm_in (nI (8 * n + 2)) nL = true := mm_in (by omega) hL
  have c2 : (nI (8 * n + 2)).toNatClampNeg = 8 * n + 2 := nI_clamp (by omega)
  have a3 : nI (8 * n) + 3 = nI (8 * n + 3) := by show nI (8 * n) + nI 3 = _; rw [nI_add]
  have b3 : sm_in (nI (8 * n + 3)) nL = true := mm_in (by omega) hL
  have c3 : (nI (8 * n + 3)).toNatClampNeg = 8 * n + 3 := nI_clamp (by omega)
  refine ⟨M2, hI2, fun d Q => ?_⟩
  rw [BL_259, a1, a2, a3, mm_ck b1, mm_ck b2, mm_ck b3, c1, c2, c3]
  refine (c (d + 9) _).trans ?_
  rw [sm_push_s, BL_278, a1, a2, a3, mm_ck b1, mm_ck b2, mm_ck b3, c1, c2, c3, f0 0 (8 * n + 1), f0 0 (8 * n + 2), f0 0 (8 * n + 3)]
  refine (e (d + 9) _).trans ?_
  rw [sm_push_s, BL_297, mm_bt rfl]
theorem BL_302 (d nL : Nat) (x3 : Int32) (M : sm_M) (Q : sm_Q) : sm_W (d + 1) 0 302 [vo 0, vo 10, vo 11, vi x3] [] (sm_G0 nL) M Q = sm_Ck (sm_in (x3 + 1) nL) (sm_Ck (sm_in (x3 + 2) nL) (sm_Ck (sm_in (x3 + 3) nL) (sm_Ck (sm_in (x3 + 4) nL) (sm_W d 17 0 [vo 10, vi (M 0 0 (x3 + 1).toNatClampNeg), vi (M 0 0 (x3 + 2).toNatClampNeg), vi (M 0 0 (x3 + 3).toNatClampNeg), vi (M 0 0 (x3 + 4).toNatClampNeg)] [] (sm_G0 nL) M (fun r G1 M1 => sm_W (d + 1) 0 326 [vo 0, vo 10, vo 11, vi x3] (sm_push r []) G1 M1 Q))))) := (sm_I_eq 22 _ _ _ _ _ _ _ _).trans rfl
theorem BL_326 (d nL : Nat) (x3 s1 : Int32) (M : sm_M) (Q : sm_Q) : sm_W (d + 1) 0 326 [vo 0, vo 10, vo 11, vi x3] [Sum.inl s1] (sm_G0 nL) M Q = sm_Ck (sm_in (x3 + 1) nL) (sm_Ck (sm_in (x3 + 2) nL) (sm_Ck (sm_in (x3 + 3) nL) (sm_Ck (sm_in (x3 + 4) nL) (sm_W d 168 0 [vo 11, vi (M 0 0 (x3 + 1).toNatClampNeg), vi (M 0 0 (x3 + 2).toNatClampNeg), vi (M 0 0 (x3 + 3).toNatClampNeg), vi (M 0 0 (x3 + 4).toNatClampNeg), none] [] (sm_G0 nL) M (fun r G1 M1 => sm_W (d + 1) 0 350 [vo 0, vo 10, vo 11, vi x3] (sm_push r [Sum.inl s1]) G1 M1 Q))))) := (sm_I_eq 22 _ _ _ _ _ _ _ _).trans rfl
theorem BL_350 (d nL : Nat) (x3 s1 s2 : Int32) (M : sm_M) (Q : sm_Q) : sm_W d 0 350 [vo 0, vo 10, vo 11, vi x3] [Sum.inl s2, Sum.inl s1] (sm_G0 nL) M Q = sm_Br (decide (s1 = s2)) (sm_W d 0 1871 [vo 0, vo 10, vo 11, vi x3] [] (sm_G0 nL) M Q) (sm_W d 0 353 [vo 0, vo 10, vo 11, vi x3] [] (sm_G0 nL) M Q) := (sm_I_eq 1 _ _ _ _ _ _ _ _).trans rfl
theorem Lc_302 {n nL : Nat} {M : sm_M} (hI : InvP n M M) (hn : n < 2 ^ 29) (hL : nL < 2 ^ 31) (h8 : 8 * n + 8 ≤ nL) : Lcase n nL M 302 := by
  obtain ⟨r, M1, M2, c, e, f0, hI2⟩ := step_of (nL := nL) hI (fun d A Q => sm_W (d + 2) 17 0 [vo 10, vi (M 0 0 (8 * n + 1)), vi (M 0 0 (8 * n + 2)), vi (M 0 0 (8 * n + 3)), vi (M 0 0 (8 * n + 4))] [] (sm_G0 nL) A Q) (fun d B Q => sm_W (d + 1) 168 0 [vo 11, vi (M 0 0 (8 * n + 1)), vi (M 0 0 (8 * n + 2)), vi (M 0 0 (8 * n + 3)), vi (M 0 0 (8 * n + 4)), none] [] (sm_G0 nL) B Q) (fun A B h => q17 h hn (M 0 0 (8 * n + 1)) (M 0 0 (8 * n + 2)) (M 0 0 (8 * n + 3)) (M 0 0 (8 * n + 4)) nL)
  have a1 : nI (8 * n) + 1 = nI (8 * n + 1) := by show nI (8 * n) + nI 1 = _; rw [nI_add]
  have b1 : sm_in (nI (8 * n + 1)) nL = true := mm_in (by omega) hL
  have c1 : (nI (8 * n + 1)).toNatClampNeg = 8 * n + 1 := nI_clamp (by omega)
  have a2 : nI (8 * n) + 2 = nI (8 * n + 2) := by show nI (8 * n) + nI 2 = _; rw [nI_add]
  have b2 : sm_in (nI (8 * n + 2)) nL = true := mm_in (by omega) hL
  have c2 : (nI (8 * n + 2)).toNatClampNeg = 8 * n + 2 := nI_clamp (by omega)
  have a3 : nI (8 * n) + 3 = nI (8 * n + 3) := by show nI (8 * n) + nI 3 = _; rw [nI_add]
  have b3 : sm_in (nI (8 * n + 3)) nL = true := mm_in (by omega) hL
  have c3 : (nI (8 * n + 3)).toNatClampNeg = 8 * n + 3 := nI_clamp (by omega)
  have a4 : nI (8 * n) + 4 = nI (8 * n + 4) := by show nI (8 * n) + nI 4 = _; rw [nI_add]
  have b4 : sm_in (nI (8 * n + 4)) nL = true := mm_in (by omega) hL
  have c4 : (nI (8 * n + 4)).toNatClampNeg = 8 * n + 4 := nI_clamp (by omega)
  refine ⟨M2, hI2, fun d Q => ?_⟩
  rw [BL_302, a1, a2, a3, a4, mm_ck b1, mm_ck b2, mm_ck b3, mm_ck b4, c1, c2, c3, c4]
  refine (c (d + 8) _).trans ?_
  rw [sm_push_s, BL_326, a1, a2, a3, a4, mm_ck b1, mm_ck b2, mm_ck b3, mm_ck b4, c1, c2, c3, c4, f0 0 (8 * n + 1), f0 0 (8 * n + 2), f0 0 (8 * n + 3), f0 0 (8 * n + 4)]
  refine (e (d + 9) _).trans ?_
  rw [sm_push_s, BL_350, mm_bt rfl]
theorem BL_355 (d nL : Nat) (x3 : Int32) (M : sm_M) (Q : sm_Q) : sm_W (d + 1) 0 355 [vo 0, vo 10, vo 11, vi x3] [] (sm_G0 nL) M Q = sm_Ck (sm_in (x3 + 1) nL) (sm_Ck (sm_in (x3 + 2) nL) (sm_W d 20 0 [vo 10, vi (M 0 0 (x3 + 1).toNatClampNeg), vi (M 0 0 (x3 + 2).toNatClampNeg), none] [] (sm_G0 nL) M (fun r G1 M1 => sm_W (d + 1) 0 369 [vo 0, vo 10, vo 11, vi x3] (sm_push r []) G1 M1 Q))) := (sm_I_eq 12 _ _ _ _ _ _ _ _).trans rfl
theorem BL_369 (d nL : Nat) (x3 s1 : Int32) (M : sm_M) (Q : sm_Q) : sm_W (d + 1) 0 369 [vo 0, vo 10, vo 11, vi x3] [Sum.inl s1] (sm_G0 nL) M Q = sm_Ck (sm_in (x3 + 1) nL) (sm_Ck (sm_in (x3 + 2) nL) (sm_W d 169 0 [vo 11, vi (M 0 0 (x3 + 1).toNatClampNeg), vi (M 0 0 (x3 + 2).toNatClampNeg), none] [] (sm_G0 nL) M (fun r G1 M1 => sm_W (d + 1) 0 383 [vo 0, vo 10, vo 11, vi x3] (sm_push r [Sum.inl s1]) G1 M1 Q))) := (sm_I_eq 12 _ _ _ _ _ _ _ _).trans rfl
theorem BL_383 (d nL : Nat) (x3 s1 s2 : Int32) (M : sm_M) (Q : sm_Q) : sm_W d 0 383 [vo 0, vo 10, vo 11, vi x3] [Sum.inl s2, Sum.inl s1] (sm_G0 nL) M Q = sm_Br (decide (s1 = s2)) (sm_W d 0 1871 [vo 0, vo 10, vo 11, vi x3] [] (sm_G0 nL) M Q) (sm_W d 0 386 [vo 0, vo 10, vo 11, vi x3] [] (sm_G0 nL) M Q) := (sm_I_eq 1 _ _ _ _ _ _ _ _).trans rfl
theorem Lc_355 {n nL : Nat} {M : sm_M} (hI : InvP n M M) (hn : n < 2 ^ 29) (hL : nL < 2 ^ 31) (h8 : 8 * n + 8 ≤ nL) : Lcase n nL M 355 := by
  obtain ⟨r, M1, M2, c, e, f0, hI2⟩ := step_of (nL := nL) hI (fun d A Q => sm_W (d + 1) 20 0 [vo 10, vi (M 0 0 (8 * n + 1)), vi (M 0 0 (8 * n + 2)), none] [] (sm_G0 nL) A Q) (fun d B Q => sm_W (d + 2) 169 0 [vo 11, vi (M 0 0 (8 * n + 1)), vi (M 0 0 (8 * n + 2)), none] [] (sm_G0 nL) B Q) (fun A B h => q20 h hn (M 0 0 (8 * n + 1)) (M 0 0 (8 * n + 2)) nL)
  have a1 : nI (8 * n) + 1 = nI (8 * n + 1) := by show nI (8 * n) + nI 1 = _; rw [nI_add]
  have b1 : sm_in (nI (8 * n + 1)) nL = true := mm_in (by omega) hL
  have c1 : (nI (8 * n + 1)).toNatClampNeg = 8 * n + 1 := nI_clamp (by omega)
  have a2 : nI (8 * n) + 2 = nI (8 * n + 2) := by show nI (8 * n) + nI 2 = _; rw [nI_add]
  have b2 : sm_in (nI (8 * n + 2)) nL = true := mm_in (by omega) hL
  have c2 : (nI (8 * n + 2)).toNatClampNeg = 8 * n + 2 := nI_clamp (by omega)
  refine ⟨M2, hI2, fun d Q => ?_⟩
  rw [BL_355, a1, a2, mm_ck b1, mm_ck b2, c1, c2]
  refine (c (d + 9) _).trans ?_
  rw [sm_push_s, BL_369, a1, a2, mm_ck b1, mm_ck b2, c1, c2, f0 0 (8 * n + 1), f0 0 (8 * n + 2)]
  refine (e (d + 8) _).trans ?_
  rw [sm_push_s, BL_383, mm_bt rfl]
theorem BL_388 (d nL : Nat) (x3 : Int32) (M : sm_M) (Q : sm_Q) : sm_W (d + 1) 0 388 [vo 0, vo 10, vo 11, vi x3] [] (sm_G0 nL) M Q = sm_Ck (sm_in (x3 + 1) nL) (sm_Ck (sm_in (x3 + 2) nL) (sm_W d 22 0 [vo 10, vi (M 0 0 (x3 + 1).toNatClampNeg), vi (M 0 0 (x3 + 2).toNatClampNeg)] [] (sm_G0 nL) M (fun r G1 M1 => sm_W (d + 1) 0 402 [vo 0, vo 10, vo 11, vi x3] (sm_push r []) G1 M1 Q))) := (sm_I_eq 12 _ _ _ _ _ _ _ _).trans rfl
theorem BL_402 (d nL : Nat) (x3 s1 : Int32) (M : sm_M) (Q : sm_Q) : sm_W (d + 1) 0 402 [vo 0, vo 10, vo 11, vi x3] [Sum.inl s1] (sm_G0 nL) M Q = sm_Ck (sm_in (x3 + 1) nL) (sm_Ck (sm_in (x3 + 2) nL) (sm_W d 171 0 [vo 11, vi (M 0 0 (x3 + 1).toNatClampNeg), vi (M 0 0 (x3 + 2).toNatClampNeg)] [] (sm_G0 nL) M (fun r G1 M1 => sm_W (d + 1) 0 416 [vo 0, vo 10, vo 11, vi x3] (sm_push r [Sum.inl s1]) G1 M1 Q))) := (sm_I_eq 12 _ _ _ _ _ _ _ _).trans rfl
theorem BL_416 (d nL : Nat) (x3 s1 s2 : Int32) (M : sm_M) (Q : sm_Q) : sm_W d 0 416 [vo 0, vo 10, vo 11, vi x3] [Sum.inl s2, Sum.inl s1] (sm_G0 nL) M Q = sm_Br (decide (s1 = s2)) (sm_W d 0 1871 [vo 0, vo 10, vo 11, vi x3] [] (sm_G0 nL) M Q) (sm_W d 0 419 [vo 0, vo 10, vo 11, vi x3] [] (sm_G0 nL) M Q) := (sm_I_eq 1 _ _ _ _ _ _ _ _).trans rfl
theorem Lc_388 {n nL : Nat} {M : sm_M} (hI : InvP n M M) (hn : n < 2 ^ 29) (hL : nL < 2 ^ 31) (h8 : 8 * n + 8 ≤ nL) : Lcase n nL M 388 := by
  obtain ⟨r, M1, M2, c, e, f0, hI2⟩ := step_of (nL := nL) hI (fun d A Q => sm_W (d + 3) 22 0 [vo 10, vi (M 0 0 (8 * n + 1)), vi (M 0 0 (8 * n + 2))] [] (sm_G0 nL) A Q) (fun d B Q => sm_W (d + 2) 171 0 [vo 11, vi (M 0 0 (8 * n + 1)), vi (M 0 0 (8 * n + 2))] [] (sm_G0 nL) B Q) (fun A B h => q22 h hn (M 0 0 (8 * n + 1)) (M 0 0 (8 * n + 2)) nL)
  have a1 : nI (8 * n) + 1 = nI (8 * n + 1) := by show nI (8 * n) + nI 1 = _; rw [nI_add]
  have b1 : sm_in (nI (8 * n + 1)) nL = true := mm_in (by omega) hL
  have c1 : (nI (8 * n + 1)).toNatClampNeg = 8 * n + 1 := nI_clamp (by omega)
  have a2 : nI (8 * n) + 2 = nI (8 * n + 2) := by show nI (8 * n) + nI 2 = _; rw [nI_add]
  have b2 : sm_in (nI (8 * n + 2)) nL = true := mm_in (by omega) hL
  have c2 : (nI (8 * n + 2)).toNatClampNeg = 8 * n + 2 := nI_clamp (by omega)
  refine ⟨M2, hI2, fun d Q => ?_⟩
  rw [BL_388, a1, a2, mm_ck b1, mm_ck b2, c1, c2]
  refine (c (d + 7) _).trans ?_
  rw [sm_push_s, BL_402, a1, a2, mm_ck b1, mm_ck b2, c1, c2, f0 0 (8 * n + 1), f0 0 (8 * n + 2)]
  refine (e (d + 8) _).trans ?_
  rw [sm_push_s, BL_416, mm_bt rfl]
theorem BL_421 (d nL : Nat) (x3 : Int32) (M : sm_M) (Q : sm_Q) : sm_W (d + 1) 0 421 [vo 0, vo 10, vo 11, vi x3] [] (sm_G0 nL) M Q = sm_Ck (sm_in (x3 + 1) nL) (sm_Ck (sm_in (x3 + 2) nL) (sm_W d 27 0 [vo 10, vi (M 0 0 (x3 + 1).toNatClampNeg), vi (M 0 0 (x3 + 2).toNatClampNeg), none] [] (sm_G0 nL) M (fun r G1 M1 => sm_W (d + 1) 0 435 [vo 0, vo 10, vo 11, vi x3] (sm_push r []) G1 M1 Q))) := (sm_I_eq 12 _ _ _ _ _ _ _ _).trans rfl
theorem BL_435 (d nL : Nat) (x3 s1 : Int32) (M : sm_M) (Q : sm_Q) : sm_W (d + 1) 0 435 [vo 0, vo 10, vo 11, vi x3] [Sum.inl s1] (sm_G0 nL) M Q = sm_Ck (sm_in (x3 + 1) nL) (sm_Ck (sm_in (x3 + 2) nL) (sm_W d 175 0 [vo 11, vi (M 0 0 (x3 + 1).toNatClampNeg), vi (M 0 0 (x3 + 2).toNatClampNeg), none] [] (sm_G0 nL) M (fun r G1 M1 => sm_W (d + 1) 0 449 [vo 0, vo 10, vo 11, vi x3] (sm_push r [Sum.inl s1]) G1 M1 Q))) := (sm_I_eq 12 _ _ _ _ _ _ _ _).trans rfl
theorem BL_449 (d nL : Nat) (x3 s1 s2 : Int32) (M : sm_M) (Q : sm_Q) : sm_W d 0 449 [vo 0, vo 10, vo 11, vi x3] [Sum.inl s2, Sum.inl s1] (sm_G0 nL) M Q = sm_Br (decide (s1 = s2)) (sm_W d 0 1871 [vo 0, vo 10, vo 11, vi x3] [] (sm_G0 nL) M Q) (sm_W d 0 452 [vo 0, vo 10, vo 11, vi x3] [] (sm_G0 nL) M Q) := (sm_I_eq 1 _ _ _ _ _ _ _ _).trans rfl
theorem Lc_421 {n nL : Nat} {M : sm_M} (hI : InvP n M M) (hn : n < 2 ^ 29) (hL : nL < 2 ^ 31) (h8 : 8 * n + 8 ≤ nL) : Lcase n nL M 421 := by
  obtain ⟨r, M1, M2, c, e, f0, hI2⟩ := step_of (nL := nL) hI (fun d A Q => sm_W (d + 1) 27 0 [vo 10, vi (M 0 0 (8 * n + 1)), vi (M 0 0 (8 * n + 2)), none] [] (sm_G0 nL) A Q) (fun d B Q => sm_W (d + 2) 175 0 [vo 11, vi (M 0 0 (8 * n + 1)), vi (M 0 0 (8 * n + 2)), none] [] (sm_G0 nL) B Q) (fun A B h => q27 h hn (M 0 0 (8 * n + 1)) (M 0 0 (8 * n + 2)) nL)
  have a1 : nI (8 * n) + 1 = nI (8 * n + 1) := by show nI (8 * n) + nI 1 = _; rw [nI_add]
  have b1 : sm_in (nI (8 * n + 1)) nL = true := mm_in (by omega) hL
  have c1 : (nI (8 * n + 1)).toNatClampNeg = 8 * n + 1 := nI_clamp (by omega)
  have a2 : nI (8 * n) + 2 = nI (8 * n + 2) := by show nI (8 * n) + nI 2 = _; rw [nI_add]
  have b2 : sm_in (nI (8 * n + 2)) nL = true := mm_in (by omega) hL
  have c2 : (nI (8 * n + 2)).toNatClampNeg = 8 * n + 2 := nI_clamp (by omega)
  refine ⟨M2, hI2, fun d Q => ?_⟩
  rw [BL_421, a1, a2, mm_ck b1, mm_ck b2, c1, c2]
  refine (c (d + 9) _).trans ?_
  rw [sm_push_s, BL_435, a1, a2, mm_ck b1, mm_ck b2, c1, c2, f0 0 (8 * n + 1), f0 0 (8 * n + 2)]
  refine (e (d + 8) _).trans ?_
  rw [sm_push_s, BL_449, mm_bt rfl]
theorem BL_454 (d nL : Nat) (x3 : Int32) (M : sm_M) (Q : sm_Q) : sm_W (d + 1) 0 454 [vo 0, vo 10, vo 11, vi x3] [] (sm_G0 nL) M Q = sm_Ck (sm_in (x3 + 1) nL) (sm_Ck (sm_in (x3 + 2) nL) (sm_Ck (sm_in (x3 + 3) nL) (sm_Ck (sm_in (x3 + 4) nL) (sm_W d 28 0 [vo 10, vi (M 0 0 (x3 + 1).toNatClampNeg), vi (M 0 0 (x3 + 2).toNatClampNeg), vi (M 0 0 (x3 + 3).toNatClampNeg), vi (M 0 0 (x3 + 4).toNatClampNeg)] [] (sm_G0 nL) M (fun r G1 M1 => sm_W (d + 1) 0 478 [vo 0, vo 10, vo 11, vi x3] (sm_push r []) G1 M1 Q))))) := (sm_I_eq 22 _ _ _ _ _ _ _ _).trans rfl
theorem BL_478 (d nL : Nat) (x3 s1 : Int32) (M : sm_M) (Q : sm_Q) : sm_W (d + 1) 0 478 [vo 0, vo 10, vo 11, vi x3] [Sum.inl s1] (sm_G0 nL) M Q = sm_Ck (sm_in (x3 + 1) nL) (sm_Ck (sm_in (x3 + 2) nL) (sm_Ck (sm_in (x3 + 3) nL) (sm_Ck (sm_in (x3 + 4) nL) (sm_W d 176 0 [vo 11, vi (M 0 0 (x3 + 1).toNatClampNeg), vi (M 0 0 (x3 + 2).toNatClampNeg), vi (M 0 0 (x3 + 3).toNatClampNeg), vi (M 0 0 (x3 + 4).toNatClampNeg)] [] (sm_G0 nL) M (fun r G1 M1 => sm_W (d + 1) 0 502 [vo 0, vo 10, vo 11, vi x3] (sm_push r [Sum.inl s1]) G1 M1 Q))))) := (sm_I_eq 22 _ _ _ _ _ _ _ _).trans rfl
theorem BL_502 (d nL : Nat) (x3 s1 s2 : Int32) (M : sm_M) (Q : sm_Q) : sm_W d 0 502 [vo 0, vo 10, vo 11, vi x3] [Sum.inl s2, Sum.inl s1] (sm_G0 nL) M Q = sm_Br (decide (s1 = s2)) (sm_W d 0 1871 [vo 0, vo 10, vo 11, vi x3] [] (sm_G0 nL) M Q) (sm_W d 0 505 [vo 0, vo 10, vo 11, vi x3] [] (sm_G0 nL) M Q) := (sm_I_eq 1 _ _ _ _ _ _ _ _).trans rfl
theorem Lc_454 {n nL : Nat} {M : sm_M} (hI : InvP n M M) (hn : n < 2 ^ 29) (hL : nL < 2 ^ 31) (h8 : 8 * n + 8 ≤ nL) : Lcase n nL M 454 := by
  obtain ⟨r, M1, M2, c, e, f0, hI2⟩ := step_of (nL := nL) hI (fun d A Q => sm_W (d + 3) 28 0 [vo 10, vi (M 0 0 (8 * n + 1)), vi (M 0 0 (8 * n + 2)), vi (M 0 0 (8 * n + 3)), vi (M 0 0 (8 * n + 4))] [] (sm_G0 nL) A Q) (fun d B Q => sm_W (d + 2) 176 0 [vo 11, vi (M 0 0 (8 * n + 1)), vi (M 0 0 (8 * n + 2)), vi (M 0 0 (8 * n + 3)), vi (M 0 0 (8 * n + 4))] [] (sm_G0 nL) B Q) (fun A B h => q28 h hn (M 0 0 (8 * n + 1)) (M 0 0 (8 * n + 2)) (M 0 0 (8 * n + 3)) (M 0 0 (8 * n + 4)) nL)
  have a1 : nI (8 * n) + 1 = nI (8 * n + 1) := by show nI (8 * n) + nI 1 = _; rw [nI_add]
  have b1 : sm_in (nI (8 * n + 1)) nL = true := mm_in (by omega) hL
  have c1 : (nI (8 * n + 1)).toNatClampNeg = 8 * n + 1 := nI_clamp (by omega)
  have a2 : nI (8 * n) + 2 = nI (8 * n + 2) := by show nI (8 * n) + nI 2 = _; rw [nI_add]
  have b2 : sm_in (nI (8 * n + 2)) nL = true := mm_in (by omega) hL
  have c2 : (nI (8 * n + 2)).toNatClampNeg = 8 * n + 2 := nI_clamp (by omega)
  have a3 : nI (8 * n) + 3 = nI (8 * n + 3) := by show nI (8 * n) + nI 3 = _; rw [nI_add]
  have b3 : sm_in (nI (8 * n + 3)) nL = true := mm_in (by omega) hL
  have c3 : (nI (8 * n + 3)).toNatClampNeg = 8 * n + 3 := nI_clamp (by omega)
  have a4 : nI (8 * n) + 4 = nI (8 * n + 4) := by show nI (8 * n) + nI 4 = _; rw [nI_add]
  have b4 : sm_in (nI (8 * n + 4)) nL = true := mm_in (by omega) hL
  have c4 : (nI (8 * n + 4)).toNatClampNeg = 8 * n + 4 := nI_clamp (by omega)
  refine ⟨M2, hI2, fun d Q => ?_⟩
  rw [BL_454, a1, a2, a3, a4, mm_ck b1, mm_ck b2, mm_ck b3, mm_ck b4, c1, c2, c3, c4]
  refine (c (d + 7) _).trans ?_
  rw [sm_push_s, BL_478, a1, a2, a3, a4, mm_ck b1, mm_ck b2, mm_ck b3, mm_ck b4, c1, c2, c3, c4, f0 0 (8 * n + 1), f0 0 (8 * n + 2), f0 0 (8 * n + 3), f0 0 (8 * n + 4)]
  refine (e (d + 8) _).trans ?_
  rw [sm_push_s, BL_502, mm_bt rfl]
theorem BL_507 (d nL : Nat) (x3 : Int32) (M : sm_M) (Q : sm_Q) : sm_W (d + 1) 0 507 [vo 0, vo 10, vo 11, vi x3] [] (sm_G0 nL) M Q = sm_Ck (sm_in (x3 + 1) nL) (sm_Ck (sm_in (x3 + 2) nL) (sm_Ck (sm_in (x3 + 3) nL) (sm_Ck (sm_in (x3 + 4) nL) (sm_Ck (sm_in (x3 + 5) nL) (sm_Ck (sm_in (x3 + 6) nL) (sm_Ck (sm_in (x3 + 7) nL) (sm_W d 32 0 [vo 10, vi (M 0 0 (x3 + 1).toNatClampNeg), vi (M 0 0 (x3 + 2).toNatClampNeg), vi (M 0 0 (x3 + 3).toNatClampNeg), vi (M 0 0 (x3 + 4).toNatClampNeg), vi (M 0 0 (x3 + 5).toNatClampNeg), vi (M 0 0 (x3 + 6).toNatClampNeg), vi (M 0 0 (x3 + 7).toNatClampNeg), none, none, none, none] [] (sm_G0 nL) M (fun r G1 M1 => sm_W (d + 1) 0 548 [vo 0, vo 10, vo 11, vi x3] (sm_push r []) G1 M1 Q)))))))) := (sm_I_eq 37 _ _ _ _ _ _ _ _).trans rfl
theorem BL_548 (d nL : Nat) (x3 s1 : Int32) (M : sm_M) (Q : sm_Q) : sm_W (d + 1) 0 548 [vo 0, vo 10, vo 11, vi x3] [Sum.inl s1] (sm_G0 nL) M Q = sm_Ck (sm_in (x3 + 1) nL) (sm_Ck (sm_in (x3 + 2) nL) (sm_Ck (sm_in (x3 + 3) nL) (sm_Ck (sm_in (x3 + 4) nL) (sm_Ck (sm_in (x3 + 5) nL) (sm_Ck (sm_in (x3 + 6) nL) (sm_Ck (sm_in (x3 + 7) nL) (sm_W d 180 0 [vo 11, vi (M 0 0 (x3 + 1).toNatClampNeg), vi (M 0 0 (x3 + 2).toNatClampNeg), vi (M 0 0 (x3 + 3).toNatClampNeg), vi (M 0 0 (x3 + 4).toNatClampNeg), vi (M 0 0 (x3 + 5).toNatClampNeg), vi (M 0 0 (x3 + 6).toNatClampNeg), vi (M 0 0 (x3 + 7).toNatClampNeg), none, none, none, none, none, none, none, none, none, none] [] (sm_G0 nL) M (fun r G1 M1 => sm_W (d + 1) 0 589 [vo 0, vo 10, vo 11, vi x3] (sm_push r [Sum.inl s1]) G1 M1 Q)))))))) := (sm_I_eq 37 _ _ _ _ _ _ _ _).trans rfl
theorem BL_589 (d nL : Nat) (x3 s1 s2 : Int32) (M : sm_M) (Q : sm_Q) : sm_W d 0 589 [vo 0, vo 10, vo 11, vi x3] [Sum.inl s2, Sum.inl s1] (sm_G0 nL) M Q = sm_Br (decide (s1 = s2)) (sm_W d 0 1871 [vo 0, vo 10, vo 11, vi x3] [] (sm_G0 nL) M Q) (sm_W d 0 592 [vo 0, vo 10, vo 11, vi x3] [] (sm_G0 nL) M Q) := (sm_I_eq 1 _ _ _ _ _ _ _ _).trans rfl
theorem Lc_507 {n nL : Nat} {M : sm_M} (hI : InvP n M M) (hn : n < 2 ^ 29) (hL : nL < 2 ^ 31) (h8 : 8 * n + 8 ≤ nL) : Lcase n nL M 507 := by
  obtain ⟨r, M1, M2, c, e, f0, hI2⟩ := step_of (nL := nL) hI (fun d A Q => sm_W (d + 4) 32 0 [vo 10, vi (M 0 0 (8 * n + 1)), vi (M 0 0 (8 * n + 2)), vi (M 0 0 (8 * n + 3)), vi (M 0 0 (8 * n + 4)), vi (M 0 0 (8 * n + 5)), vi (M 0 0 (8 * n + 6)), vi (M 0 0 (8 * n + 7)), none, none, none, none] [] (sm_G0 nL) A Q) (fun d B Q => sm_W (d + 2) 180 0 [vo 11, vi (M 0 0 (8 * n + 1)), vi (M 0 0 (8 * n + 2)), vi (M 0 0 (8 * n + 3)), vi (M 0 0 (8 * n + 4)), vi (M 0 0 (8 * n + 5)), vi (M 0 0 (8 * n + 6)), vi (M 0 0 (8 * n + 7)), none, none, none, none, none, none, none, none, none, none] [] (sm_G0 nL) B Q) (fun A B h => q32 h hn (M 0 0 (8 * n + 1)) (M 0 0 (8 * n + 2)) (M 0 0 (8 * n + 3)) (M 0 0 (8 * n + 4)) (M 0 0 (8 * n + 5)) (M 0 0 (8 * n + 6)) (M 0 0 (8 * n + 7)) nL)
  have a1 : nI (8 * n) + 1 = nI (8 * n + 1) := by show nI (8 * n) + nI 1 = _; rw [nI_add]
  have b1 : sm_in (nI (8 * n + 1)) nL = true := mm_in (by omega) hL
  have c1 : (nI (8 * n + 1)).toNatClampNeg = 8 * n + 1 := nI_clamp (by omega)
  have a2 : nI (8 * n) + 2 = nI (8 * n + 2) := by show nI (8 * n) + nI 2 = _; rw [nI_add]
  have b2 : sm_in (nI (8 * n + 2)) nL = true := mm_in (by omega) hL
  have c2 : (nI (8 * n + 2)).toNatClampNeg = 8 * n + 2 := nI_clamp (by omega)
  have a3 : nI (8 * n) + 3 = nI (8 * n + 3) := by show nI (8 * n) + nI 3 = _; rw [nI_add]
  have b3 : sm_in (nI (8 * n + 3)) nL = true := mm_in (by omega) hL
  have c3 : (nI (8 * n + 3)).toNatClampNeg = 8 * n + 3 := nI_clamp (by omega)
  have a4 : nI (8 * n) + 4 = nI (8 * n + 4) := by show nI (8 * n) + nI 4 = _; rw [nI_add]
  have b4 : sm_in (nI (8 * n + 4)) nL = true := mm_in (by omega) hL
  have c4 : (nI (8 * n + 4)).toNatClampNeg = 8 * n + 4 := nI_clamp (by omega)
  have a5 : nI (8 * n) + 5 = nI (8 * n + 5) := by show nI (8 * n) + nI 5 = _; rw [nI_add]
  have b5 : sm_in (nI (8 * n + 5)) nL = true := mm_in (by omega) hL
  have c5 : (nI (8 * n + 5)).toNatClampNeg = 8 * n + 5 := nI_clamp (by omega)
  have a6 : nI (8 * n) + 6 = nI (8 * n + 6) := by show nI (8 * n) + nI 6 = _; rw [nI_add]
  have b6 : sm_in (nI (8 * n + 6)) nL = true := mm_in (by omega) hL
  have c6 : (nI (8 * n + 6)).toNatClampNeg = 8 * n + 6 := nI_clamp (by omega)
  have a7 : nI (8 * n) + 7 = nI (8 * n + 7) := by show nI (8 * n) + nI 7 = _; rw [nI_add]
  have b7 : sm_in (nI (8 * n + 7)) nL = true := mm_in (by omega) hL
  have c7 : (nI (8 * n + 7)).toNatClampNeg = 8 * n + 7 := nI_clamp (by omega)
  refine ⟨M2, hI2, fun d Q => ?_⟩
  rw [BL_507, a1, a2, a3, a4, a5, a6, a7, mm_ck b1, mm_ck b2, mm_ck b3, mm_ck b4, mm_ck b5, mm_ck b6, mm_ck b7, c1, c2, c3, c4, c5, c6, c7]
  refine (c (d + 6) _).trans ?_
  rw [sm_push_s, BL_548, a1, a2, a3, a4, a5, a6, a7, mm_ck b1, mm_ck b2, mm_ck b3, mm_ck b4, mm_ck b5, mm_ck b6, mm_ck b7, c1, c2, c3, c4, c5, c6, c7, f0 0 (8 * n + 1), f0 0 (8 * n + 2), f0 0 (8 * n + 3), f0 0 (8 * n + 4), f0 0 (8 * n + 5), f0 0 (8 * n + 6), f0 0 (8 * n + 7)]
  refine (e (d + 8) _).trans ?_
  rw [sm_push_s, BL_589, mm_bt rfl]
theorem BL_594 (d nL : Nat) (x3 : Int32) (M : sm_M) (Q : sm_Q) : sm_W (d + 1) 0 594 [vo 0, vo 10, vo 11, vi x3] [] (sm_G0 nL) M Q = sm_W d 38 0 [vo 10] [] (sm_G0 nL) M (fun r G1 M1 => sm_W (d + 1) 0 598 [vo 0, vo 10, vo 11, vi x3] (sm_push r []) G1 M1 Q) := (sm_I_eq 2 _ _ _ _ _ _ _ _).trans rfl
theorem BL_598 (d nL : Nat) (x3 s1 : Int32) (M : sm_M) (Q : sm_Q) : sm_W (d + 1) 0 598 [vo 0, vo 10, vo 11, vi x3] [Sum.inl s1] (sm_G0 nL) M Q = sm_W d 181 0 [vo 11] [] (sm_G0 nL) M (fun r G1 M1 => sm_W (d + 1) 0 602 [vo 0, vo 10, vo 11, vi x3] (sm_push r [Sum.inl s1]) G1 M1 Q) := (sm_I_eq 2 _ _ _ _ _ _ _ _).trans rfl
theorem BL_602 (d nL : Nat) (x3 s1 s2 : Int32) (M : sm_M) (Q : sm_Q) : sm_W d 0 602 [vo 0, vo 10, vo 11, vi x3] [Sum.inl s2, Sum.inl s1] (sm_G0 nL) M Q = sm_Br (decide (s1 = s2)) (sm_W d 0 1871 [vo 0, vo 10, vo 11, vi x3] [] (sm_G0 nL) M Q) (sm_W d 0 605 [vo 0, vo 10, vo 11, vi x3] [] (sm_G0 nL) M Q) := (sm_I_eq 1 _ _ _ _ _ _ _ _).trans rfl
theorem Lc_594 {n nL : Nat} {M : sm_M} (hI : InvP n M M) (hn : n < 2 ^ 29) (hL : nL < 2 ^ 31) (h8 : 8 * n + 8 ≤ nL) : Lcase n nL M 594 := by
  obtain ⟨r, M1, M2, c, e, f0, hI2⟩ := step_of (nL := nL) hI (fun d A Q => sm_W d 38 0 [vo 10] [] (sm_G0 nL) A Q) (fun d B Q => sm_W d 181 0 [vo 11] [] (sm_G0 nL) B Q) (fun A B h => q38 h hn  nL)
  refine ⟨M2, hI2, fun d Q => ?_⟩
  rw [BL_594]
  refine (c (d + 10) _).trans ?_
  rw [sm_push_s, BL_598]
  refine (e (d + 10) _).trans ?_
  rw [sm_push_s, BL_602, mm_bt rfl]
theorem BL_607 (d nL : Nat) (x3 : Int32) (M : sm_M) (Q : sm_Q) : sm_W (d + 1) 0 607 [vo 0, vo 10, vo 11, vi x3] [] (sm_G0 nL) M Q = sm_Ck (sm_in (x3 + 1) nL) (sm_Ck (sm_in (x3 + 2) nL) (sm_Ck (sm_in (x3 + 3) nL) (sm_Ck (sm_in (x3 + 4) nL) (sm_W d 39 0 [vo 10, vi (M 0 0 (x3 + 1).toNatClampNeg), vi (M 0 0 (x3 + 2).toNatClampNeg), vi (M 0 0 (x3 + 3).toNatClampNeg), vi (M 0 0 (x3 + 4).toNatClampNeg)] [] (sm_G0 nL) M (fun r G1 M1 => sm_W (d + 1) 0 631 [vo 0, vo 10, vo 11, vi x3] (sm_push r []) G1 M1 Q))))) := (sm_I_eq 22 _ _ _ _ _ _ _ _).trans rfl
theorem BL_631 (d nL : Nat) (x3 s1 : Int32) (M : sm_M) (Q : sm_Q) : sm_W (d + 1) 0 631 [vo 0, vo 10, vo 11, vi x3] [Sum.inl s1] (sm_G0 nL) M Q = sm_Ck (sm_in (x3 + 1) nL) (sm_Ck (sm_in (x3 + 2) nL) (sm_Ck (sm_in (x3 + 3) nL) (sm_Ck (sm_in (x3 + 4) nL) (sm_W d 182 0 [vo 11, vi (M 0 0 (x3 + 1).toNatClampNeg), vi (M 0 0 (x3 + 2).toNatClampNeg), vi (M 0 0 (x3 + 3).toNatClampNeg), vi (M 0 0 (x3 + 4).toNatClampNeg)] [] (sm_G0 nL) M (fun r G1 M1 => sm_W (d + 1) 0 655 [vo 0, vo 10, vo 11, vi x3] (sm_push r [Sum.inl s1]) G1 M1 Q))))) := (sm_I_eq 22 _ _ _ _ _ _ _ _).trans rfl
theorem BL_655 (d nL : Nat) (x3 s1 s2 : Int32) (M : sm_M) (Q : sm_Q) : sm_W d 0 655 [vo 0, vo 10, vo 11, vi x3] [Sum.inl s2, Sum.inl s1] (sm_G0 nL) M Q = sm_Br (decide (s1 = s2)) (sm_W d 0 1871 [vo 0, vo 10, vo 11, vi x3] [] (sm_G0 nL) M Q) (sm_W d 0 658 [vo 0, vo 10, vo 11, vi x3] [] (sm_G0 nL) M Q) := (sm_I_eq 1 _ _ _ _ _ _ _ _).trans rfl
theorem Lc_607 {n nL : Nat} {M : sm_M} (hI : InvP n M M) (hn : n < 2 ^ 29) (hL : nL < 2 ^ 31) (h8 : 8 * n + 8 ≤ nL) : Lcase n nL M 607 := by
  obtain ⟨r, M1, M2, c, e, f0, hI2⟩ := step_of (nL := nL) hI (fun d A Q => sm_W (d + 1) 39 0 [vo 10, vi (M 0 0 (8 * n + 1)), vi (M 0 0 (8 * n + 2)), vi (M 0 0 (8 * n + 3)), vi (M 0 0 (8 * n + 4))] [] (sm_G0 nL) A Q) (fun d B Q => sm_W (d + 2) 182 0 [vo 11, vi (M 0 0 (8 * n + 1)), vi (M 0 0 (8 * n + 2)), vi (M 0 0 (8 * n + 3)), vi (M 0 0 (8 * n + 4))] [] (sm_G0 nL) B Q) (fun A B h => q39 h hn (M 0 0 (8 * n + 1)) (M 0 0 (8 * n + 2)) (M 0 0 (8 * n + 3)) (M 0 0 (8 * n + 4)) nL)
  have a1 : nI (8 * n) + 1 = nI (8 * n + 1) := by show nI (8 * n) + nI 1 = _; rw [nI_add]
  have b1 : sm_in (nI (8 * n + 1)) nL = true := mm_in (by omega) hL
  have c1 : (nI (8 * n + 1)).toNatClampNeg = 8 * n + 1 := nI_clamp (by omega)
  have a2 : nI (8 * n) + 2 = nI (8 * n + 2) := by show nI (8 * n) + nI 2 = _; rw [nI_add]
  have b2 : sm_in (nI (8 * n + 2)) nL = true := mm_in (by omega) hL
  have c2 : (nI (8 * n + 2)).toNatClampNeg = 8 * n + 2 := nI_clamp (by omega)
  have a3 : nI (8 * n) + 3 = nI (8 * n + 3) := by show nI (8 * n) + nI 3 = _; rw [nI_add]
  have b3 : sm_in (nI (8 * n + 3)) nL = true := mm_in (by omega) hL
  have c3 : (nI (8 * n + 3)).toNatClampNeg = 8 * n + 3 := nI_clamp (by omega)
  have a4 : nI (8 * n) + 4 = nI (8 * n + 4) := by show nI (8 * n) + nI 4 = _; rw [nI_add]
  have b4 : sm_in (nI (8 * n + 4)) nL = true := mm_in (by omega) hL
  have c4 : (nI (8 * n + 4)).toNatClampNeg = 8 * n + 4 := nI_clamp (by omega)
  refine ⟨M2, hI2, fun d Q => ?_⟩
  rw [BL_607, a1, a2, a3, a4, mm_ck b1, mm_ck b2, mm_ck b3, mm_ck b4, c1, c2, c3, c4]
  refine (c (d + 9) _).trans ?_
  rw [sm_push_s, BL_631, a1, a2, a3, a4, mm_ck b1, mm_ck b2, mm_ck b3, mm_ck b4, c1, c2, c3, c4, f0 0 (8 * n + 1), f0 0 (8 * n + 2), f0 0 (8 * n + 3), f0 0 (8 * n + 4)]
  refine (e (d + 8) _).trans ?_
  rw [sm_push_s, BL_655, mm_bt rfl]
theorem BL_660 (d nL : Nat) (x3 : Int32) (M : sm_M) (Q : sm_Q) : sm_W (d + 1) 0 660 [vo 0, vo 10, vo 11, vi x3] [] (sm_G0 nL) M Q = sm_Ck (sm_in (x3 + 1) nL) (sm_Ck (sm_in (x3 + 2) nL) (sm_W d 41 0 [vo 10, vi (M 0 0 (x3 + 1).toNatClampNeg), vi (M 0 0 (x3 + 2).toNatClampNeg), none, none] [] (sm_G0 nL) M (fun r G1 M1 => sm_W (d + 1) 0 674 [vo 0, vo 10, vo 11, vi x3] (sm_push r []) G1 M1 Q))) := (sm_I_eq 12 _ _ _ _ _ _ _ _).trans rfl
theorem BL_674 (d nL : Nat) (x3 s1 : Int32) (M : sm_M) (Q : sm_Q) : sm_W (d + 1) 0 674 [vo 0, vo 10, vo 11, vi x3] [Sum.inl s1] (sm_G0 nL) M Q = sm_Ck (sm_in (x3 + 1) nL) (sm_Ck (sm_in (x3 + 2) nL) (sm_W d 183 0 [vo 11, vi (M 0 0 (x3 + 1).toNatClampNeg), vi (M 0 0 (x3 + 2).toNatClampNeg)] [] (sm_G0 nL) M (fun r G1 M1 => sm_W (d + 1) 0 688 [vo 0, vo 10, vo 11, vi x3] (sm_push r [Sum.inl s1]) G1 M1 Q))) := (sm_I_eq 12 _ _ _ _ _ _ _ _).trans rfl
theorem BL_688 (d nL : Nat) (x3 s1 s2 : Int32) (M : sm_M) (Q : sm_Q) : sm_W d 0 688 [vo 0, vo 10, vo 11, vi x3] [Sum.inl s2, Sum.inl s1] (sm_G0 nL) M Q = sm_Br (decide (s1 = s2)) (sm_W d 0 1871 [vo 0, vo 10, vo 11, vi x3] [] (sm_G0 nL) M Q) (sm_W d 0 691 [vo 0, vo 10, vo 11, vi x3] [] (sm_G0 nL) M Q) := (sm_I_eq 1 _ _ _ _ _ _ _ _).trans rfl
theorem Lc_660 {n nL : Nat} {M : sm_M} (hI : InvP n M M) (hn : n < 2 ^ 29) (hL : nL < 2 ^ 31) (h8 : 8 * n + 8 ≤ nL) : Lcase n nL M 660 := by
  obtain ⟨r, M1, M2, c, e, f0, hI2⟩ := step_of (nL := nL) hI (fun d A Q => sm_W (d + 1) 41 0 [vo 10, vi (M 0 0 (8 * n + 1)), vi (M 0 0 (8 * n + 2)), none, none] [] (sm_G0 nL) A Q) (fun d B Q => sm_W (d + 2) 183 0 [vo 11, vi (M 0 0 (8 * n + 1)), vi (M 0 0 (8 * n + 2))] [] (sm_G0 nL) B Q) (fun A B h => q41 h hn (M 0 0 (8 * n + 1)) (M 0 0 (8 * n + 2)) nL)
  have a1 : nI (8 * n) + 1 = nI (8 * n + 1) := by show nI (8 * n) + nI 1 = _; rw [nI_add]
  have b1 : sm_in (nI (8 * n + 1)) nL = true := mm_in (by omega) hL
  have c1 : (nI (8 * n + 1)).toNatClampNeg = 8 * n + 1 := nI_clamp (by omega)
  have a2 : nI (8 * n) + 2 = nI (8 * n + 2) := by show nI (8 * n) + nI 2 = _; rw [nI_add]
  have b2 : sm_in (nI (8 * n + 2)) nL = true := mm_in (by omega) hL
  have c2 : (nI (8 * n + 2)).toNatClampNeg = 8 * n + 2 := nI_clamp (by omega)
  refine ⟨M2, hI2, fun d Q => ?_⟩
  rw [BL_660, a1, a2, mm_ck b1, mm_ck b2, c1, c2]
  refine (c (d + 9) _).trans ?_
  rw [sm_push_s, BL_674, a1, a2, mm_ck b1, mm_ck b2, c1, c2, f0 0 (8 * n + 1), f0 0 (8 * n + 2)]
  refine (e (d + 8) _).trans ?_
  rw [sm_push_s, BL_688, mm_bt rfl]
theorem BL_693 (d nL : Nat) (x3 : Int32) (M : sm_M) (Q : sm_Q) : sm_W (d + 1) 0 693 [vo 0, vo 10, vo 11, vi x3] [] (sm_G0 nL) M Q = sm_Ck (sm_in (x3 + 1) nL) (sm_W d 45 0 [vo 10, vi (M 0 0 (x3 + 1).toNatClampNeg), none] [] (sm_G0 nL) M (fun r G1 M1 => sm_W (d + 1) 0 702 [vo 0, vo 10, vo 11, vi x3] (sm_push r []) G1 M1 Q)) := (sm_I_eq 7 _ _ _ _ _ _ _ _).trans rfl
theorem BL_702 (d nL : Nat) (x3 s1 : Int32) (M : sm_M) (Q : sm_Q) : sm_W (d + 1) 0 702 [vo 0, vo 10, vo 11, vi x3] [Sum.inl s1] (sm_G0 nL) M Q = sm_Ck (sm_in (x3 + 1) nL) (sm_W d 186 0 [vo 11, vi (M 0 0 (x3 + 1).toNatClampNeg)] [] (sm_G0 nL) M (fun r G1 M1 => sm_W (d + 1) 0 711 [vo 0, vo 10, vo 11, vi x3] (sm_push r [Sum.inl s1]) G1 M1 Q)) := (sm_I_eq 7 _ _ _ _ _ _ _ _).trans rfl
theorem BL_711 (d nL : Nat) (x3 s1 s2 : Int32) (M : sm_M) (Q : sm_Q) : sm_W d 0 711 [vo 0, vo 10, vo 11, vi x3] [Sum.inl s2, Sum.inl s1] (sm_G0 nL) M Q = sm_Br (decide (s1 = s2)) (sm_W d 0 1871 [vo 0, vo 10, vo 11, vi x3] [] (sm_G0 nL) M Q) (sm_W d 0 714 [vo 0, vo 10, vo 11, vi x3] [] (sm_G0 nL) M Q) := (sm_I_eq 1 _ _ _ _ _ _ _ _).trans rfl
theorem Lc_693 {n nL : Nat} {M : sm_M} (hI : InvP n M M) (hn : n < 2 ^ 29) (hL : nL < 2 ^ 31) (h8 : 8 * n + 8 ≤ nL) : Lcase n nL M 693 := by
  obtain ⟨r, M1, M2, c, e, f0, hI2⟩ := step_of (nL := nL) hI (fun d A Q => sm_W (d + 1) 45 0 [vo 10, vi (M 0 0 (8 * n + 1)), none] [] (sm_G0 nL) A Q) (fun d B Q => sm_W (d + 2) 186 0 [vo 11, vi (M 0 0 (8 * n + 1))] [] (sm_G0 nL) B Q) (fun A B h => q45 h hn (M 0 0 (8 * n + 1)) nL)
  have a1 : nI (8 * n) + 1 = nI (8 * n + 1) := by show nI (8 * n) + nI 1 = _; rw [nI_add]
  have b1 : sm_in (nI (8 * n + 1)) nL = true := mm_in (by omega) hL
  have c1 : (nI (8 * n + 1)).toNatClampNeg = 8 * n + 1 := nI_clamp (by omega)
  refine ⟨M2, hI2, fun d Q => ?_⟩
  rw [BL_693, a1, mm_ck b1, c1]
  refine (c (d + 9) _).trans ?_
  rw [sm_push_s, BL_702, a1, mm_ck b1, c1, f0 0 (8 * n + 1)]
  refine (e (d + 8) _).trans ?_
  rw [sm_push_s, BL_711, mm_bt rfl]
theorem BL_716 (d nL : Nat) (x3 : Int32) (M : sm_M) (Q : sm_Q) : sm_W (d + 1) 0 716 [vo 0, vo 10, vo 11, vi x3] [] (sm_G0 nL) M Q = sm_Ck (sm_in (x3 + 1) nL) (sm_W d 46 0 [vo 10, vi (M 0 0 (x3 + 1).toNatClampNeg), none] [] (sm_G0 nL) M (fun r G1 M1 => sm_W (d + 1) 0 725 [vo 0, vo 10, vo 11, vi x3] (sm_push r []) G1 M1 Q)) := (sm_I_eq 7 _ _ _ _ _ _ _ _).trans rfl
theorem BL_725 (d nL : Nat) (x3 s1 : Int32) (M : sm_M) (Q : sm_Q) : sm_W (d + 1) 0 725 [vo 0, vo 10, vo 11, vi x3] [Sum.inl s1] (sm_G0 nL) M Q = sm_Ck (sm_in (x3 + 1) nL) (sm_W d 187 0 [vo 11, vi (M 0 0 (x3 + 1).toNatClampNeg)] [] (sm_G0 nL) M (fun r G1 M1 => sm_W (d + 1) 0 734 [vo 0, vo 10, vo 11, vi x3] (sm_push r [Sum.inl s1]) G1 M1 Q)) := (sm_I_eq 7 _ _ _ _ _ _ _ _).trans rfl
theorem BL_734 (d nL : Nat) (x3 s1 s2 : Int32) (M : sm_M) (Q : sm_Q) : sm_W d 0 734 [vo 0, vo 10, vo 11, vi x3] [Sum.inl s2, Sum.inl s1] (sm_G0 nL) M Q = sm_Br (decide (s1 = s2)) (sm_W d 0 1871 [vo 0, vo 10, vo 11, vi x3] [] (sm_G0 nL) M Q) (sm_W d 0 737 [vo 0, vo 10, vo 11, vi x3] [] (sm_G0 nL) M Q) := (sm_I_eq 1 _ _ _ _ _ _ _ _).trans rfl
theorem Lc_716 {n nL : Nat} {M : sm_M} (hI : InvP n M M) (hn : n < 2 ^ 29) (hL : nL < 2 ^ 31) (h8 : 8 * n + 8 ≤ nL) : Lcase n nL M 716 := by
  obtain ⟨r, M1, M2, c, e, f0, hI2⟩ := step_of (nL := nL) hI (fun d A Q => sm_W (d + 4) 46 0 [vo 10, vi (M 0 0 (8 * n + 1)), none] [] (sm_G0 nL) A Q) (fun d B Q => sm_W (d + 4) 187 0 [vo 11, vi (M 0 0 (8 * n + 1))] [] (sm_G0 nL) B Q) (fun A B h => q46 h hn (M 0 0 (8 * n + 1)) nL)
  have a1 : nI (8 * n) + 1 = nI (8 * n + 1) := by show nI (8 * n) + nI 1 = _; rw [nI_add]
  have b1 : sm_in (nI (8 * n + 1)) nL = true := mm_in (by omega) hL
  have c1 : (nI (8 * n + 1)).toNatClampNeg = 8 * n + 1 := nI_clamp (by omega)
  refine ⟨M2, hI2, fun d Q => ?_⟩
  rw [BL_716, a1, mm_ck b1, c1]
  refine (c (d + 6) _).trans ?_
  rw [sm_push_s, BL_725, a1, mm_ck b1, c1, f0 0 (8 * n + 1)]
  refine (e (d + 6) _).trans ?_
  rw [sm_push_s, BL_734, mm_bt rfl]
theorem BL_739 (d nL : Nat) (x3 : Int32) (M : sm_M) (Q : sm_Q) : sm_W (d + 1) 0 739 [vo 0, vo 10, vo 11, vi x3] [] (sm_G0 nL) M Q = sm_Ck (sm_in (x3 + 1) nL) (sm_Ck (sm_in (x3 + 2) nL) (sm_W d 55 0 [vo 10, vi (M 0 0 (x3 + 1).toNatClampNeg), vi (M 0 0 (x3 + 2).toNatClampNeg), none, none] [] (sm_G0 nL) M (fun r G1 M1 => sm_W (d + 1) 0 753 [vo 0, vo 10, vo 11, vi x3] (sm_push r []) G1 M1 Q))) := (sm_I_eq 12 _ _ _ _ _ _ _ _).trans rfl
theorem BL_753 (d nL : Nat) (x3 s1 : Int32) (M : sm_M) (Q : sm_Q) : sm_W (d + 1) 0 753 [vo 0, vo 10, vo 11, vi x3] [Sum.inl s1] (sm_G0 nL) M Q = sm_Ck (sm_in (x3 + 1) nL) (sm_Ck (sm_in (x3 + 2) nL) (sm_W d 194 0 [vo 11, vi (M 0 0 (x3 + 1).toNatClampNeg), vi (M 0 0 (x3 + 2).toNatClampNeg)] [] (sm_G0 nL) M (fun r G1 M1 => sm_W (d + 1) 0 767 [vo 0, vo 10, vo 11, vi x3] (sm_push r [Sum.inl s1]) G1 M1 Q))) := (sm_I_eq 12 _ _ _ _ _ _ _ _).trans rfl
theorem BL_767 (d nL : Nat) (x3 s1 s2 : Int32) (M : sm_M) (Q : sm_Q) : sm_W d 0 767 [vo 0, vo 10, vo 11, vi x3] [Sum.inl s2, Sum.inl s1] (sm_G0 nL) M Q = sm_Br (decide (s1 = s2)) (sm_W d 0 1871 [vo 0, vo 10, vo 11, vi x3] [] (sm_G0 nL) M Q) (sm_W d 0 770 [vo 0, vo 10, vo 11, vi x3] [] (sm_G0 nL) M Q) := (sm_I_eq 1 _ _ _ _ _ _ _ _).trans rfl
theorem Lc_739 {n nL : Nat} {M : sm_M} (hI : InvP n M M) (hn : n < 2 ^ 29) (hL : nL < 2 ^ 31) (h8 : 8 * n + 8 ≤ nL) : Lcase n nL M 739 := by
  obtain ⟨r, M1, M2, c, e, f0, hI2⟩ := step_of (nL := nL) hI (fun d A Q => sm_W (d + 4) 55 0 [vo 10, vi (M 0 0 (8 * n + 1)), vi (M 0 0 (8 * n + 2)), none, none] [] (sm_G0 nL) A Q) (fun d B Q => sm_W (d + 4) 194 0 [vo 11, vi (M 0 0 (8 * n + 1)), vi (M 0 0 (8 * n + 2))] [] (sm_G0 nL) B Q) (fun A B h => q55 h hn (M 0 0 (8 * n + 1)) (M 0 0 (8 * n + 2)) nL)
  have a1 : nI (8 * n) + 1 = nI (8 * n + 1) := by show nI (8 * n) + nI 1 = _; rw [nI_add]
  have b1 : sm_in (nI (8 * n + 1)) nL = true := mm_in (by omega) hL
  have c1 : (nI (8 * n + 1)).toNatClampNeg = 8 * n + 1 := nI_clamp (by omega)
  have a2 : nI (8 * n) + 2 = nI (8 * n + 2) := by show nI (8 * n) + nI 2 = _; rw [nI_add]
  have b2 : sm_in (nI (8 * n + 2)) nL = true := mm_in (by omega) hL
  have c2 : (nI (8 * n + 2)).toNatClampNeg = 8 * n + 2 := nI_clamp (by omega)
  refine ⟨M2, hI2, fun d Q => ?_⟩
  rw [BL_739, a1, a2, mm_ck b1, mm_ck b2, c1, c2]
  refine (c (d + 6) _).trans ?_
  rw [sm_push_s, BL_753, a1, a2, mm_ck b1, mm_ck b2, c1, c2, f0 0 (8 * n + 1), f0 0 (8 * n + 2)]
  refine (e (d + 6) _).trans ?_
  rw [sm_push_s, BL_767, mm_bt rfl]
theorem BL_772 (d nL : Nat) (x3 : Int32) (M : sm_M) (Q : sm_Q) : sm_W (d + 1) 0 772 [vo 0, vo 10, vo 11, vi x3] [] (sm_G0 nL) M Q = sm_Ck (sm_in (x3 + 1) nL) (sm_Ck (sm_in (x3 + 2) nL) (sm_W d 56 0 [vo 10, vi (M 0 0 (x3 + 1).toNatClampNeg), vi (M 0 0 (x3 + 2).toNatClampNeg), none] [] (sm_G0 nL) M (fun r G1 M1 => sm_W (d + 1) 0 786 [vo 0, vo 10, vo 11, vi x3] (sm_push r []) G1 M1 Q))) := (sm_I_eq 12 _ _ _ _ _ _ _ _).trans rfl
theorem BL_786 (d nL : Nat) (x3 s1 : Int32) (M : sm_M) (Q : sm_Q) : sm_W (d + 1) 0 786 [vo 0, vo 10, vo 11, vi x3] [Sum.inl s1] (sm_G0 nL) M Q = sm_Ck (sm_in (x3 + 1) nL) (sm_Ck (sm_in (x3 + 2) nL) (sm_W d 195 0 [vo 11, vi (M 0 0 (x3 + 1).toNatClampNeg), vi (M 0 0 (x3 + 2).toNatClampNeg)] [] (sm_G0 nL) M (fun r G1 M1 => sm_W (d + 1) 0 800 [vo 0, vo 10, vo 11, vi x3] (sm_push r [Sum.inl s1]) G1 M1 Q))) := (sm_I_eq 12 _ _ _ _ _ _ _ _).trans rfl
theorem BL_800 (d nL : Nat) (x3 s1 s2 : Int32) (M : sm_M) (Q : sm_Q) : sm_W d 0 800 [vo 0, vo 10, vo 11, vi x3] [Sum.inl s2, Sum.inl s1] (sm_G0 nL) M Q = sm_Br (decide (s1 = s2)) (sm_W d 0 1871 [vo 0, vo 10, vo 11, vi x3] [] (sm_G0 nL) M Q) (sm_W d 0 803 [vo 0, vo 10, vo 11, vi x3] [] (sm_G0 nL) M Q) := (sm_I_eq 1 _ _ _ _ _ _ _ _).trans rfl
theorem Lc_772 {n nL : Nat} {M : sm_M} (hI : InvP n M M) (hn : n < 2 ^ 29) (hL : nL < 2 ^ 31) (h8 : 8 * n + 8 ≤ nL) : Lcase n nL M 772 := by
  obtain ⟨r, M1, M2, c, e, f0, hI2⟩ := step_of (nL := nL) hI (fun d A Q => sm_W (d + 1) 56 0 [vo 10, vi (M 0 0 (8 * n + 1)), vi (M 0 0 (8 * n + 2)), none] [] (sm_G0 nL) A Q) (fun d B Q => sm_W (d + 2) 195 0 [vo 11, vi (M 0 0 (8 * n + 1)), vi (M 0 0 (8 * n + 2))] [] (sm_G0 nL) B Q) (fun A B h => q56 h hn (M 0 0 (8 * n + 1)) (M 0 0 (8 * n + 2)) nL)
  have a1 : nI (8 * n) + 1 = nI (8 * n + 1) := by show nI (8 * n) + nI 1 = _; rw [nI_add]
  have b1 : sm_in (nI (8 * n + 1)) nL = true := mm_in (by omega) hL
  have c1 : (nI (8 * n + 1)).toNatClampNeg = 8 * n + 1 := nI_clamp (by omega)
  have a2 : nI (8 * n) + 2 = nI (8 * n + 2) := by show nI (8 * n) + nI 2 = _; rw [nI_add]
  have b2 : sm_in (nI (8 * n + 2)) nL = true := mm_in (by omega) hL
  have c2 : (nI (8 * n + 2)).toNatClampNeg = 8 * n + 2 := nI_clamp (by omega)
  refine ⟨M2, hI2, fun d Q => ?_⟩
  rw [BL_772, a1, a2, mm_ck b1, mm_ck b2, c1, c2]
  refine (c (d + 9) _).trans ?_
  rw [sm_push_s, BL_786, a1, a2, mm_ck b1, mm_ck b2, c1, c2, f0 0 (8 * n + 1), f0 0 (8 * n + 2)]
  refine (e (d + 8) _).trans ?_
  rw [sm_push_s, BL_800, mm_bt rfl]
theorem BL_805 (d nL : Nat) (x3 : Int32) (M : sm_M) (Q : sm_Q) : sm_W (d + 1) 0 805 [vo 0, vo 10, vo 11, vi x3] [] (sm_G0 nL) M Q = sm_Ck (sm_in (x3 + 1) nL) (sm_Ck (sm_in (x3 + 2) nL) (sm_W d 57 0 [vo 10, vi (M 0 0 (x3 + 1).toNatClampNeg), vi (M 0 0 (x3 + 2).toNatClampNeg)] [] (sm_G0 nL) M (fun r G1 M1 => sm_W (d + 1) 0 819 [vo 0, vo 10, vo 11, vi x3] (sm_push r []) G1 M1 Q))) := (sm_I_eq 12 _ _ _ _ _ _ _ _).trans rfl
theorem BL_819 (d nL : Nat) (x3 s1 : Int32) (M : sm_M) (Q : sm_Q) : sm_W (d + 1) 0 819 [vo 0, vo 10, vo 11, vi x3] [Sum.inl s1] (sm_G0 nL) M Q = sm_Ck (sm_in (x3 + 1) nL) (sm_Ck (sm_in (x3 + 2) nL) (sm_W d 196 0 [vo 11, vi (M 0 0 (x3 + 1).toNatClampNeg), vi (M 0 0 (x3 + 2).toNatClampNeg), none] [] (sm_G0 nL) M (fun r G1 M1 => sm_W (d + 1) 0 833 [vo 0, vo 10, vo 11, vi x3] (sm_push r [Sum.inl s1]) G1 M1 Q))) := (sm_I_eq 12 _ _ _ _ _ _ _ _).trans rfl
theorem BL_833 (d nL : Nat) (x3 s1 s2 : Int32) (M : sm_M) (Q : sm_Q) : sm_W d 0 833 [vo 0, vo 10, vo 11, vi x3] [Sum.inl s2, Sum.inl s1] (sm_G0 nL) M Q = sm_Br (decide (s1 = s2)) (sm_W d 0 1871 [vo 0, vo 10, vo 11, vi x3] [] (sm_G0 nL) M Q) (sm_W d 0 836 [vo 0, vo 10, vo 11, vi x3] [] (sm_G0 nL) M Q) := (sm_I_eq 1 _ _ _ _ _ _ _ _).trans rfl
theorem Lc_805 {n nL : Nat} {M : sm_M} (hI : InvP n M M) (hn : n < 2 ^ 29) (hL : nL < 2 ^ 31) (h8 : 8 * n + 8 ≤ nL) : Lcase n nL M 805 := by
  obtain ⟨r, M1, M2, c, e, f0, hI2⟩ := step_of (nL := nL) hI (fun d A Q => sm_W (d + 1) 57 0 [vo 10, vi (M 0 0 (8 * n + 1)), vi (M 0 0 (8 * n + 2))] [] (sm_G0 nL) A Q) (fun d B Q => sm_W (d + 1) 196 0 [vo 11, vi (M 0 0 (8 * n + 1)), vi (M 0 0 (8 * n + 2)), none] [] (sm_G0 nL) B Q) (fun A B h => q57 h hn (M 0 0 (8 * n + 1)) (M 0 0 (8 * n + 2)) nL)
  have a1 : nI (8 * n) + 1 = nI (8 * n + 1) := by show nI (8 * n) + nI 1 = _; rw [nI_add]
  have b1 : sm_in (nI (8 * n + 1)) nL = true := mm_in (by omega) hL
  have c1 : (nI (8 * n + 1)).toNatClampNeg = 8 * n + 1 := nI_clamp (by omega)
  have a2 : nI (8 * n) + 2 = nI (8 * n + 2) := by show nI (8 * n) + nI 2 = _; rw [nI_add]
  have b2 : sm_in (nI (8 * n + 2)) nL = true := mm_in (by omega) hL
  have c2 : (nI (8 * n + 2)).toNatClampNeg = 8 * n + 2 := nI_clamp (by omega)
  refine ⟨M2, hI2, fun d Q => ?_⟩
  rw [BL_805, a1, a2, mm_ck b1, mm_ck b2, c1, c2]
  refine (c (d + 9) _).trans ?_
  rw [sm_push_s, BL_819, a1, a2, mm_ck b1, mm_ck b2, c1, c2, f0 0 (8 * n + 1), f0 0 (8 * n + 2)]
  refine (e (d + 9) _).trans ?_
  rw [sm_push_s, BL_833, mm_bt rfl]
theorem BL_838 (d nL : Nat) (x3 : Int32) (M : sm_M) (Q : sm_Q) : sm_W (d + 1) 0 838 [vo 0, vo 10, vo 11, vi x3] [] (sm_G0 nL) M Q = sm_Ck (sm_in (x3 + 1) nL) (sm_W d 59 0 [vo 10, vi (M 0 0 (x3 + 1).toNatClampNeg)] [] (sm_G0 nL) M (fun r G1 M1 => sm_W (d + 1) 0 847 [vo 0, vo 10, vo 11, vi x3] (sm_push r []) G1 M1 Q)) := (sm_I_eq 7 _ _ _ _ _ _ _ _).trans rfl
theorem BL_847 (d nL : Nat) (x3 s1 : Int32) (M : sm_M) (Q : sm_Q) : sm_W (d + 1) 0 847 [vo 0, vo 10, vo 11, vi x3] [Sum.inl s1] (sm_G0 nL) M Q = sm_Ck (sm_in (x3 + 1) nL) (sm_W d 197 0 [vo 11, vi (M 0 0 (x3 + 1).toNatClampNeg), none, none] [] (sm_G0 nL) M (fun r G1 M1 => sm_W (d + 1) 0 856 [vo 0, vo 10, vo 11, vi x3] (sm_push r [Sum.inl s1]) G1 M1 Q)) := (sm_I_eq 7 _ _ _ _ _ _ _ _).trans rfl
theorem BL_856 (d nL : Nat) (x3 s1 s2 : Int32) (M : sm_M) (Q : sm_Q) : sm_W d 0 856 [vo 0, vo 10, vo 11, vi x3] [Sum.inl s2, Sum.inl s1] (sm_G0 nL) M Q = sm_Br (decide (s1 = s2)) (sm_W d 0 1871 [vo 0, vo 10, vo 11, vi x3] [] (sm_G0 nL) M Q) (sm_W d 0 859 [vo 0, vo 10, vo 11, vi x3] [] (sm_G0 nL) M Q) := (sm_I_eq 1 _ _ _ _ _ _ _ _).trans rfl
theorem Lc_838 {n nL : Nat} {M : sm_M} (hI : InvP n M M) (hn : n < 2 ^ 29) (hL : nL < 2 ^ 31) (h8 : 8 * n + 8 ≤ nL) : Lcase n nL M 838 := by
  obtain ⟨r, M1, M2, c, e, f0, hI2⟩ := step_of (nL := nL) hI (fun d A Q => sm_W (d + 6) 59 0 [vo 10, vi (M 0 0 (8 * n + 1))] [] (sm_G0 nL) A Q) (fun d B Q => sm_W (d + 3) 197 0 [vo 11, vi (M 0 0 (8 * n + 1)), none, none] [] (sm_G0 nL) B Q) (fun A B h => q59 h hn (M 0 0 (8 * n + 1)) nL)
  have a1 : nI (8 * n) + 1 = nI (8 * n + 1) := by show nI (8 * n) + nI 1 = _; rw [nI_add]
  have b1 : sm_in (nI (8 * n + 1)) nL = true := mm_in (by omega) hL
  have c1 : (nI (8 * n + 1)).toNatClampNeg = 8 * n + 1 := nI_clamp (by omega)
  refine ⟨M2, hI2, fun d Q => ?_⟩
  rw [BL_838, a1, mm_ck b1, c1]
  refine (c (d + 4) _).trans ?_
  rw [sm_push_s, BL_847, a1, mm_ck b1, c1, f0 0 (8 * n + 1)]
  refine (e (d + 7) _).trans ?_
  rw [sm_push_s, BL_856, mm_bt rfl]
theorem BL_861 (d nL : Nat) (x3 : Int32) (M : sm_M) (Q : sm_Q) : sm_W (d + 1) 0 861 [vo 0, vo 10, vo 11, vi x3] [] (sm_G0 nL) M Q = sm_Ck (sm_in (x3 + 1) nL) (sm_Ck (sm_in (x3 + 2) nL) (sm_W d 74 0 [vo 10, vi (M 0 0 (x3 + 1).toNatClampNeg), vi (M 0 0 (x3 + 2).toNatClampNeg), none] [] (sm_G0 nL) M (fun r G1 M1 => sm_W (d + 1) 0 875 [vo 0, vo 10, vo 11, vi x3] (sm_push r []) G1 M1 Q))) := (sm_I_eq 12 _ _ _ _ _ _ _ _).trans rfl
theorem BL_875 (d nL : Nat) (x3 s1 : Int32) (M : sm_M) (Q : sm_Q) : sm_W (d + 1) 0 875 [vo 0, vo 10, vo 11, vi x3] [Sum.inl s1] (sm_G0 nL) M Q = sm_Ck (sm_in (x3 + 1) nL) (sm_Ck (sm_in (x3 + 2) nL) (sm_W d 208 0 [vo 11, vi (M 0 0 (x3 + 1).toNatClampNeg), vi (M 0 0 (x3 + 2).toNatClampNeg)] [] (sm_G0 nL) M (fun r G1 M1 => sm_W (d + 1) 0 889 [vo 0, vo 10, vo 11, vi x3] (sm_push r [Sum.inl s1]) G1 M1 Q))) := (sm_I_eq 12 _ _ _ _ _ _ _ _).trans rfl
theorem BL_889 (d nL : Nat) (x3 s1 s2 : Int32) (M : sm_M) (Q : sm_Q) : sm_W d 0 889 [vo 0, vo 10, vo 11, vi x3] [Sum.inl s2, Sum.inl s1] (sm_G0 nL) M Q = sm_Br (decide (s1 = s2)) (sm_W d 0 1871 [vo 0, vo 10, vo 11, vi x3] [] (sm_G0 nL) M Q) (sm_W d 0 892 [vo 0, vo 10, vo 11, vi x3] [] (sm_G0 nL) M Q) := (sm_I_eq 1 _ _ _ _ _ _ _ _).trans rfl
theorem Lc_861 {n nL : Nat} {M : sm_M} (hI : InvP n M M) (hn : n < 2 ^ 29) (hL : nL < 2 ^ 31) (h8 : 8 * n + 8 ≤ nL) : Lcase n nL M 861 := by
  obtain ⟨r, M1, M2, c, e, f0, hI2⟩ := step_of (nL := nL) hI (fun d A Q => sm_W (d + 1) 74 0 [vo 10, vi (M 0 0 (8 * n + 1)), vi (M 0 0 (8 * n + 2)), none] [] (sm_G0 nL) A Q) (fun d B Q => sm_W (d + 2) 208 0 [vo 11, vi (M 0 0 (8 * n + 1)), vi (M 0 0 (8 * n + 2))] [] (sm_G0 nL) B Q) (fun A B h => q74 h hn (M 0 0 (8 * n + 1)) (M 0 0 (8 * n + 2)) nL)
  have a1 : nI (8 * n) + 1 = nI (8 * n + 1) := by show nI (8 * n) + nI 1 = _; rw [nI_add]
  have b1 : sm_in (nI (8 * n + 1)) nL = true := mm_in (by omega) hL
  have c1 : (nI (8 * n + 1)).toNatClampNeg = 8 * n + 1 := nI_clamp (by omega)
  have a2 : nI (8 * n) + 2 = nI (8 * n + 2) := by show nI (8 * n) + nI 2 = _; rw [nI_add]
  have b2 : sm_in (nI (8 * n + 2)) nL = true := mm_in (by omega) hL
  have c2 : (nI (8 * n + 2)).toNatClampNeg = 8 * n + 2 := nI_clamp (by omega)
  refine ⟨M2, hI2, fun d Q => ?_⟩
  rw [BL_861, a1, a2, mm_ck b1, mm_ck b2, c1, c2]
  refine (c (d + 9) _).trans ?_
  rw [sm_push_s, BL_875, a1, a2, mm_ck b1, mm_ck b2, c1, c2, f0 0 (8 * n + 1), f0 0 (8 * n + 2)]
  refine (e (d + 8) _).trans ?_
  rw [sm_push_s, BL_889, mm_bt rfl]
theorem BL_894 (d nL : Nat) (x3 : Int32) (M : sm_M) (Q : sm_Q) : sm_W (d + 1) 0 894 [vo 0, vo 10, vo 11, vi x3] [] (sm_G0 nL) M Q = sm_Ck (sm_in (x3 + 1) nL) (sm_Ck (sm_in (x3 + 2) nL) (sm_Ck (sm_in (x3 + 3) nL) (sm_W d 75 0 [vo 10, vi (M 0 0 (x3 + 1).toNatClampNeg), vi (M 0 0 (x3 + 2).toNatClampNeg), vi (M 0 0 (x3 + 3).toNatClampNeg)] [] (sm_G0 nL) M (fun r G1 M1 => sm_W (d + 1) 0 913 [vo 0, vo 10, vo 11, vi x3] (sm_push r []) G1 M1 Q)))) := (sm_I_eq 17 _ _ _ _ _ _ _ _).trans rfl
theorem BL_913 (d nL : Nat) (x3 s1 : Int32) (M : sm_M) (Q : sm_Q) : sm_W (d + 1) 0 913 [vo 0, vo 10, vo 11, vi x3] [Sum.inl s1] (sm_G0 nL) M Q = sm_Ck (sm_in (x3 + 1) nL) (sm_Ck (sm_in (x3 + 2) nL) (sm_Ck (sm_in (x3 + 3) nL) (sm_W d 211 0 [vo 11, vi (M 0 0 (x3 + 1).toNatClampNeg), vi (M 0 0 (x3 + 2).toNatClampNeg), vi (M 0 0 (x3 + 3).toNatClampNeg)] [] (sm_G0 nL) M (fun r G1 M1 => sm_W (d + 1) 0 932 [vo 0, vo 10, vo 11, vi x3] (sm_push r [Sum.inl s1]) G1 M1 Q)))) := (sm_I_eq 17 _ _ _ _ _ _ _ _).trans rfl
theorem BL_932 (d nL : Nat) (x3 s1 s2 : Int32) (M : sm_M) (Q : sm_Q) : sm_W d 0 932 [vo 0, vo 10, vo 11, vi x3] [Sum.inl s2, Sum.inl s1] (sm_G0 nL) M Q = sm_Br (decide (s1 = s2)) (sm_W d 0 1871 [vo 0, vo 10, vo 11, vi x3] [] (sm_G0 nL) M Q) (sm_W d 0 935 [vo 0, vo 10, vo 11, vi x3] [] (sm_G0 nL) M Q) := (sm_I_eq 1 _ _ _ _ _ _ _ _).trans rfl
theorem Lc_894 {n nL : Nat} {M : sm_M} (hI : InvP n M M) (hn : n < 2 ^ 29) (hL : nL < 2 ^ 31) (h8 : 8 * n + 8 ≤ nL) : Lcase n nL M 894 := by
  obtain ⟨r, M1, M2, c, e, f0, hI2⟩ := step_of (nL := nL) hI (fun d A Q => sm_W (d + 2) 75 0 [vo 10, vi (M 0 0 (8 * n + 1)), vi (M 0 0 (8 * n + 2)), vi (M 0 0 (8 * n + 3))] [] (sm_G0 nL) A Q) (fun d B Q => sm_W (d + 3) 211 0 [vo 11, vi (M 0 0 (8 * n + 1)), vi (M 0 0 (8 * n + 2)), vi (M 0 0 (8 * n + 3))] [] (sm_G0 nL) B Q) (fun A B h => q75 h hn (M 0 0 (8 * n + 1)) (M 0 0 (8 * n + 2)) (M 0 0 (8 * n + 3)) nL)
  have a1 : nI (8 * n) + 1 = nI (8 * n + 1) := by show nI (8 * n) + nI 1 = _; rw [nI_add]
  have b1 : sm_in (nI (8 * n + 1)) nL = true := mm_in (by omega) hL
  have c1 : (nI (8 * n + 1)).toNatClampNeg = 8 * n + 1 := nI_clamp (by omega)
  have a2 : nI (8 * n) + 2 = nI (8 * n + 2) := by show nI (8 * n) + nI 2 = _; rw [nI_add]
  have b2 : sm_in (nI (8 * n + 2)) nL = true := mm_in (by omega) hL
  have c2 : (nI (8 * n + 2)).toNatClampNeg = 8 * n + 2 := nI_clamp (by omega)
  have a3 : nI (8 * n) + 3 = nI (8 * n + 3) := by show nI (8 * n) + nI 3 = _; rw [nI_add]
  have b3 : sm_in (nI (8 * n + 3)) nL = true := mm_in (by omega) hL
  have c3 : (nI (8 * n + 3)).toNatClampNeg = 8 * n + 3 := nI_clamp (by omega)
  refine ⟨M2, hI2, fun d Q => ?_⟩
  rw [BL_894, a1, a2, a3, mm_ck b1, mm_ck b2, mm_ck b3, c1, c2, c3]
  refine (c (d + 8) _).trans ?_
  rw [sm_push_s, BL_913, a1, a2, a3, mm_ck b1, mm_ck b2, mm_ck b3, c1, c2, c3, f0 0 (8 * n + 1), f0 0 (8 * n + 2), f0 0 (8 * n + 3)]
  refine (e (d + 7) _).trans ?_
  rw [sm_push_s, BL_932, mm_bt rfl]
theorem BL_937 (d nL : Nat) (x3 : Int32) (M : sm_M) (Q : sm_Q) : sm_W (d + 1) 0 937 [vo 0, vo 10, vo 11, vi x3] [] (sm_G0 nL) M Q = sm_Ck (sm_in (x3 + 1) nL) (sm_Ck (sm_in (x3 + 2) nL) (sm_Ck (sm_in (x3 + 3) nL) (sm_W d 78 0 [vo 10, vi (M 0 0 (x3 + 1).toNatClampNeg), vi (M 0 0 (x3 + 2).toNatClampNeg), vi (M 0 0 (x3 + 3).toNatClampNeg)] [] (sm_G0 nL) M (fun r G1 M1 => sm_W (d + 1) 0 956 [vo 0, vo 10, vo 11, vi x3] (sm_push r []) G1 M1 Q)))) := (sm_I_eq 17 _ _ _ _ _ _ _ _).trans rfl
theorem BL_956 (d nL : Nat) (x3 s1 : Int32) (M : sm_M) (Q : sm_Q) : sm_W (d + 1) 0 956 [vo 0, vo 10, vo 11, vi x3] [Sum.inl s1] (sm_G0 nL) M Q = sm_Ck (sm_in (x3 + 1) nL) (sm_Ck (sm_in (x3 + 2) nL) (sm_Ck (sm_in (x3 + 3) nL) (sm_W d 214 0 [vo 11, vi (M 0 0 (x3 + 1).toNatClampNeg), vi (M 0 0 (x3 + 2).toNatClampNeg), vi (M 0 0 (x3 + 3).toNatClampNeg)] [] (sm_G0 nL) M (fun r G1 M1 => sm_W (d + 1) 0 975 [vo 0, vo 10, vo 11, vi x3] (sm_push r [Sum.inl s1]) G1 M1 Q)))) := (sm_I_eq 17 _ _ _ _ _ _ _ _).trans rfl
theorem BL_975 (d nL : Nat) (x3 s1 s2 : Int32) (M : sm_M) (Q : sm_Q) : sm_W d 0 975 [vo 0, vo 10, vo 11, vi x3] [Sum.inl s2, Sum.inl s1] (sm_G0 nL) M Q = sm_Br (decide (s1 = s2)) (sm_W d 0 1871 [vo 0, vo 10, vo 11, vi x3] [] (sm_G0 nL) M Q) (sm_W d 0 978 [vo 0, vo 10, vo 11, vi x3] [] (sm_G0 nL) M Q) := (sm_I_eq 1 _ _ _ _ _ _ _ _).trans rfl
theorem Lc_937 {n nL : Nat} {M : sm_M} (hI : InvP n M M) (hn : n < 2 ^ 29) (hL : nL < 2 ^ 31) (h8 : 8 * n + 8 ≤ nL) : Lcase n nL M 937 := by
  obtain ⟨r, M1, M2, c, e, f0, hI2⟩ := step_of (nL := nL) hI (fun d A Q => sm_W (d + 5) 78 0 [vo 10, vi (M 0 0 (8 * n + 1)), vi (M 0 0 (8 * n + 2)), vi (M 0 0 (8 * n + 3))] [] (sm_G0 nL) A Q) (fun d B Q => sm_W (d + 5) 214 0 [vo 11, vi (M 0 0 (8 * n + 1)), vi (M 0 0 (8 * n + 2)), vi (M 0 0 (8 * n + 3))] [] (sm_G0 nL) B Q) (fun A B h => q78 h hn (M 0 0 (8 * n + 1)) (M 0 0 (8 * n + 2)) (M 0 0 (8 * n + 3)) nL)
  have a1 : nI (8 * n) + 1 = nI (8 * n + 1) := by show nI (8 * n) + nI 1 = _; rw [nI_add]
  have b1 : sm_in (nI (8 * n + 1)) nL = true := mm_in (by omega) hL
  have c1 : (nI (8 * n + 1)).toNatClampNeg = 8 * n + 1 := nI_clamp (by omega)
  have a2 : nI (8 * n) + 2 = nI (8 * n + 2) := by show nI (8 * n) + nI 2 = _; rw [nI_add]
  have b2 : sm_in (nI (8 * n + 2)) nL = true := mm_in (by omega) hL
  have c2 : (nI (8 * n + 2)).toNatClampNeg = 8 * n + 2 := nI_clamp (by omega)
  have a3 : nI (8 * n) + 3 = nI (8 * n + 3) := by show nI (8 * n) + nI 3 = _; rw [nI_add]
  have b3 : sm_in (nI (8 * n + 3)) nL = true := mm_in (by omega) hL
  have c3 : (nI (8 * n + 3)).toNatClampNeg = 8 * n + 3 := nI_clamp (by omega)
  refine ⟨M2, hI2, fun d Q => ?_⟩
  rw [BL_937, a1, a2, a3, mm_ck b1, mm_ck b2, mm_ck b3, c1, c2, c3]
  refine (c (d + 5) _).trans ?_
  rw [sm_push_s, BL_956, a1, a2, a3, mm_ck b1, mm_ck b2, mm_ck b3, c1, c2, c3, f0 0 (8 * n + 1), f0 0 (8 * n + 2), f0 0 (8 * n + 3)]
  refine (e (d + 5) _).trans ?_
  rw [sm_push_s, BL_975, mm_bt rfl]
theorem BL_980 (d nL : Nat) (x3 : Int32) (M : sm_M) (Q : sm_Q) : sm_W (d + 1) 0 980 [vo 0, vo 10, vo 11, vi x3] [] (sm_G0 nL) M Q = sm_Ck (sm_in (x3 + 1) nL) (sm_Ck (sm_in (x3 + 2) nL) (sm_Ck (sm_in (x3 + 3) nL) (sm_Ck (sm_in (x3 + 4) nL) (sm_W d 90 0 [vo 10, vi (M 0 0 (x3 + 1).toNatClampNeg), vi (M 0 0 (x3 + 2).toNatClampNeg), vi (M 0 0 (x3 + 3).toNatClampNeg), vi (M 0 0 (x3 + 4).toNatClampNeg)] [] (sm_G0 nL) M (fun r G1 M1 => sm_W (d + 1) 0 1004 [vo 0, vo 10, vo 11, vi x3] (sm_push r []) G1 M1 Q))))) := (sm_I_eq 22 _ _ _ _ _ _ _ _).trans rfl
theorem BL_1004 (d nL : Nat) (x3 s1 : Int32) (M : sm_M) (Q : sm_Q) : sm_W (d + 1) 0 1004 [vo 0, vo 10, vo 11, vi x3] [Sum.inl s1] (sm_G0 nL) M Q = sm_Ck (sm_in (x3 + 1) nL) (sm_Ck (sm_in (x3 + 2) nL) (sm_Ck (sm_in (x3 + 3) nL) (sm_Ck (sm_in (x3 + 4) nL) (sm_W d 218 0 [vo 11, vi (M 0 0 (x3 + 1).toNatClampNeg), vi (M 0 0 (x3 + 2).toNatClampNeg), vi (M 0 0 (x3 + 3).toNatClampNeg), vi (M 0 0 (x3 + 4).toNatClampNeg)] [] (sm_G0 nL) M (fun r G1 M1 => sm_W (d + 1) 0 1028 [vo 0, vo 10, vo 11, vi x3] (sm_push r [Sum.inl s1]) G1 M1 Q))))) := (sm_I_eq 22 _ _ _ _ _ _ _ _).trans rfl
theorem BL_1028 (d nL : Nat) (x3 s1 s2 : Int32) (M : sm_M) (Q : sm_Q) : sm_W d 0 1028 [vo 0, vo 10, vo 11, vi x3] [Sum.inl s2, Sum.inl s1] (sm_G0 nL) M Q = sm_Br (decide (s1 = s2)) (sm_W d 0 1871 [vo 0, vo 10, vo 11, vi x3] [] (sm_G0 nL) M Q) (sm_W d 0 1031 [vo 0, vo 10, vo 11, vi x3] [] (sm_G0 nL) M Q) := (sm_I_eq 1 _ _ _ _ _ _ _ _).trans rfl
theorem Lc_980 {n nL : Nat} {M : sm_M} (hI : InvP n M M) (hn : n < 2 ^ 29) (hL : nL < 2 ^ 31) (h8 : 8 * n + 8 ≤ nL) : Lcase n nL M 980 := by
  obtain ⟨r, M1, M2, c, e, f0, hI2⟩ := step_of (nL := nL) hI (fun d A Q => sm_W (d + 1) 90 0 [vo 10, vi (M 0 0 (8 * n + 1)), vi (M 0 0 (8 * n + 2)), vi (M 0 0 (8 * n + 3)), vi (M 0 0 (8 * n + 4))] [] (sm_G0 nL) A Q) (fun d B Q => sm_W (d + 2) 218 0 [vo 11, vi (M 0 0 (8 * n + 1)), vi (M 0 0 (8 * n + 2)), vi (M 0 0 (8 * n + 3)), vi (M 0 0 (8 * n + 4))] [] (sm_G0 nL) B Q) (fun A B h => q90 h hn (M 0 0 (8 * n + 1)) (M 0 0 (8 * n + 2)) (M 0 0 (8 * n + 3)) (M 0 0 (8 * n + 4)) nL)
  have a1 : nI (8 * n) + 1 = nI (8 * n + 1) := by show nI (8 * n) + nI 1 = _; rw [nI_add]
  have b1 : sm_in (nI (8 * n + 1)) nL = true := mm_in (by omega) hL
  have c1 : (nI (8 * n + 1)).toNatClampNeg = 8 * n + 1 := nI_clamp (by omega)
  have a2 : nI (8 * n) + 2 = nI (8 * n + 2) := by show nI (8 * n) + nI 2 = _; rw [nI_add]
  have b2 : sm_in (nI (8 * n + 2)) nL = true := mm_in (by omega) hL
  have c2 : (nI (8 * n + 2)).toNatClampNeg = 8 * n + 2 := nI_clamp (by omega)
  have a3 : nI (8 * n) + 3 = nI (8 * n + 3) := by show nI (8 * n) + nI 3 = _; rw [nI_add]
  have b3 : sm_in (nI (8 * n + 3)) nL = true := mm_in (by omega) hL
  have c3 : (nI (8 * n + 3)).toNatClampNeg = 8 * n + 3 := nI_clamp (by omega)
  have a4 : nI (8 * n) + 4 = nI (8 * n + 4) := by show nI (8 * n) + nI 4 = _; rw [nI_add]
  have b4 : sm_in (nI (8 * n + 4)) nL = true := mm_in (by omega) hL
  have c4 : (nI (8 * n + 4)).toNatClampNeg = 8 * n + 4 := nI_clamp (by omega)
  refine ⟨M2, hI2, fun d Q => ?_⟩
  rw [BL_980, a1, a2, a3, a4, mm_ck b1, mm_ck b2, mm_ck b3, mm_ck b4, c1, c2, c3, c4]
  refine (c (d + 9) _).trans ?_
  rw [sm_push_s, BL_1004, a1, a2, a3, a4, mm_ck b1, mm_ck b2, mm_ck b3, mm_ck b4, c1, c2, c3, c4, f0 0 (8 * n + 1), f0 0 (8 * n + 2), f0 0 (8 * n + 3), f0 0 (8 * n + 4)]
  refine (e (d + 8) _).trans ?_
  rw [sm_push_s, BL_1028, mm_bt rfl]
theorem BL_1033 (d nL : Nat) (x3 : Int32) (M : sm_M) (Q : sm_Q) : sm_W (d + 1) 0 1033 [vo 0, vo 10, vo 11, vi x3] [] (sm_G0 nL) M Q = sm_Ck (sm_in (x3 + 1) nL) (sm_Ck (sm_in (x3 + 2) nL) (sm_W d 93 0 [vo 10, vi (M 0 0 (x3 + 1).toNatClampNeg), vi (M 0 0 (x3 + 2).toNatClampNeg), none] [] (sm_G0 nL) M (fun r G1 M1 => sm_W (d + 1) 0 1047 [vo 0, vo 10, vo 11, vi x3] (sm_push r []) G1 M1 Q))) := (sm_I_eq 12 _ _ _ _ _ _ _ _).trans rfl
theorem BL_1047 (d nL : Nat) (x3 s1 : Int32) (M : sm_M) (Q : sm_Q) : sm_W (d + 1) 0 1047 [vo 0, vo 10, vo 11, vi x3] [Sum.inl s1] (sm_G0 nL) M Q = sm_Ck (sm_in (x3 + 1) nL) (sm_Ck (sm_in (x3 + 2) nL) (sm_W d 219 0 [vo 11, vi (M 0 0 (x3 + 1).toNatClampNeg), vi (M 0 0 (x3 + 2).toNatClampNeg)] [] (sm_G0 nL) M (fun r G1 M1 => sm_W (d + 1) 0 1061 [vo 0, vo 10, vo 11, vi x3] (sm_push r [Sum.inl s1]) G1 M1 Q))) := (sm_I_eq 12 _ _ _ _ _ _ _ _).trans rfl
theorem BL_1061 (d nL : Nat) (x3 s1 s2 : Int32) (M : sm_M) (Q : sm_Q) : sm_W d 0 1061 [vo 0, vo 10, vo 11, vi x3] [Sum.inl s2, Sum.inl s1] (sm_G0 nL) M Q = sm_Br (decide (s1 = s2)) (sm_W d 0 1871 [vo 0, vo 10, vo 11, vi x3] [] (sm_G0 nL) M Q) (sm_W d 0 1064 [vo 0, vo 10, vo 11, vi x3] [] (sm_G0 nL) M Q) := (sm_I_eq 1 _ _ _ _ _ _ _ _).trans rfl
theorem Lc_1033 {n nL : Nat} {M : sm_M} (hI : InvP n M M) (hn : n < 2 ^ 29) (hL : nL < 2 ^ 31) (h8 : 8 * n + 8 ≤ nL) : Lcase n nL M 1033 := by
  obtain ⟨r, M1, M2, c, e, f0, hI2⟩ := step_of (nL := nL) hI (fun d A Q => sm_W (d + 6) 93 0 [vo 10, vi (M 0 0 (8 * n + 1)), vi (M 0 0 (8 * n + 2)), none] [] (sm_G0 nL) A Q) (fun d B Q => sm_W (d + 7) 219 0 [vo 11, vi (M 0 0 (8 * n + 1)), vi (M 0 0 (8 * n + 2))] [] (sm_G0 nL) B Q) (fun A B h => q93 h hn (M 0 0 (8 * n + 1)) (M 0 0 (8 * n + 2)) nL)
  have a1 : nI (8 * n) + 1 = nI (8 * n + 1) := by show nI (8 * n) + nI 1 = _; rw [nI_add]
  have b1 : sm_in (nI (8 * n + 1)) nL = true := mm_in (by omega) hL
  have c1 : (nI (8 * n + 1)).toNatClampNeg = 8 * n + 1 := nI_clamp (by omega)
  have a2 : nI (8 * n) + 2 = nI (8 * n + 2) := by show nI (8 * n) + nI 2 = _; rw [nI_add]
  have b2 : sm_in (nI (8 * n + 2)) nL = true := mm_in (by omega) hL
  have c2 : (nI (8 * n + 2)).toNatClampNeg = 8 * n + 2 := nI_clamp (by omega)
  refine ⟨M2, hI2, fun d Q => ?_⟩
  rw [BL_1033, a1, a2, mm_ck b1, mm_ck b2, c1, c2]
  refine (c (d + 4) _).trans ?_
  rw [sm_push_s, BL_1047, a1, a2, mm_ck b1, mm_ck b2, c1, c2, f0 0 (8 * n + 1), f0 0 (8 * n + 2)]
  refine (e (d + 3) _).trans ?_
  rw [sm_push_s, BL_1061, mm_bt rfl]
theorem BL_1066 (d nL : Nat) (x3 : Int32) (M : sm_M) (Q : sm_Q) : sm_W (d + 1) 0 1066 [vo 0, vo 10, vo 11, vi x3] [] (sm_G0 nL) M Q = sm_Ck (sm_in (x3 + 1) nL) (sm_Ck (sm_in (x3 + 2) nL) (sm_W d 102 0 [vo 10, vi (M 0 0 (x3 + 1).toNatClampNeg), vi (M 0 0 (x3 + 2).toNatClampNeg), none] [] (sm_G0 nL) M (fun r G1 M1 => sm_W (d + 1) 0 1080 [vo 0, vo 10, vo 11, vi x3] (sm_push r []) G1 M1 Q))) := (sm_I_eq 12 _ _ _ _ _ _ _ _).trans rfl
theorem BL_1080 (d nL : Nat) (x3 s1 : Int32) (M : sm_M) (Q : sm_Q) : sm_W (d + 1) 0 1080 [vo 0, vo 10, vo 11, vi x3] [Sum.inl s1] (sm_G0 nL) M Q = sm_Ck (sm_in (x3 + 1) nL) (sm_Ck (sm_in (x3 + 2) nL) (sm_W d 227 0 [vo 11, vi (M 0 0 (x3 + 1).toNatClampNeg), vi (M 0 0 (x3 + 2).toNatClampNeg)] [] (sm_G0 nL) M (fun r G1 M1 => sm_W (d + 1) 0 1094 [vo 0, vo 10, vo 11, vi x3] (sm_push r [Sum.inl s1]) G1 M1 Q))) := (sm_I_eq 12 _ _ _ _ _ _ _ _).trans rfl
theorem BL_1094 (d nL : Nat) (x3 s1 s2 : Int32) (M : sm_M) (Q : sm_Q) : sm_W d 0 1094 [vo 0, vo 10, vo 11, vi x3] [Sum.inl s2, Sum.inl s1] (sm_G0 nL) M Q = sm_Br (decide (s1 = s2)) (sm_W d 0 1871 [vo 0, vo 10, vo 11, vi x3] [] (sm_G0 nL) M Q) (sm_W d 0 1097 [vo 0, vo 10, vo 11, vi x3] [] (sm_G0 nL) M Q) := (sm_I_eq 1 _ _ _ _ _ _ _ _).trans rfl
theorem Lc_1066 {n nL : Nat} {M : sm_M} (hI : InvP n M M) (hn : n < 2 ^ 29) (hL : nL < 2 ^ 31) (h8 : 8 * n + 8 ≤ nL) : Lcase n nL M 1066 := by
  obtain ⟨r, M1, M2, c, e, f0, hI2⟩ := step_of (nL := nL) hI (fun d A Q => sm_W (d + 6) 102 0 [vo 10, vi (M 0 0 (8 * n + 1)), vi (M 0 0 (8 * n + 2)), none] [] (sm_G0 nL) A Q) (fun d B Q => sm_W (d + 6) 227 0 [vo 11, vi (M 0 0 (8 * n + 1)), vi (M 0 0 (8 * n + 2))] [] (sm_G0 nL) B Q) (fun A B h => q102 h hn (M 0 0 (8 * n + 1)) (M 0 0 (8 * n + 2)) nL)
  have a1 : nI (8 * n) + 1 = nI (8 * n + 1) := by show nI (8 * n) + nI 1 = _; rw [nI_add]
  have b1 : sm_in (nI (8 * n + 1)) nL = true := mm_in (by omega) hL
  have c1 : (nI (8 * n + 1)).toNatClampNeg = 8 * n + 1 := nI_clamp (by omega)
  have a2 : nI (8 * n) + 2 = nI (8 * n + 2) := by show nI (8 * n) + nI 2 = _; rw [nI_add]
  have b2 : sm_in (nI (8 * n + 2)) nL = true := mm_in (by omega) hL
  have c2 : (nI (8 * n + 2)).toNatClampNeg = 8 * n + 2 := nI_clamp (by omega)
  refine ⟨M2, hI2, fun d Q => ?_⟩
  rw [BL_1066, a1, a2, mm_ck b1, mm_ck b2, c1, c2]
  refine (c (d + 4) _).trans ?_
  rw [sm_push_s, BL_1080, a1, a2, mm_ck b1, mm_ck b2, c1, c2, f0 0 (8 * n + 1), f0 0 (8 * n + 2)]
  refine (e (d + 4) _).trans ?_
  rw [sm_push_s, BL_1094, mm_bt rfl]
theorem BL_1099 (d nL : Nat) (x3 : Int32) (M : sm_M) (Q : sm_Q) : sm_W (d + 1) 0 1099 [vo 0, vo 10, vo 11, vi x3] [] (sm_G0 nL) M Q = sm_Ck (sm_in (x3 + 1) nL) (sm_W d 103 0 [vo 10, vi (M 0 0 (x3 + 1).toNatClampNeg), none] [] (sm_G0 nL) M (fun r G1 M1 => sm_W (d + 1) 0 1108 [vo 0, vo 10, vo 11, vi x3] (sm_push r []) G1 M1 Q)) := (sm_I_eq 7 _ _ _ _ _ _ _ _).trans rfl
theorem BL_1108 (d nL : Nat) (x3 s1 : Int32) (M : sm_M) (Q : sm_Q) : sm_W (d + 1) 0 1108 [vo 0, vo 10, vo 11, vi x3] [Sum.inl s1] (sm_G0 nL) M Q = sm_Ck (sm_in (x3 + 1) nL) (sm_W d 228 0 [vo 11, vi (M 0 0 (x3 + 1).toNatClampNeg), none, none, none] [] (sm_G0 nL) M (fun r G1 M1 => sm_W (d + 1) 0 1117 [vo 0, vo 10, vo 11, vi x3] (sm_push r [Sum.inl s1]) G1 M1 Q)) := (sm_I_eq 7 _ _ _ _ _ _ _ _).trans rfl
theorem BL_1117 (d nL : Nat) (x3 s1 s2 : Int32) (M : sm_M) (Q : sm_Q) : sm_W d 0 1117 [vo 0, vo 10, vo 11, vi x3] [Sum.inl s2, Sum.inl s1] (sm_G0 nL) M Q = sm_Br (decide (s1 = s2)) (sm_W d 0 1871 [vo 0, vo 10, vo 11, vi x3] [] (sm_G0 nL) M Q) (sm_W d 0 1120 [vo 0, vo 10, vo 11, vi x3] [] (sm_G0 nL) M Q) := (sm_I_eq 1 _ _ _ _ _ _ _ _).trans rfl
theorem Lc_1099 {n nL : Nat} {M : sm_M} (hI : InvP n M M) (hn : n < 2 ^ 29) (hL : nL < 2 ^ 31) (h8 : 8 * n + 8 ≤ nL) : Lcase n nL M 1099 := by
  obtain ⟨r, M1, M2, c, e, f0, hI2⟩ := step_of (nL := nL) hI (fun d A Q => sm_W (d + 6) 103 0 [vo 10, vi (M 0 0 (8 * n + 1)), none] [] (sm_G0 nL) A Q) (fun d B Q => sm_W (d + 7) 228 0 [vo 11, vi (M 0 0 (8 * n + 1)), none, none, none] [] (sm_G0 nL) B Q) (fun A B h => q103 h hn (M 0 0 (8 * n + 1)) nL)
  have a1 : nI (8 * n) + 1 = nI (8 * n + 1) := by show nI (8 * n) + nI 1 = _; rw [nI_add]
  have b1 : sm_in (nI (8 * n + 1)) nL = true := mm_in (by omega) hL
  have c1 : (nI (8 * n + 1)).toNatClampNeg = 8 * n + 1 := nI_clamp (by omega)
  refine ⟨M2, hI2, fun d Q => ?_⟩
  rw [BL_1099, a1, mm_ck b1, c1]
  refine (c (d + 4) _).trans ?_
  rw [sm_push_s, BL_1108, a1, mm_ck b1, c1, f0 0 (8 * n + 1)]
  refine (e (d + 3) _).trans ?_
  rw [sm_push_s, BL_1117, mm_bt rfl]
theorem BL_1122 (d nL : Nat) (x3 : Int32) (M : sm_M) (Q : sm_Q) : sm_W (d + 1) 0 1122 [vo 0, vo 10, vo 11, vi x3] [] (sm_G0 nL) M Q = sm_Ck (sm_in (x3 + 1) nL) (sm_Ck (sm_in (x3 + 2) nL) (sm_W d 107 0 [vo 10, vi (M 0 0 (x3 + 1).toNatClampNeg), vi (M 0 0 (x3 + 2).toNatClampNeg), none] [] (sm_G0 nL) M (fun r G1 M1 => sm_W (d + 1) 0 1136 [vo 0, vo 10, vo 11, vi x3] (sm_push r []) G1 M1 Q))) := (sm_I_eq 12 _ _ _ _ _ _ _ _).trans rfl
theorem BL_1136 (d nL : Nat) (x3 s1 : Int32) (M : sm_M) (Q : sm_Q) : sm_W (d + 1) 0 1136 [vo 0, vo 10, vo 11, vi x3] [Sum.inl s1] (sm_G0 nL) M Q = sm_Ck (sm_in (x3 + 1) nL) (sm_Ck (sm_in (x3 + 2) nL) (sm_W d 230 0 [vo 11, vi (M 0 0 (x3 + 1).toNatClampNeg), vi (M 0 0 (x3 + 2).toNatClampNeg), none] [] (sm_G0 nL) M (fun r G1 M1 => sm_W (d + 1) 0 1150 [vo 0, vo 10, vo 11, vi x3] (sm_push r [Sum.inl s1]) G1 M1 Q))) := (sm_I_eq 12 _ _ _ _ _ _ _ _).trans rfl
theorem BL_1150 (d nL : Nat) (x3 s1 s2 : Int32) (M : sm_M) (Q : sm_Q) : sm_W d 0 1150 [vo 0, vo 10, vo 11, vi x3] [Sum.inl s2, Sum.inl s1] (sm_G0 nL) M Q = sm_Br (decide (s1 = s2)) (sm_W d 0 1871 [vo 0, vo 10, vo 11, vi x3] [] (sm_G0 nL) M Q) (sm_W d 0 1153 [vo 0, vo 10, vo 11, vi x3] [] (sm_G0 nL) M Q) := (sm_I_eq 1 _ _ _ _ _ _ _ _).trans rfl
theorem Lc_1122 {n nL : Nat} {M : sm_M} (hI : InvP n M M) (hn : n < 2 ^ 29) (hL : nL < 2 ^ 31) (h8 : 8 * n + 8 ≤ nL) : Lcase n nL M 1122 := by
  obtain ⟨r, M1, M2, c, e, f0, hI2⟩ := step_of (nL := nL) hI (fun d A Q => sm_W (d + 3) 107 0 [vo 10, vi (M 0 0 (8 * n + 1)), vi (M 0 0 (8 * n + 2)), none] [] (sm_G0 nL) A Q) (fun d B Q => sm_W (d + 2) 230 0 [vo 11, vi (M 0 0 (8 * n + 1)), vi (M 0 0 (8 * n + 2)), none] [] (sm_G0 nL) B Q) (fun A B h => q107 h hn (M 0 0 (8 * n + 1)) (M 0 0 (8 * n + 2)) nL)
  have a1 : nI (8 * n) + 1 = nI (8 * n + 1) := by show nI (8 * n) + nI 1 = _; rw [nI_add]
  have b1 : sm_in (nI (8 * n + 1)) nL = true := mm_in (by omega) hL
  have c1 : (nI (8 * n + 1)).toNatClampNeg = 8 * n + 1 := nI_clamp (by omega)
  have a2 : nI (8 * n) + 2 = nI (8 * n + 2) := by show nI (8 * n) + nI 2 = _; rw [nI_add]
  have b2 : sm_in (nI (8 * n + 2)) nL = true := mm_in (by omega) hL
  have c2 : (nI (8 * n + 2)).toNatClampNeg = 8 * n + 2 := nI_clamp (by omega)
  refine ⟨M2, hI2, fun d Q => ?_⟩
  rw [BL_1122, a1, a2, mm_ck b1, mm_ck b2, c1, c2]
  refine (c (d + 7) _).trans ?_
  rw [sm_push_s, BL_1136, a1, a2, mm_ck b1, mm_ck b2, c1, c2, f0 0 (8 * n + 1), f0 0 (8 * n + 2)]
  refine (e (d + 8) _).trans ?_
  rw [sm_push_s, BL_1150, mm_bt rfl]
theorem BL_1155 (d nL : Nat) (x3 : Int32) (M : sm_M) (Q : sm_Q) : sm_W (d + 1) 0 1155 [vo 0, vo 10, vo 11, vi x3] [] (sm_G0 nL) M Q = sm_Ck (sm_in (x3 + 1) nL) (sm_W d 110 0 [vo 10, vi (M 0 0 (x3 + 1).toNatClampNeg), none] [] (sm_G0 nL) M (fun r G1 M1 => sm_W (d + 1) 0 1164 [vo 0, vo 10, vo 11, vi x3] (sm_push r []) G1 M1 Q)) := (sm_I_eq 7 _ _ _ _ _ _ _ _).trans rfl
theorem BL_1164 (d nL : Nat) (x3 s1 : Int32) (M : sm_M) (Q : sm_Q) : sm_W (d + 1) 0 1164 [vo 0, vo 10, vo 11, vi x3] [Sum.inl s1] (sm_G0 nL) M Q = sm_Ck (sm_in (x3 + 1) nL) (sm_W d 232 0 [vo 11, vi (M 0 0 (x3 + 1).toNatClampNeg)] [] (sm_G0 nL) M (fun r G1 M1 => sm_W (d + 1) 0 1173 [vo 0, vo 10, vo 11, vi x3] (sm_push r [Sum.inl s1]) G1 M1 Q)) := (sm_I_eq 7 _ _ _ _ _ _ _ _).trans rfl
theorem BL_1173 (d nL : Nat) (x3 s1 s2 : Int32) (M : sm_M) (Q : sm_Q) : sm_W d 0 1173 [vo 0, vo 10, vo 11, vi x3] [Sum.inl s2, Sum.inl s1] (sm_G0 nL) M Q = sm_Br (decide (s1 = s2)) (sm_W d 0 1871 [vo 0, vo 10, vo 11, vi x3] [] (sm_G0 nL) M Q) (sm_W d 0 1176 [vo 0, vo 10, vo 11, vi x3] [] (sm_G0 nL) M Q) := (sm_I_eq 1 _ _ _ _ _ _ _ _).trans rfl
theorem Lc_1155 {n nL : Nat} {M : sm_M} (hI : InvP n M M) (hn : n < 2 ^ 29) (hL : nL < 2 ^ 31) (h8 : 8 * n + 8 ≤ nL) : Lcase n nL M 1155 := by
  obtain ⟨r, M1, M2, c, e, f0, hI2⟩ := step_of (nL := nL) hI (fun d A Q => sm_W (d + 1) 110 0 [vo 10, vi (M 0 0 (8 * n + 1)), none] [] (sm_G0 nL) A Q) (fun d B Q => sm_W (d + 2) 232 0 [vo 11, vi (M 0 0 (8 * n + 1))] [] (sm_G0 nL) B Q) (fun A B h => q110 h hn (M 0 0 (8 * n + 1)) nL)
  have a1 : nI (8 * n) + 1 = nI (8 * n + 1) := by show nI (8 * n) + nI 1 = _; rw [nI_add]
  have b1 : sm_in (nI (8 * n + 1)) nL = true := mm_in (by omega) hL
  have c1 : (nI (8 * n + 1)).toNatClampNeg = 8 * n + 1 := nI_clamp (by omega)
  refine ⟨M2, hI2, fun d Q => ?_⟩
  rw [BL_1155, a1, mm_ck b1, c1]
  refine (c (d + 9) _).trans ?_
  rw [sm_push_s, BL_1164, a1, mm_ck b1, c1, f0 0 (8 * n + 1)]
  refine (e (d + 8) _).trans ?_
  rw [sm_push_s, BL_1173, mm_bt rfl]
theorem BL_1178 (d nL : Nat) (x3 : Int32) (M : sm_M) (Q : sm_Q) : sm_W (d + 1) 0 1178 [vo 0, vo 10, vo 11, vi x3] [] (sm_G0 nL) M Q = sm_W d 111 0 [vo 10] [] (sm_G0 nL) M (fun r G1 M1 => sm_W (d + 1) 0 1182 [vo 0, vo 10, vo 11, vi x3] (sm_push r []) G1 M1 Q) := (sm_I_eq 2 _ _ _ _ _ _ _ _).trans rfl
theorem BL_1182 (d nL : Nat) (x3 s1 : Int32) (M : sm_M) (Q : sm_Q) : sm_W (d + 1) 0 1182 [vo 0, vo 10, vo 11, vi x3] [Sum.inl s1] (sm_G0 nL) M Q = sm_W d 233 0 [vo 11, none, none, none, none] [] (sm_G0 nL) M (fun r G1 M1 => sm_W (d + 1) 0 1186 [vo 0, vo 10, vo 11, vi x3] (sm_push r [Sum.inl s1]) G1 M1 Q) := (sm_I_eq 2 _ _ _ _ _ _ _ _).trans rfl
theorem BL_1186 (d nL : Nat) (x3 s1 s2 : Int32) (M : sm_M) (Q : sm_Q) : sm_W d 0 1186 [vo 0, vo 10, vo 11, vi x3] [Sum.inl s2, Sum.inl s1] (sm_G0 nL) M Q = sm_Br (decide (s1 = s2)) (sm_W d 0 1871 [vo 0, vo 10, vo 11, vi x3] [] (sm_G0 nL) M Q) (sm_W d 0 1189 [vo 0, vo 10, vo 11, vi x3] [] (sm_G0 nL) M Q) := (sm_I_eq 1 _ _ _ _ _ _ _ _).trans rfl
theorem Lc_1178 {n nL : Nat} {M : sm_M} (hI : InvP n M M) (hn : n < 2 ^ 29) (hL : nL < 2 ^ 31) (h8 : 8 * n + 8 ≤ nL) : Lcase n nL M 1178 := by
  obtain ⟨r, M1, M2, c, e, f0, hI2⟩ := step_of (nL := nL) hI (fun d A Q => sm_W (d + 3) 111 0 [vo 10] [] (sm_G0 nL) A Q) (fun d B Q => sm_W (d + 2) 233 0 [vo 11, none, none, none, none] [] (sm_G0 nL) B Q) (fun A B h => q111 h hn  nL)
  refine ⟨M2, hI2, fun d Q => ?_⟩
  rw [BL_1178]
  refine (c (d + 7) _).trans ?_
  rw [sm_push_s, BL_1182]
  refine (e (d + 8) _).trans ?_
  rw [sm_push_s, BL_1186, mm_bt rfl]
theorem BL_1191 (d nL : Nat) (x3 : Int32) (M : sm_M) (Q : sm_Q) : sm_W (d + 1) 0 1191 [vo 0, vo 10, vo 11, vi x3] [] (sm_G0 nL) M Q = sm_Ck (sm_in (x3 + 1) nL) (sm_Ck (sm_in (x3 + 2) nL) (sm_W d 114 0 [vo 10, vi (M 0 0 (x3 + 1).toNatClampNeg), vi (M 0 0 (x3 + 2).toNatClampNeg)] [] (sm_G0 nL) M (fun r G1 M1 => sm_W (d + 1) 0 1205 [vo 0, vo 10, vo 11, vi x3] (sm_push r []) G1 M1 Q))) := (sm_I_eq 12 _ _ _ _ _ _ _ _).trans rfl
theorem BL_1205 (d nL : Nat) (x3 s1 : Int32) (M : sm_M) (Q : sm_Q) : sm_W (d + 1) 0 1205 [vo 0, vo 10, vo 11, vi x3] [Sum.inl s1] (sm_G0 nL) M Q = sm_Ck (sm_in (x3 + 1) nL) (sm_Ck (sm_in (x3 + 2) nL) (sm_W d 236 0 [vo 11, vi (M 0 0 (x3 + 1).toNatClampNeg), vi (M 0 0 (x3 + 2).toNatClampNeg), none, none] [] (sm_G0 nL) M (fun r G1 M1 => sm_W (d + 1) 0 1219 [vo 0, vo 10, vo 11, vi x3] (sm_push r [Sum.inl s1]) G1 M1 Q))) := (sm_I_eq 12 _ _ _ _ _ _ _ _).trans rfl
theorem BL_1219 (d nL : Nat) (x3 s1 s2 : Int32) (M : sm_M) (Q : sm_Q) : sm_W d 0 1219 [vo 0, vo 10, vo 11, vi x3] [Sum.inl s2, Sum.inl s1] (sm_G0 nL) M Q = sm_Br (decide (s1 = s2)) (sm_W d 0 1871 [vo 0, vo 10, vo 11, vi x3] [] (sm_G0 nL) M Q) (sm_W d 0 1222 [vo 0, vo 10, vo 11, vi x3] [] (sm_G0 nL) M Q) := (sm_I_eq 1 _ _ _ _ _ _ _ _).trans rfl
theorem Lc_1191 {n nL : Nat} {M : sm_M} (hI : InvP n M M) (hn : n < 2 ^ 29) (hL : nL < 2 ^ 31) (h8 : 8 * n + 8 ≤ nL) : Lcase n nL M 1191 := by
  obtain ⟨r, M1, M2, c, e, f0, hI2⟩ := step_of (nL := nL) hI (fun d A Q => sm_W (d + 2) 114 0 [vo 10, vi (M 0 0 (8 * n + 1)), vi (M 0 0 (8 * n + 2))] [] (sm_G0 nL) A Q) (fun d B Q => sm_W (d + 2) 236 0 [vo 11, vi (M 0 0 (8 * n + 1)), vi (M 0 0 (8 * n + 2)), none, none] [] (sm_G0 nL) B Q) (fun A B h => q114 h hn (M 0 0 (8 * n + 1)) (M 0 0 (8 * n + 2)) nL)
  have a1 : nI (8 * n) + 1 = nI (8 * n + 1) := by show nI (8 * n) + nI 1 = _; rw [nI_add]
  have b1 : sm_in (nI (8 * n + 1)) nL = true := mm_in (by omega) hL
  have c1 : (nI (8 * n + 1)).toNatClampNeg = 8 * n + 1 := nI_clamp (by omega)
  have a2 : nI (8 * n) + 2 = nI (8 * n + 2) := by show nI (8 * n) + nI 2 = _; rw [nI_add]
  have b2 : sm_in (nI (8 * n + 2)) nL = true := mm_in (by omega) hL
  have c2 : (nI (8 * n + 2)).toNatClampNeg = 8 * n + 2 := nI_clamp (by omega)
  refine ⟨M2, hI2, fun d Q => ?_⟩
  rw [BL_1191, a1, a2, mm_ck b1, mm_ck b2, c1, c2]
  refine (c (d + 8) _).trans ?_
  rw [sm_push_s, BL_1205, a1, a2, mm_ck b1, mm_ck b2, c1, c2, f0 0 (8 * n + 1), f0 0 (8 * n + 2)]
  refine (e (d + 8) _).trans ?_
  rw [sm_push_s, BL_1219, mm_bt rfl]
theorem BL_1224 (d nL : Nat) (x3 : Int32) (M : sm_M) (Q : sm_Q) : sm_W (d + 1) 0 1224 [vo 0, vo 10, vo 11, vi x3] [] (sm_G0 nL) M Q = sm_W d 116 0 [vo 10] [] (sm_G0 nL) M (fun r G1 M1 => sm_W (d + 1) 0 1228 [vo 0, vo 10, vo 11, vi x3] (sm_push r []) G1 M1 Q) := (sm_I_eq 2 _ _ _ _ _ _ _ _).trans rfl
theorem BL_1228 (d nL : Nat) (x3 s1 : Int32) (M : sm_M) (Q : sm_Q) : sm_W (d + 1) 0 1228 [vo 0, vo 10, vo 11, vi x3] [Sum.inl s1] (sm_G0 nL) M Q = sm_W d 238 0 [vo 11, none, none] [] (sm_G0 nL) M (fun r G1 M1 => sm_W (d + 1) 0 1232 [vo 0, vo 10, vo 11, vi x3] (sm_push r [Sum.inl s1]) G1 M1 Q) := (sm_I_eq 2 _ _ _ _ _ _ _ _).trans rfl
theorem BL_1232 (d nL : Nat) (x3 s1 s2 : Int32) (M : sm_M) (Q : sm_Q) : sm_W d 0 1232 [vo 0, vo 10, vo 11, vi x3] [Sum.inl s2, Sum.inl s1] (sm_G0 nL) M Q = sm_Br (decide (s1 = s2)) (sm_W d 0 1871 [vo 0, vo 10, vo 11, vi x3] [] (sm_G0 nL) M Q) (sm_W d 0 1235 [vo 0, vo 10, vo 11, vi x3] [] (sm_G0 nL) M Q) := (sm_I_eq 1 _ _ _ _ _ _ _ _).trans rfl
theorem Lc_1224 {n nL : Nat} {M : sm_M} (hI : InvP n M M) (hn : n < 2 ^ 29) (hL : nL < 2 ^ 31) (h8 : 8 * n + 8 ≤ nL) : Lcase n nL M 1224 := by
  obtain ⟨r, M1, M2, c, e, f0, hI2⟩ := step_of (nL := nL) hI (fun d A Q => sm_W (d + 2) 116 0 [vo 10] [] (sm_G0 nL) A Q) (fun d B Q => sm_W (d + 2) 238 0 [vo 11, none, none] [] (sm_G0 nL) B Q) (fun A B h => q116 h hn  nL)
  refine ⟨M2, hI2, fun d Q => ?_⟩
  rw [BL_1224]
  refine (c (d + 8) _).trans ?_
  rw [sm_push_s, BL_1228]
  refine (e (d + 8) _).trans ?_
  rw [sm_push_s, BL_1232, mm_bt rfl]
theorem BL_1237 (d nL : Nat) (x3 : Int32) (M : sm_M) (Q : sm_Q) : sm_W (d + 1) 0 1237 [vo 0, vo 10, vo 11, vi x3] [] (sm_G0 nL) M Q = sm_Ck (sm_in (x3 + 1) nL) (sm_W d 118 0 [vo 10, vi (M 0 0 (x3 + 1).toNatClampNeg), none] [] (sm_G0 nL) M (fun r G1 M1 => sm_W (d + 1) 0 1246 [vo 0, vo 10, vo 11, vi x3] (sm_push r []) G1 M1 Q)) := (sm_I_eq 7 _ _ _ _ _ _ _ _).trans rfl
theorem BL_1246 (d nL : Nat) (x3 s1 : Int32) (M : sm_M) (Q : sm_Q) : sm_W (d + 1) 0 1246 [vo 0, vo 10, vo 11, vi x3] [Sum.inl s1] (sm_G0 nL) M Q = sm_Ck (sm_in (x3 + 1) nL) (sm_W d 239 0 [vo 11, vi (M 0 0 (x3 + 1).toNatClampNeg), none] [] (sm_G0 nL) M (fun r G1 M1 => sm_W (d + 1) 0 1255 [vo 0, vo 10, vo 11, vi x3] (sm_push r [Sum.inl s1]) G1 M1 Q)) := (sm_I_eq 7 _ _ _ _ _ _ _ _).trans rfl
theorem BL_1255 (d nL : Nat) (x3 s1 s2 : Int32) (M : sm_M) (Q : sm_Q) : sm_W d 0 1255 [vo 0, vo 10, vo 11, vi x3] [Sum.inl s2, Sum.inl s1] (sm_G0 nL) M Q = sm_Br (decide (s1 = s2)) (sm_W d 0 1871 [vo 0, vo 10, vo 11, vi x3] [] (sm_G0 nL) M Q) (sm_W d 0 1258 [vo 0, vo 10, vo 11, vi x3] [] (sm_G0 nL) M Q) := (sm_I_eq 1 _ _ _ _ _ _ _ _).trans rfl
theorem Lc_1237 {n nL : Nat} {M : sm_M} (hI : InvP n M M) (hn : n < 2 ^ 29) (hL : nL < 2 ^ 31) (h8 : 8 * n + 8 ≤ nL) : Lcase n nL M 1237 := by
  obtain ⟨r, M1, M2, c, e, f0, hI2⟩ := step_of (nL := nL) hI (fun d A Q => sm_W (d + 1) 118 0 [vo 10, vi (M 0 0 (8 * n + 1)), none] [] (sm_G0 nL) A Q) (fun d B Q => sm_W (d + 2) 239 0 [vo 11, vi (M 0 0 (8 * n + 1)), none] [] (sm_G0 nL) B Q) (fun A B h => q118 h hn (M 0 0 (8 * n + 1)) nL)
  have a1 : nI (8 * n) + 1 = nI (8 * n + 1) := by show nI (8 * n) + nI 1 = _; rw [nI_add]
  have b1 : sm_in (nI (8 * n + 1)) nL = true := mm_in (by omega) hL
  have c1 : (nI (8 * n + 1)).toNatClampNeg = 8 * n + 1 := nI_clamp (by omega)
  refine ⟨M2, hI2, fun d Q => ?_⟩
  rw [BL_1237, a1, mm_ck b1, c1]
  refine (c (d + 9) _).trans ?_
  rw [sm_push_s, BL_1246, a1, mm_ck b1, c1, f0 0 (8 * n + 1)]
  refine (e (d + 8) _).trans ?_
  rw [sm_push_s, BL_1255, mm_bt rfl]
theorem BL_1260 (d nL : Nat) (x3 : Int32) (M : sm_M) (Q : sm_Q) : sm_W (d + 1) 0 1260 [vo 0, vo 10, vo 11, vi x3] [] (sm_G0 nL) M Q = sm_Ck (sm_in (x3 + 1) nL) (sm_Ck (sm_in (x3 + 2) nL) (sm_W d 120 0 [vo 10, vi (M 0 0 (x3 + 1).toNatClampNeg), vi (M 0 0 (x3 + 2).toNatClampNeg), none] [] (sm_G0 nL) M (fun r G1 M1 => sm_W (d + 1) 0 1274 [vo 0, vo 10, vo 11, vi x3] (sm_push r []) G1 M1 Q))) := (sm_I_eq 12 _ _ _ _ _ _ _ _).trans rfl
theorem BL_1274 (d nL : Nat) (x3 s1 : Int32) (M : sm_M) (Q : sm_Q) : sm_W (d + 1) 0 1274 [vo 0, vo 10, vo 11, vi x3] [Sum.inl s1] (sm_G0 nL) M Q = sm_Ck (sm_in (x3 + 1) nL) (sm_Ck (sm_in (x3 + 2) nL) (sm_W d 240 0 [vo 11, vi (M 0 0 (x3 + 1).toNatClampNeg), vi (M 0 0 (x3 + 2).toNatClampNeg)] [] (sm_G0 nL) M (fun r G1 M1 => sm_W (d + 1) 0 1288 [vo 0, vo 10, vo 11, vi x3] (sm_push r [Sum.inl s1]) G1 M1 Q))) := (sm_I_eq 12 _ _ _ _ _ _ _ _).trans rfl
theorem BL_1288 (d nL : Nat) (x3 s1 s2 : Int32) (M : sm_M) (Q : sm_Q) : sm_W d 0 1288 [vo 0, vo 10, vo 11, vi x3] [Sum.inl s2, Sum.inl s1] (sm_G0 nL) M Q = sm_Br (decide (s1 = s2)) (sm_W d 0 1871 [vo 0, vo 10, vo 11, vi x3] [] (sm_G0 nL) M Q) (sm_W d 0 1291 [vo 0, vo 10, vo 11, vi x3] [] (sm_G0 nL) M Q) := (sm_I_eq 1 _ _ _ _ _ _ _ _).trans rfl
theorem Lc_1260 {n nL : Nat} {M : sm_M} (hI : InvP n M M) (hn : n < 2 ^ 29) (hL : nL < 2 ^ 31) (h8 : 8 * n + 8 ≤ nL) : Lcase n nL M 1260 := by
  obtain ⟨r, M1, M2, c, e, f0, hI2⟩ := step_of (nL := nL) hI (fun d A Q => sm_W (d + 1) 120 0 [vo 10, vi (M 0 0 (8 * n + 1)), vi (M 0 0 (8 * n + 2)), none] [] (sm_G0 nL) A Q) (fun d B Q => sm_W (d + 2) 240 0 [vo 11, vi (M 0 0 (8 * n + 1)), vi (M 0 0 (8 * n + 2))] [] (sm_G0 nL) B Q) (fun A B h => q120 h hn (M 0 0 (8 * n + 1)) (M 0 0 (8 * n + 2)) nL)
  have a1 : nI (8 * n) + 1 = nI (8 * n + 1) := by show nI (8 * n) + nI 1 = _; rw [nI_add]
  have b1 : sm_in (nI (8 * n + 1)) nL = true := mm_in (by omega) hL
  have c1 : (nI (8 * n + 1)).toNatClampNeg = 8 * n + 1 := nI_clamp (by omega)
  have a2 : nI (8 * n) + 2 = nI (8 * n + 2) := by show nI (8 * n) + nI 2 = _; rw [nI_add]
  have b2 : sm_in (nI (8 * n + 2)) nL = true := mm_in (by omega) hL
  have c2 : (nI (8 * n + 2)).toNatClampNeg = 8 * n + 2 := nI_clamp (by omega)
  refine ⟨M2, hI2, fun d Q => ?_⟩
  rw [BL_1260, a1, a2, mm_ck b1, mm_ck b2, c1, c2]
  refine (c (d + 9) _).trans ?_
  rw [sm_push_s, BL_1274, a1, a2, mm_ck b1, mm_ck b2, c1, c2, f0 0 (8 * n + 1), f0 0 (8 * n + 2)]
  refine (e (d + 8) _).trans ?_
  rw [sm_push_s, BL_1288, mm_bt rfl]
theorem BL_1293 (d nL : Nat) (x3 : Int32) (M : sm_M) (Q : sm_Q) : sm_W (d + 1) 0 1293 [vo 0, vo 10, vo 11, vi x3] [] (sm_G0 nL) M Q = sm_Ck (sm_in (x3 + 1) nL) (sm_Ck (sm_in (x3 + 2) nL) (sm_Ck (sm_in (x3 + 3) nL) (sm_W d 124 0 [vo 10, vi (M 0 0 (x3 + 1).toNatClampNeg), vi (M 0 0 (x3 + 2).toNatClampNeg), vi (M 0 0 (x3 + 3).toNatClampNeg), none] [] (sm_G0 nL) M (fun r G1 M1 => sm_W (d + 1) 0 1312 [vo 0, vo 10, vo 11, vi x3] (sm_push r []) G1 M1 Q)))) := (sm_I_eq 17 _ _ _ _ _ _ _ _).trans rfl
theorem BL_1312 (d nL : Nat) (x3 s1 : Int32) (M : sm_M) (Q : sm_Q) : sm_W (d + 1) 0 1312 [vo 0, vo 10, vo 11, vi x3] [Sum.inl s1] (sm_G0 nL) M Q = sm_Ck (sm_in (x3 + 1) nL) (sm_Ck (sm_in (x3 + 2) nL) (sm_Ck (sm_in (x3 + 3) nL) (sm_W d 243 0 [vo 11, vi (M 0 0 (x3 + 1).toNatClampNeg), vi (M 0 0 (x3 + 2).toNatClampNeg), vi (M 0 0 (x3 + 3).toNatClampNeg)] [] (sm_G0 nL) M (fun r G1 M1 => sm_W (d + 1) 0 1331 [vo 0, vo 10, vo 11, vi x3] (sm_push r [Sum.inl s1]) G1 M1 Q)))) := (sm_I_eq 17 _ _ _ _ _ _ _ _).trans rfl
theorem BL_1331 (d nL : Nat) (x3 s1 s2 : Int32) (M : sm_M) (Q : sm_Q) : sm_W d 0 1331 [vo 0, vo 10, vo 11, vi x3] [Sum.inl s2, Sum.inl s1] (sm_G0 nL) M Q = sm_Br (decide (s1 = s2)) (sm_W d 0 1871 [vo 0, vo 10, vo 11, vi x3] [] (sm_G0 nL) M Q) (sm_W d 0 1334 [vo 0, vo 10, vo 11, vi x3] [] (sm_G0 nL) M Q) := (sm_I_eq 1 _ _ _ _ _ _ _ _).trans rfl
theorem Lc_1293 {n nL : Nat} {M : sm_M} (hI : InvP n M M) (hn : n < 2 ^ 29) (hL : nL < 2 ^ 31) (h8 : 8 * n + 8 ≤ nL) : Lcase n nL M 1293 := by
  obtain ⟨r, M1, M2, c, e, f0, hI2⟩ := step_of (nL := nL) hI (fun d A Q => sm_W (d + 4) 124 0 [vo 10, vi (M 0 0 (8 * n + 1)), vi (M 0 0 (8 * n + 2)), vi (M 0 0 (8 * n + 3)), none] [] (sm_G0 nL) A Q) (fun d B Q => sm_W (d + 3) 243 0 [vo 11, vi (M 0 0 (8 * n + 1)), vi (M 0 0 (8 * n + 2)), vi (M 0 0 (8 * n + 3))] [] (sm_G0 nL) B Q) (fun A B h => q124 h hn (M 0 0 (8 * n + 1)) (M 0 0 (8 * n + 2)) (M 0 0 (8 * n + 3)) nL)
  have a1 : nI (8 * n) + 1 = nI (8 * n + 1) := by show nI (8 * n) + nI 1 = _; rw [nI_add]
  have b1 : sm_in (nI (8 * n + 1)) nL = true := mm_in (by omega) hL
  have c1 : (nI (8 * n + 1)).toNatClampNeg = 8 * n + 1 := nI_clamp (by omega)
  have a2 : nI (8 * n) + 2 = nI (8 * n + 2) := by show nI (8 * n) + nI 2 = _; rw [nI_add]
  have b2 : sm_in (nI (8 * n + 2)) nL = true := mm_in (by omega) hL
  have c2 : (nI (8 * n + 2)).toNatClampNeg = 8 * n + 2 := nI_clamp (by omega)
  have a3 : nI (8 * n) + 3 = nI (8 * n + 3) := by show nI (8 * n) + nI 3 = _; rw [nI_add]
  have b3 : sm_in (nI (8 * n + 3)) nL = true := mm_in (by omega) hL
  have c3 : (nI (8 * n + 3)).toNatClampNeg = 8 * n + 3 := nI_clamp (by omega)
  refine ⟨M2, hI2, fun d Q => ?_⟩
  rw [BL_1293, a1, a2, a3, mm_ck b1, mm_ck b2, mm_ck b3, c1, c2, c3]
  refine (c (d + 6) _).trans ?_
  rw [sm_push_s, BL_1312, a1, a2, a3, mm_ck b1, mm_ck b2, mm_ck b3, c1, c2, c3, f0 0 (8 * n + 1), f0 0 (8 * n + 2), f0 0 (8 * n + 3)]
  refine (e (d + 7) _).trans ?_
  rw [sm_push_s, BL_1331, mm_bt rfl]
theorem BL_1336 (d nL : Nat) (x3 : Int32) (M : sm_M) (Q : sm_Q) : sm_W (d + 1) 0 1336 [vo 0, vo 10, vo 11, vi x3] [] (sm_G0 nL) M Q = sm_Ck (sm_in (x3 + 1) nL) (sm_Ck (sm_in (x3 + 2) nL) (sm_Ck (sm_in (x3 + 3) nL) (sm_W d 129 0 [vo 10, vi (M 0 0 (x3 + 1).toNatClampNeg), vi (M 0 0 (x3 + 2).toNatClampNeg), vi (M 0 0 (x3 + 3).toNatClampNeg), none, none, none, none, none] [] (sm_G0 nL) M (fun r G1 M1 => sm_W (d + 1) 0 1355 [vo 0, vo 10, vo 11, vi x3] (sm_push r []) G1 M1 Q)))) := (sm_I_eq 17 _ _ _ _ _ _ _ _).trans rfl
theorem BL_1355 (d nL : Nat) (x3 s1 : Int32) (M : sm_M) (Q : sm_Q) : sm_W (d + 1) 0 1355 [vo 0, vo 10, vo 11, vi x3] [Sum.inl s1] (sm_G0 nL) M Q = sm_Ck (sm_in (x3 + 1) nL) (sm_Ck (sm_in (x3 + 2) nL) (sm_Ck (sm_in (x3 + 3) nL) (sm_W d 246 0 [vo 11, vi (M 0 0 (x3 + 1).toNatClampNeg), vi (M 0 0 (x3 + 2).toNatClampNeg), vi (M 0 0 (x3 + 3).toNatClampNeg), none, none, none, none] [] (sm_G0 nL) M (fun r G1 M1 => sm_W (d + 1) 0 1374 [vo 0, vo 10, vo 11, vi x3] (sm_push r [Sum.inl s1]) G1 M1 Q)))) := (sm_I_eq 17 _ _ _ _ _ _ _ _).trans rfl
theorem BL_1374 (d nL : Nat) (x3 s1 s2 : Int32) (M : sm_M) (Q : sm_Q) : sm_W d 0 1374 [vo 0, vo 10, vo 11, vi x3] [Sum.inl s2, Sum.inl s1] (sm_G0 nL) M Q = sm_Br (decide (s1 = s2)) (sm_W d 0 1871 [vo 0, vo 10, vo 11, vi x3] [] (sm_G0 nL) M Q) (sm_W d 0 1377 [vo 0, vo 10, vo 11, vi x3] [] (sm_G0 nL) M Q) := (sm_I_eq 1 _ _ _ _ _ _ _ _).trans rfl
theorem Lc_1336 {n nL : Nat} {M : sm_M} (hI : InvP n M M) (hn : n < 2 ^ 29) (hL : nL < 2 ^ 31) (h8 : 8 * n + 8 ≤ nL) : Lcase n nL M 1336 := by
  obtain ⟨r, M1, M2, c, e, f0, hI2⟩ := step_of (nL := nL) hI (fun d A Q => sm_W (d + 5) 129 0 [vo 10, vi (M 0 0 (8 * n + 1)), vi (M 0 0 (8 * n + 2)), vi (M 0 0 (8 * n + 3)), none, none, none, none, none] [] (sm_G0 nL) A Q) (fun d B Q => sm_W (d + 5) 246 0 [vo 11, vi (M 0 0 (8 * n + 1)), vi (M 0 0 (8 * n + 2)), vi (M 0 0 (8 * n + 3)), none, none, none, none] [] (sm_G0 nL) B Q) (fun A B h => q129 h hn (M 0 0 (8 * n + 1)) (M 0 0 (8 * n + 2)) (M 0 0 (8 * n + 3)) nL)
  have a1 : nI (8 * n) + 1 = nI (8 * n + 1) := by show nI (8 * n) + nI 1 = _; rw [nI_add]
  have b1 : sm_in (nI (8 * n + 1)) nL = true := mm_in (by omega) hL
  have c1 : (nI (8 * n + 1)).toNatClampNeg = 8 * n + 1 := nI_clamp (by omega)
  have a2 : nI (8 * n) + 2 = nI (8 * n + 2) := by show nI (8 * n) + nI 2 = _; rw [nI_add]
  have b2 : sm_in (nI (8 * n + 2)) nL = true := mm_in (by omega) hL
  have c2 : (nI (8 * n + 2)).toNatClampNeg = 8 * n + 2 := nI_clamp (by omega)
  have a3 : nI (8 * n) + 3 = nI (8 * n + 3) := by show nI (8 * n) + nI 3 = _; rw [nI_add]
  have b3 : sm_in (nI (8 * n + 3)) nL = true := mm_in (by omega) hL
  have c3 : (nI (8 * n + 3)).toNatClampNeg = 8 * n + 3 := nI_clamp (by omega)
  refine ⟨M2, hI2, fun d Q => ?_⟩
  rw [BL_1336, a1, a2, a3, mm_ck b1, mm_ck b2, mm_ck b3, c1, c2, c3]
  refine (c (d + 5) _).trans ?_
  rw [sm_push_s, BL_1355, a1, a2, a3, mm_ck b1, mm_ck b2, mm_ck b3, c1, c2, c3, f0 0 (8 * n + 1), f0 0 (8 * n + 2), f0 0 (8 * n + 3)]
  refine (e (d + 5) _).trans ?_
  rw [sm_push_s, BL_1374, mm_bt rfl]
theorem BL_1379 (d nL : Nat) (x3 : Int32) (M : sm_M) (Q : sm_Q) : sm_W (d + 1) 0 1379 [vo 0, vo 10, vo 11, vi x3] [] (sm_G0 nL) M Q = sm_Ck (sm_in (x3 + 1) nL) (sm_W d 130 0 [vo 10, vi (M 0 0 (x3 + 1).toNatClampNeg)] [] (sm_G0 nL) M (fun r G1 M1 => sm_W (d + 1) 0 1388 [vo 0, vo 10, vo 11, vi x3] (sm_push r []) G1 M1 Q)) := (sm_I_eq 7 _ _ _ _ _ _ _ _).trans rfl
theorem BL_1388 (d nL : Nat) (x3 s1 : Int32) (M : sm_M) (Q : sm_Q) : sm_W (d + 1) 0 1388 [vo 0, vo 10, vo 11, vi x3] [Sum.inl s1] (sm_G0 nL) M Q = sm_Ck (sm_in (x3 + 1) nL) (sm_W d 247 0 [vo 11, vi (M 0 0 (x3 + 1).toNatClampNeg)] [] (sm_G0 nL) M (fun r G1 M1 => sm_W (d + 1) 0 1397 [vo 0, vo 10, vo 11, vi x3] (sm_push r [Sum.inl s1]) G1 M1 Q)) := (sm_I_eq 7 _ _ _ _ _ _ _ _).trans rfl
theorem BL_1397 (d nL : Nat) (x3 s1 s2 : Int32) (M : sm_M) (Q : sm_Q) : sm_W d 0 1397 [vo 0, vo 10, vo 11, vi x3] [Sum.inl s2, Sum.inl s1] (sm_G0 nL) M Q = sm_Br (decide (s1 = s2)) (sm_W d 0 1871 [vo 0, vo 10, vo 11, vi x3] [] (sm_G0 nL) M Q) (sm_W d 0 1400 [vo 0, vo 10, vo 11, vi x3] [] (sm_G0 nL) M Q) := (sm_I_eq 1 _ _ _ _ _ _ _ _).trans rfl
theorem Lc_1379 {n nL : Nat} {M : sm_M} (hI : InvP n M M) (hn : n < 2 ^ 29) (hL : nL < 2 ^ 31) (h8 : 8 * n + 8 ≤ nL) : Lcase n nL M 1379 := by
  obtain ⟨r, M1, M2, c, e, f0, hI2⟩ := step_of (nL := nL) hI (fun d A Q => sm_W (d + 2) 130 0 [vo 10, vi (M 0 0 (8 * n + 1))] [] (sm_G0 nL) A Q) (fun d B Q => sm_W (d + 2) 247 0 [vo 11, vi (M 0 0 (8 * n + 1))] [] (sm_G0 nL) B Q) (fun A B h => q130 h hn (M 0 0 (8 * n + 1)) nL)
  have a1 : nI (8 * n) + 1 = nI (8 * n + 1) := by show nI (8 * n) + nI 1 = _; rw [nI_add]
  have b1 : sm_in (nI (8 * n + 1)) nL = true := mm_in (by omega) hL
  have c1 : (nI (8 * n + 1)).toNatClampNeg = 8 * n + 1 := nI_clamp (by omega)
  refine ⟨M2, hI2, fun d Q => ?_⟩
  rw [BL_1379, a1, mm_ck b1, c1]
  refine (c (d + 8) _).trans ?_
  rw [sm_push_s, BL_1388, a1, mm_ck b1, c1, f0 0 (8 * n + 1)]
  refine (e (d + 8) _).trans ?_
  rw [sm_push_s, BL_1397, mm_bt rfl]
theorem BL_1402 (d nL : Nat) (x3 : Int32) (M : sm_M) (Q : sm_Q) : sm_W (d + 1) 0 1402 [vo 0, vo 10, vo 11, vi x3] [] (sm_G0 nL) M Q = sm_W d 131 0 [vo 10, none] [] (sm_G0 nL) M (fun r G1 M1 => sm_W (d + 1) 0 1406 [vo 0, vo 10, vo 11, vi x3] (sm_push r []) G1 M1 Q) := (sm_I_eq 2 _ _ _ _ _ _ _ _).trans rfl
theorem BL_1406 (d nL : Nat) (x3 s1 : Int32) (M : sm_M) (Q : sm_Q) : sm_W (d + 1) 0 1406 [vo 0, vo 10, vo 11, vi x3] [Sum.inl s1] (sm_G0 nL) M Q = sm_W d 248 0 [vo 11, none] [] (sm_G0 nL) M (fun r G1 M1 => sm_W (d + 1) 0 1410 [vo 0, vo 10, vo 11, vi x3] (sm_push r [Sum.inl s1]) G1 M1 Q) := (sm_I_eq 2 _ _ _ _ _ _ _ _).trans rfl
theorem BL_1410 (d nL : Nat) (x3 s1 s2 : Int32) (M : sm_M) (Q : sm_Q) : sm_W d 0 1410 [vo 0, vo 10, vo 11, vi x3] [Sum.inl s2, Sum.inl s1] (sm_G0 nL) M Q = sm_Br (decide (s1 = s2)) (sm_W d 0 1871 [vo 0, vo 10, vo 11, vi x3] [] (sm_G0 nL) M Q) (sm_W d 0 1413 [vo 0, vo 10, vo 11, vi x3] [] (sm_G0 nL) M Q) := (sm_I_eq 1 _ _ _ _ _ _ _ _).trans rfl
theorem Lc_1402 {n nL : Nat} {M : sm_M} (hI : InvP n M M) (hn : n < 2 ^ 29) (hL : nL < 2 ^ 31) (h8 : 8 * n + 8 ≤ nL) : Lcase n nL M 1402 := by
  obtain ⟨r, M1, M2, c, e, f0, hI2⟩ := step_of (nL := nL) hI (fun d A Q => sm_W d 131 0 [vo 10, none] [] (sm_G0 nL) A Q) (fun d B Q => sm_W d 248 0 [vo 11, none] [] (sm_G0 nL) B Q) (fun A B h => q131 h hn  nL)
  refine ⟨M2, hI2, fun d Q => ?_⟩
  rw [BL_1402]
  refine (c (d + 10) _).trans ?_
  rw [sm_push_s, BL_1406]
  refine (e (d + 10) _).trans ?_
  rw [sm_push_s, BL_1410, mm_bt rfl]
theorem BL_1415 (d nL : Nat) (x3 : Int32) (M : sm_M) (Q : sm_Q) : sm_W (d + 1) 0 1415 [vo 0, vo 10, vo 11, vi x3] [] (sm_G0 nL) M Q = sm_Ck (sm_in (x3 + 1) nL) (sm_Ck (sm_in (x3 + 2) nL) (sm_Ck (sm_in (x3 + 3) nL) (sm_Ck (sm_in (x3 + 4) nL) (sm_W d 132 0 [vo 10, vi (M 0 0 (x3 + 1).toNatClampNeg), vi (M 0 0 (x3 + 2).toNatClampNeg), vi (M 0 0 (x3 + 3).toNatClampNeg), vi (M 0 0 (x3 + 4).toNatClampNeg), none] [] (sm_G0 nL) M (fun r G1 M1 => sm_W (d + 1) 0 1439 [vo 0, vo 10, vo 11, vi x3] (sm_push r []) G1 M1 Q))))) := (sm_I_eq 22 _ _ _ _ _ _ _ _).trans rfl
theorem BL_1439 (d nL : Nat) (x3 s1 : Int32) (M : sm_M) (Q : sm_Q) : sm_W (d + 1) 0 1439 [vo 0, vo 10, vo 11, vi x3] [Sum.inl s1] (sm_G0 nL) M Q = sm_Ck (sm_in (x3 + 1) nL) (sm_Ck (sm_in (x3 + 2) nL) (sm_Ck (sm_in (x3 + 3) nL) (sm_Ck (sm_in (x3 + 4) nL) (sm_W d 249 0 [vo 11, vi (M 0 0 (x3 + 1).toNatClampNeg), vi (M 0 0 (x3 + 2).toNatClampNeg), vi (M 0 0 (x3 + 3).toNatClampNeg), vi (M 0 0 (x3 + 4).toNatClampNeg), none, none, none, none, none, none] [] (sm_G0 nL) M (fun r G1 M1 => sm_W (d + 1) 0 1463 [vo 0, vo 10, vo 11, vi x3] (sm_push r [Sum.inl s1]) G1 M1 Q))))) := (sm_I_eq 22 _ _ _ _ _ _ _ _).trans rfl
theorem BL_1463 (d nL : Nat) (x3 s1 s2 : Int32) (M : sm_M) (Q : sm_Q) : sm_W d 0 1463 [vo 0, vo 10, vo 11, vi x3] [Sum.inl s2, Sum.inl s1] (sm_G0 nL) M Q = sm_Br (decide (s1 = s2)) (sm_W d 0 1871 [vo 0, vo 10, vo 11, vi x3] [] (sm_G0 nL) M Q) (sm_W d 0 1466 [vo 0, vo 10, vo 11, vi x3] [] (sm_G0 nL) M Q) := (sm_I_eq 1 _ _ _ _ _ _ _ _).trans rfl
theorem Lc_1415 {n nL : Nat} {M : sm_M} (hI : InvP n M M) (hn : n < 2 ^ 29) (hL : nL < 2 ^ 31) (h8 : 8 * n + 8 ≤ nL) : Lcase n nL M 1415 := by
  obtain ⟨r, M1, M2, c, e, f0, hI2⟩ := step_of (nL := nL) hI (fun d A Q => sm_W (d + 5) 132 0 [vo 10, vi (M 0 0 (8 * n + 1)), vi (M 0 0 (8 * n + 2)), vi (M 0 0 (8 * n + 3)), vi (M 0 0 (8 * n + 4)), none] [] (sm_G0 nL) A Q) (fun d B Q => sm_W (d + 4) 249 0 [vo 11, vi (M 0 0 (8 * n + 1)), vi (M 0 0 (8 * n + 2)), vi (M 0 0 (8 * n + 3)), vi (M 0 0 (8 * n + 4)), none, none, none, none, none, none] [] (sm_G0 nL) B Q) (fun A B h => q132 h hn (M 0 0 (8 * n + 1)) (M 0 0 (8 * n + 2)) (M 0 0 (8 * n + 3)) (M 0 0 (8 * n + 4)) nL)
  have a1 : nI (8 * n) + 1 = nI (8 * n + 1) := by show nI (8 * n) + nI 1 = _; rw [nI_add]
  have b1 : sm_in (nI (8 * n + 1)) nL = true := mm_in (by omega) hL
  have c1 : (nI (8 * n + 1)).toNatClampNeg = 8 * n + 1 := nI_clamp (by omega)
  have a2 : nI (8 * n) + 2 = nI (8 * n + 2) := by show nI (8 * n) + nI 2 = _; rw [nI_add]
  have b2 : sm_in (nI (8 * n + 2)) nL = true := mm_in (by omega) hL
  have c2 : (nI (8 * n + 2)).toNatClampNeg = 8 * n + 2 := nI_clamp (by omega)
  have a3 : nI (8 * n) + 3 = nI (8 * n + 3) := by show nI (8 * n) + nI 3 = _; rw [nI_add]
  have b3 : sm_in (nI (8 * n + 3)) nL = true := mm_in (by omega) hL
  have c3 : (nI (8 * n + 3)).toNatClampNeg = 8 * n + 3 := nI_clamp (by omega)
  have a4 : nI (8 * n) + 4 = nI (8 * n + 4) := by show nI (8 * n) + nI 4 = _; rw [nI_add]
  have b4 : sm_in (nI (8 * n + 4)) nL = true := mm_in (by omega) hL
  have c4 : (nI (8 * n + 4)).toNatClampNeg = 8 * n + 4 := nI_clamp (by omega)
  refine ⟨M2, hI2, fun d Q => ?_⟩
  rw [BL_1415, a1, a2, a3, a4, mm_ck b1, mm_ck b2, mm_ck b3, mm_ck b4, c1, c2, c3, c4]
  refine (c (d + 5) _).trans ?_
  rw [sm_push_s, BL_1439, a1, a2, a3, a4, mm_ck b1, mm_ck b2, mm_ck b3, mm_ck b4, c1, c2, c3, c4, f0 0 (8 * n + 1), f0 0 (8 * n + 2), f0 0 (8 * n + 3), f0 0 (8 * n + 4)]
  refine (e (d + 6) _).trans ?_
  rw [sm_push_s, BL_1463, mm_bt rfl]
theorem BL_1468 (d nL : Nat) (x3 : Int32) (M : sm_M) (Q : sm_Q) : sm_W (d + 1) 0 1468 [vo 0, vo 10, vo 11, vi x3] [] (sm_G0 nL) M Q = sm_Ck (sm_in (x3 + 1) nL) (sm_Ck (sm_in (x3 + 2) nL) (sm_W d 136 0 [vo 10, vi (M 0 0 (x3 + 1).toNatClampNeg), vi (M 0 0 (x3 + 2).toNatClampNeg)] [] (sm_G0 nL) M (fun r G1 M1 => sm_W (d + 1) 0 1482 [vo 0, vo 10, vo 11, vi x3] (sm_push r []) G1 M1 Q))) := (sm_I_eq 12 _ _ _ _ _ _ _ _).trans rfl
theorem BL_1482 (d nL : Nat) (x3 s1 : Int32) (M : sm_M) (Q : sm_Q) : sm_W (d + 1) 0 1482 [vo 0, vo 10, vo 11, vi x3] [Sum.inl s1] (sm_G0 nL) M Q = sm_Ck (sm_in (x3 + 1) nL) (sm_Ck (sm_in (x3 + 2) nL) (sm_W d 251 0 [vo 11, vi (M 0 0 (x3 + 1).toNatClampNeg), vi (M 0 0 (x3 + 2).toNatClampNeg)] [] (sm_G0 nL) M (fun r G1 M1 => sm_W (d + 1) 0 1496 [vo 0, vo 10, vo 11, vi x3] (sm_push r [Sum.inl s1]) G1 M1 Q))) := (sm_I_eq 12 _ _ _ _ _ _ _ _).trans rfl
theorem BL_1496 (d nL : Nat) (x3 s1 s2 : Int32) (M : sm_M) (Q : sm_Q) : sm_W d 0 1496 [vo 0, vo 10, vo 11, vi x3] [Sum.inl s2, Sum.inl s1] (sm_G0 nL) M Q = sm_Br (decide (s1 = s2)) (sm_W d 0 1871 [vo 0, vo 10, vo 11, vi x3] [] (sm_G0 nL) M Q) (sm_W d 0 1499 [vo 0, vo 10, vo 11, vi x3] [] (sm_G0 nL) M Q) := (sm_I_eq 1 _ _ _ _ _ _ _ _).trans rfl
theorem Lc_1468 {n nL : Nat} {M : sm_M} (hI : InvP n M M) (hn : n < 2 ^ 29) (hL : nL < 2 ^ 31) (h8 : 8 * n + 8 ≤ nL) : Lcase n nL M 1468 := by
  obtain ⟨r, M1, M2, c, e, f0, hI2⟩ := step_of (nL := nL) hI (fun d A Q => sm_W (d + 5) 136 0 [vo 10, vi (M 0 0 (8 * n + 1)), vi (M 0 0 (8 * n + 2))] [] (sm_G0 nL) A Q) (fun d B Q => sm_W (d + 5) 251 0 [vo 11, vi (M 0 0 (8 * n + 1)), vi (M 0 0 (8 * n + 2))] [] (sm_G0 nL) B Q) (fun A B h => q136 h hn (M 0 0 (8 * n + 1)) (M 0 0 (8 * n + 2)) nL)
  have a1 : nI (8 * n) + 1 = nI (8 * n + 1) := by show nI (8 * n) + nI 1 = _; rw [nI_add]
  have b1 : sm_in (nI (8 * n + 1)) nL = true := mm_in (by omega) hL
  have c1 : (nI (8 * n + 1)).toNatClampNeg = 8 * n + 1 := nI_clamp (by omega)
  have a2 : nI (8 * n) + 2 = nI (8 * n + 2) := by show nI (8 * n) + nI 2 = _; rw [nI_add]
  have b2 : sm_in (nI (8 * n + 2)) nL = true := mm_in (by omega) hL
  have c2 : (nI (8 * n + 2)).toNatClampNeg = 8 * n + 2 := nI_clamp (by omega)
  refine ⟨M2, hI2, fun d Q => ?_⟩
  rw [BL_1468, a1, a2, mm_ck b1, mm_ck b2, c1, c2]
  refine (c (d + 5) _).trans ?_
  rw [sm_push_s, BL_1482, a1, a2, mm_ck b1, mm_ck b2, c1, c2, f0 0 (8 * n + 1), f0 0 (8 * n + 2)]
  refine (e (d + 5) _).trans ?_
  rw [sm_push_s, BL_1496, mm_bt rfl]
theorem BL_1501 (d nL : Nat) (x3 : Int32) (M : sm_M) (Q : sm_Q) : sm_W (d + 1) 0 1501 [vo 0, vo 10, vo 11, vi x3] [] (sm_G0 nL) M Q = sm_Ck (sm_in (x3 + 1) nL) (sm_Ck (sm_in (x3 + 2) nL) (sm_W d 143 0 [vo 10, vi (M 0 0 (x3 + 1).toNatClampNeg), vi (M 0 0 (x3 + 2).toNatClampNeg), none] [] (sm_G0 nL) M (fun r G1 M1 => sm_W (d + 1) 0 1515 [vo 0, vo 10, vo 11, vi x3] (sm_push r []) G1 M1 Q))) := (sm_I_eq 12 _ _ _ _ _ _ _ _).trans rfl
theorem BL_1515 (d nL : Nat) (x3 s1 : Int32) (M : sm_M) (Q : sm_Q) : sm_W (d + 1) 0 1515 [vo 0, vo 10, vo 11, vi x3] [Sum.inl s1] (sm_G0 nL) M Q = sm_Ck (sm_in (x3 + 1) nL) (sm_Ck (sm_in (x3 + 2) nL) (sm_W d 253 0 [vo 11, vi (M 0 0 (x3 + 1).toNatClampNeg), vi (M 0 0 (x3 + 2).toNatClampNeg), none, none, none, none, none, none, none] [] (sm_G0 nL) M (fun r G1 M1 => sm_W (d + 1) 0 1529 [vo 0, vo 10, vo 11, vi x3] (sm_push r [Sum.inl s1]) G1 M1 Q))) := (sm_I_eq 12 _ _ _ _ _ _ _ _).trans rfl
theorem BL_1529 (d nL : Nat) (x3 s1 s2 : Int32) (M : sm_M) (Q : sm_Q) : sm_W d 0 1529 [vo 0, vo 10, vo 11, vi x3] [Sum.inl s2, Sum.inl s1] (sm_G0 nL) M Q = sm_Br (decide (s1 = s2)) (sm_W d 0 1871 [vo 0, vo 10, vo 11, vi x3] [] (sm_G0 nL) M Q) (sm_W d 0 1532 [vo 0, vo 10, vo 11, vi x3] [] (sm_G0 nL) M Q) := (sm_I_eq 1 _ _ _ _ _ _ _ _).trans rfl
theorem Lc_1501 {n nL : Nat} {M : sm_M} (hI : InvP n M M) (hn : n < 2 ^ 29) (hL : nL < 2 ^ 31) (h8 : 8 * n + 8 ≤ nL) : Lcase n nL M 1501 := by
  obtain ⟨r, M1, M2, c, e, f0, hI2⟩ := step_of (nL := nL) hI (fun d A Q => sm_W (d + 6) 143 0 [vo 10, vi (M 0 0 (8 * n + 1)), vi (M 0 0 (8 * n + 2)), none] [] (sm_G0 nL) A Q) (fun d B Q => sm_W (d + 5) 253 0 [vo 11, vi (M 0 0 (8 * n + 1)), vi (M 0 0 (8 * n + 2)), none, none, none, none, none, none, none] [] (sm_G0 nL) B Q) (fun A B h => q143 h hn (M 0 0 (8 * n + 1)) (M 0 0 (8 * n + 2)) nL)
  have a1 : nI (8 * n) + 1 = nI (8 * n + 1) := by show nI (8 * n) + nI 1 = _; rw [nI_add]
  have b1 : sm_in (nI (8 * n + 1)) nL = true := mm_in (by omega) hL
  have c1 : (nI (8 * n + 1)).toNatClampNeg = 8 * n + 1 := nI_clamp (by omega)
  have a2 : nI (8 * n) + 2 = nI (8 * n + 2) := by show nI (8 * n) + nI 2 = _; rw [nI_add]
  have b2 : sm_in (nI (8 * n + 2)) nL = true := mm_in (by omega) hL
  have c2 : (nI (8 * n + 2)).toNatClampNeg = 8 * n + 2 := nI_clamp (by omega)
  refine ⟨M2, hI2, fun d Q => ?_⟩
  rw [BL_1501, a1, a2, mm_ck b1, mm_ck b2, c1, c2]
  refine (c (d + 4) _).trans ?_
  rw [sm_push_s, BL_1515, a1, a2, mm_ck b1, mm_ck b2, c1, c2, f0 0 (8 * n + 1), f0 0 (8 * n + 2)]
  refine (e (d + 5) _).trans ?_
  rw [sm_push_s, BL_1529, mm_bt rfl]
theorem BL_1534 (d nL : Nat) (x3 : Int32) (M : sm_M) (Q : sm_Q) : sm_W (d + 1) 0 1534 [vo 0, vo 10, vo 11, vi x3] [] (sm_G0 nL) M Q = sm_Ck (sm_in (x3 + 1) nL) (sm_Ck (sm_in (x3 + 2) nL) (sm_Ck (sm_in (x3 + 3) nL) (sm_W d 146 0 [vo 10, vi (M 0 0 (x3 + 1).toNatClampNeg), vi (M 0 0 (x3 + 2).toNatClampNeg), vi (M 0 0 (x3 + 3).toNatClampNeg)] [] (sm_G0 nL) M (fun r G1 M1 => sm_W (d + 1) 0 1553 [vo 0, vo 10, vo 11, vi x3] (sm_push r []) G1 M1 Q)))) := (sm_I_eq 17 _ _ _ _ _ _ _ _).trans rfl
theorem BL_1553 (d nL : Nat) (x3 s1 : Int32) (M : sm_M) (Q : sm_Q) : sm_W (d + 1) 0 1553 [vo 0, vo 10, vo 11, vi x3] [Sum.inl s1] (sm_G0 nL) M Q = sm_Ck (sm_in (x3 + 1) nL) (sm_Ck (sm_in (x3 + 2) nL) (sm_Ck (sm_in (x3 + 3) nL) (sm_W d 254 0 [vo 11, vi (M 0 0 (x3 + 1).toNatClampNeg), vi (M 0 0 (x3 + 2).toNatClampNeg), vi (M 0 0 (x3 + 3).toNatClampNeg)] [] (sm_G0 nL) M (fun r G1 M1 => sm_W (d + 1) 0 1572 [vo 0, vo 10, vo 11, vi x3] (sm_push r [Sum.inl s1]) G1 M1 Q)))) := (sm_I_eq 17 _ _ _ _ _ _ _ _).trans rfl
theorem BL_1572 (d nL : Nat) (x3 s1 s2 : Int32) (M : sm_M) (Q : sm_Q) : sm_W d 0 1572 [vo 0, vo 10, vo 11, vi x3] [Sum.inl s2, Sum.inl s1] (sm_G0 nL) M Q = sm_Br (decide (s1 = s2)) (sm_W d 0 1871 [vo 0, vo 10, vo 11, vi x3] [] (sm_G0 nL) M Q) (sm_W d 0 1575 [vo 0, vo 10, vo 11, vi x3] [] (sm_G0 nL) M Q) := (sm_I_eq 1 _ _ _ _ _ _ _ _).trans rfl
theorem Lc_1534 {n nL : Nat} {M : sm_M} (hI : InvP n M M) (hn : n < 2 ^ 29) (hL : nL < 2 ^ 31) (h8 : 8 * n + 8 ≤ nL) : Lcase n nL M 1534 := by
  obtain ⟨r, M1, M2, c, e, f0, hI2⟩ := step_of (nL := nL) hI (fun d A Q => sm_W (d + 10) 146 0 [vo 10, vi (M 0 0 (8 * n + 1)), vi (M 0 0 (8 * n + 2)), vi (M 0 0 (8 * n + 3))] [] (sm_G0 nL) A Q) (fun d B Q => sm_W (d + 9) 254 0 [vo 11, vi (M 0 0 (8 * n + 1)), vi (M 0 0 (8 * n + 2)), vi (M 0 0 (8 * n + 3))] [] (sm_G0 nL) B Q) (fun A B h => q146 h hn (M 0 0 (8 * n + 1)) (M 0 0 (8 * n + 2)) (M 0 0 (8 * n + 3)) nL)
  have a1 : nI (8 * n) + 1 = nI (8 * n + 1) := by show nI (8 * n) + nI 1 = _; rw [nI_add]
  have b1 : sm_in (nI (8 * n + 1)) nL = true := mm_in (by omega) hL
  have c1 : (nI (8 * n + 1)).toNatClampNeg = 8 * n + 1 := nI_clamp (by omega)
  have a2 : nI (8 * n) + 2 = nI (8 * n + 2) := by show nI (8 * n) + nI 2 = _; rw [nI_add]
  have b2 : sm_in (nI (8 * n + 2)) nL = true := mm_in (by omega) hL
  have c2 : (nI (8 * n + 2)).toNatClampNeg = 8 * n + 2 := nI_clamp (by omega)
  have a3 : nI (8 * n) + 3 = nI (8 * n + 3) := by show nI (8 * n) + nI 3 = _; rw [nI_add]
  have b3 : sm_in (nI (8 * n + 3)) nL = true := mm_in (by omega) hL
  have c3 : (nI (8 * n + 3)).toNatClampNeg = 8 * n + 3 := nI_clamp (by omega)
  refine ⟨M2, hI2, fun d Q => ?_⟩
  rw [BL_1534, a1, a2, a3, mm_ck b1, mm_ck b2, mm_ck b3, c1, c2, c3]
  refine (c (d + 0) _).trans ?_
  rw [sm_push_s, BL_1553, a1, a2, a3, mm_ck b1, mm_ck b2, mm_ck b3, c1, c2, c3, f0 0 (8 * n + 1), f0 0 (8 * n + 2), f0 0 (8 * n + 3)]
  refine (e (d + 1) _).trans ?_
  rw [sm_push_s, BL_1572, mm_bt rfl]
theorem BL_1577 (d nL : Nat) (x3 : Int32) (M : sm_M) (Q : sm_Q) : sm_W (d + 1) 0 1577 [vo 0, vo 10, vo 11, vi x3] [] (sm_G0 nL) M Q = sm_Ck (sm_in (x3 + 1) nL) (sm_W d 152 0 [vo 10, vi (M 0 0 (x3 + 1).toNatClampNeg)] [] (sm_G0 nL) M (fun r G1 M1 => sm_W (d + 1) 0 1586 [vo 0, vo 10, vo 11, vi x3] (sm_push r []) G1 M1 Q)) := (sm_I_eq 7 _ _ _ _ _ _ _ _).trans rfl
theorem BL_1586 (d nL : Nat) (x3 s1 : Int32) (M : sm_M) (Q : sm_Q) : sm_W (d + 1) 0 1586 [vo 0, vo 10, vo 11, vi x3] [Sum.inl s1] (sm_G0 nL) M Q = sm_Ck (sm_in (x3 + 1) nL) (sm_W d 267 0 [vo 11, vi (M 0 0 (x3 + 1).toNatClampNeg)] [] (sm_G0 nL) M (fun r G1 M1 => sm_W (d + 1) 0 1595 [vo 0, vo 10, vo 11, vi x3] (sm_push r [Sum.inl s1]) G1 M1 Q)) := (sm_I_eq 7 _ _ _ _ _ _ _ _).trans rfl
theorem BL_1595 (d nL : Nat) (x3 s1 s2 : Int32) (M : sm_M) (Q : sm_Q) : sm_W d 0 1595 [vo 0, vo 10, vo 11, vi x3] [Sum.inl s2, Sum.inl s1] (sm_G0 nL) M Q = sm_Br (decide (s1 = s2)) (sm_W d 0 1871 [vo 0, vo 10, vo 11, vi x3] [] (sm_G0 nL) M Q) (sm_W d 0 1598 [vo 0, vo 10, vo 11, vi x3] [] (sm_G0 nL) M Q) := (sm_I_eq 1 _ _ _ _ _ _ _ _).trans rfl
theorem Lc_1577 {n nL : Nat} {M : sm_M} (hI : InvP n M M) (hn : n < 2 ^ 29) (hL : nL < 2 ^ 31) (h8 : 8 * n + 8 ≤ nL) : Lcase n nL M 1577 := by
  obtain ⟨r, M1, M2, c, e, f0, hI2⟩ := step_of (nL := nL) hI (fun d A Q => sm_W (d + 1) 152 0 [vo 10, vi (M 0 0 (8 * n + 1))] [] (sm_G0 nL) A Q) (fun d B Q => sm_W d 267 0 [vo 11, vi (M 0 0 (8 * n + 1))] [] (sm_G0 nL) B Q) (fun A B h => q152 h hn (M 0 0 (8 * n + 1)) nL)
  have a1 : nI (8 * n) + 1 = nI (8 * n + 1) := by show nI (8 * n) + nI 1 = _; rw [nI_add]
  have b1 : sm_in (nI (8 * n + 1)) nL = true := mm_in (by omega) hL
  have c1 : (nI (8 * n + 1)).toNatClampNeg = 8 * n + 1 := nI_clamp (by omega)
  refine ⟨M2, hI2, fun d Q => ?_⟩
  rw [BL_1577, a1, mm_ck b1, c1]
  refine (c (d + 9) _).trans ?_
  rw [sm_push_s, BL_1586, a1, mm_ck b1, c1, f0 0 (8 * n + 1)]
  refine (e (d + 10) _).trans ?_
  rw [sm_push_s, BL_1595, mm_bt rfl]
theorem BL_1600 (d nL : Nat) (x3 : Int32) (M : sm_M) (Q : sm_Q) : sm_W (d + 1) 0 1600 [vo 0, vo 10, vo 11, vi x3] [] (sm_G0 nL) M Q = sm_Ck (sm_in (x3 + 1) nL) (sm_Ck (sm_in (x3 + 2) nL) (sm_W d 154 0 [vo 10, vi (M 0 0 (x3 + 1).toNatClampNeg), vi (M 0 0 (x3 + 2).toNatClampNeg), none] [] (sm_G0 nL) M (fun r G1 M1 => sm_W (d + 1) 0 1614 [vo 0, vo 10, vo 11, vi x3] (sm_push r []) G1 M1 Q))) := (sm_I_eq 12 _ _ _ _ _ _ _ _).trans rfl
theorem BL_1614 (d nL : Nat) (x3 s1 : Int32) (M : sm_M) (Q : sm_Q) : sm_W (d + 1) 0 1614 [vo 0, vo 10, vo 11, vi x3] [Sum.inl s1] (sm_G0 nL) M Q = sm_Ck (sm_in (x3 + 1) nL) (sm_Ck (sm_in (x3 + 2) nL) (sm_W d 268 0 [vo 11, vi (M 0 0 (x3 + 1).toNatClampNeg), vi (M 0 0 (x3 + 2).toNatClampNeg)] [] (sm_G0 nL) M (fun r G1 M1 => sm_W (d + 1) 0 1628 [vo 0, vo 10, vo 11, vi x3] (sm_push r [Sum.inl s1]) G1 M1 Q))) := (sm_I_eq 12 _ _ _ _ _ _ _ _).trans rfl
theorem BL_1628 (d nL : Nat) (x3 s1 s2 : Int32) (M : sm_M) (Q : sm_Q) : sm_W d 0 1628 [vo 0, vo 10, vo 11, vi x3] [Sum.inl s2, Sum.inl s1] (sm_G0 nL) M Q = sm_Br (decide (s1 = s2)) (sm_W d 0 1871 [vo 0, vo 10, vo 11, vi x3] [] (sm_G0 nL) M Q) (sm_W d 0 1631 [vo 0, vo 10, vo 11, vi x3] [] (sm_G0 nL) M Q) := (sm_I_eq 1 _ _ _ _ _ _ _ _).trans rfl
theorem Lc_1600 {n nL : Nat} {M : sm_M} (hI : InvP n M M) (hn : n < 2 ^ 29) (hL : nL < 2 ^ 31) (h8 : 8 * n + 8 ≤ nL) : Lcase n nL M 1600 := by
  obtain ⟨r, M1, M2, c, e, f0, hI2⟩ := step_of (nL := nL) hI (fun d A Q => sm_W (d + 2) 154 0 [vo 10, vi (M 0 0 (8 * n + 1)), vi (M 0 0 (8 * n + 2)), none] [] (sm_G0 nL) A Q) (fun d B Q => sm_W (d + 2) 268 0 [vo 11, vi (M 0 0 (8 * n + 1)), vi (M 0 0 (8 * n + 2))] [] (sm_G0 nL) B Q) (fun A B h => q154 h hn (M 0 0 (8 * n + 1)) (M 0 0 (8 * n + 2)) nL)
  have a1 : nI (8 * n) + 1 = nI (8 * n + 1) := by show nI (8 * n) + nI 1 = _; rw [nI_add]
  have b1 : sm_in (nI (8 * n + 1)) nL = true := mm_in (by omega) hL
  have c1 : (nI (8 * n + 1)).toNatClampNeg = 8 * n + 1 := nI_clamp (by omega)
  have a2 : nI (8 * n) + 2 = nI (8 * n + 2) := by show nI (8 * n) + nI 2 = _; rw [nI_add]
  have b2 : sm_in (nI (8 * n + 2)) nL = true := mm_in (by omega) hL
  have c2 : (nI (8 * n + 2)).toNatClampNeg = 8 * n + 2 := nI_clamp (by omega)
  refine ⟨M2, hI2, fun d Q => ?_⟩
  rw [BL_1600, a1, a2, mm_ck b1, mm_ck b2, c1, c2]
  refine (c (d + 8) _).trans ?_
  rw [sm_push_s, BL_1614, a1, a2, mm_ck b1, mm_ck b2, c1, c2, f0 0 (8 * n + 1), f0 0 (8 * n + 2)]
  refine (e (d + 8) _).trans ?_
  rw [sm_push_s, BL_1628, mm_bt rfl]
theorem BL_1633 (d nL : Nat) (x3 : Int32) (M : sm_M) (Q : sm_Q) : sm_W (d + 1) 0 1633 [vo 0, vo 10, vo 11, vi x3] [] (sm_G0 nL) M Q = sm_Ck (sm_in (x3 + 1) nL) (sm_W d 156 0 [vo 10, vi (M 0 0 (x3 + 1).toNatClampNeg)] [] (sm_G0 nL) M (fun r G1 M1 => sm_W (d + 1) 0 1642 [vo 0, vo 10, vo 11, vi x3] (sm_push r []) G1 M1 Q)) := (sm_I_eq 7 _ _ _ _ _ _ _ _).trans rfl
theorem BL_1642 (d nL : Nat) (x3 s1 : Int32) (M : sm_M) (Q : sm_Q) : sm_W (d + 1) 0 1642 [vo 0, vo 10, vo 11, vi x3] [Sum.inl s1] (sm_G0 nL) M Q = sm_Ck (sm_in (x3 + 1) nL) (sm_W d 269 0 [vo 11, vi (M 0 0 (x3 + 1).toNatClampNeg)] [] (sm_G0 nL) M (fun r G1 M1 => sm_W (d + 1) 0 1651 [vo 0, vo 10, vo 11, vi x3] (sm_push r [Sum.inl s1]) G1 M1 Q)) := (sm_I_eq 7 _ _ _ _ _ _ _ _).trans rfl
theorem BL_1651 (d nL : Nat) (x3 s1 s2 : Int32) (M : sm_M) (Q : sm_Q) : sm_W d 0 1651 [vo 0, vo 10, vo 11, vi x3] [Sum.inl s2, Sum.inl s1] (sm_G0 nL) M Q = sm_Br (decide (s1 = s2)) (sm_W d 0 1871 [vo 0, vo 10, vo 11, vi x3] [] (sm_G0 nL) M Q) (sm_W d 0 1654 [vo 0, vo 10, vo 11, vi x3] [] (sm_G0 nL) M Q) := (sm_I_eq 1 _ _ _ _ _ _ _ _).trans rfl
theorem Lc_1633 {n nL : Nat} {M : sm_M} (hI : InvP n M M) (hn : n < 2 ^ 29) (hL : nL < 2 ^ 31) (h8 : 8 * n + 8 ≤ nL) : Lcase n nL M 1633 := by
  obtain ⟨r, M1, M2, c, e, f0, hI2⟩ := step_of (nL := nL) hI (fun d A Q => sm_W d 156 0 [vo 10, vi (M 0 0 (8 * n + 1))] [] (sm_G0 nL) A Q) (fun d B Q => sm_W d 269 0 [vo 11, vi (M 0 0 (8 * n + 1))] [] (sm_G0 nL) B Q) (fun A B h => q156 h hn (M 0 0 (8 * n + 1)) nL)
  have a1 : nI (8 * n) + 1 = nI (8 * n + 1) := by show nI (8 * n) + nI 1 = _; rw [nI_add]
  have b1 : sm_in (nI (8 * n + 1)) nL = true := mm_in (by omega) hL
  have c1 : (nI (8 * n + 1)).toNatClampNeg = 8 * n + 1 := nI_clamp (by omega)
  refine ⟨M2, hI2, fun d Q => ?_⟩
  rw [BL_1633, a1, mm_ck b1, c1]
  refine (c (d + 10) _).trans ?_
  rw [sm_push_s, BL_1642, a1, mm_ck b1, c1, f0 0 (8 * n + 1)]
  refine (e (d + 10) _).trans ?_
  rw [sm_push_s, BL_1651, mm_bt rfl]
theorem BL_1656 (d nL : Nat) (x3 : Int32) (M : sm_M) (Q : sm_Q) : sm_W (d + 1) 0 1656 [vo 0, vo 10, vo 11, vi x3] [] (sm_G0 nL) M Q = sm_Ck (sm_in (x3 + 1) nL) (sm_Ck (sm_in (x3 + 2) nL) (sm_Ck (sm_in (x3 + 3) nL) (sm_W d 157 0 [vo 10, vi (M 0 0 (x3 + 1).toNatClampNeg), vi (M 0 0 (x3 + 2).toNatClampNeg), vi (M 0 0 (x3 + 3).toNatClampNeg), none] [] (sm_G0 nL) M (fun r G1 M1 => sm_W (d + 1) 0 1675 [vo 0, vo 10, vo 11, vi x3] (sm_push r []) G1 M1 Q)))) := (sm_I_eq 17 _ _ _ _ _ _ _ _).trans rfl
theorem BL_1675 (d nL : Nat) (x3 s1 : Int32) (M : sm_M) (Q : sm_Q) : sm_W (d + 1) 0 1675 [vo 0, vo 10, vo 11, vi x3] [Sum.inl s1] (sm_G0 nL) M Q = sm_Ck (sm_in (x3 + 1) nL) (sm_Ck (sm_in (x3 + 2) nL) (sm_Ck (sm_in (x3 + 3) nL) (sm_W d 270 0 [vo 11, vi (M 0 0 (x3 + 1).toNatClampNeg), vi (M 0 0 (x3 + 2).toNatClampNeg), vi (M 0 0 (x3 + 3).toNatClampNeg), none] [] (sm_G0 nL) M (fun r G1 M1 => sm_W (d + 1) 0 1694 [vo 0, vo 10, vo 11, vi x3] (sm_push r [Sum.inl s1]) G1 M1 Q)))) := (sm_I_eq 17 _ _ _ _ _ _ _ _).trans rfl
theorem BL_1694 (d nL : Nat) (x3 s1 s2 : Int32) (M : sm_M) (Q : sm_Q) : sm_W d 0 1694 [vo 0, vo 10, vo 11, vi x3] [Sum.inl s2, Sum.inl s1] (sm_G0 nL) M Q = sm_Br (decide (s1 = s2)) (sm_W d 0 1871 [vo 0, vo 10, vo 11, vi x3] [] (sm_G0 nL) M Q) (sm_W d 0 1697 [vo 0, vo 10, vo 11, vi x3] [] (sm_G0 nL) M Q) := (sm_I_eq 1 _ _ _ _ _ _ _ _).trans rfl
theorem Lc_1656 {n nL : Nat} {M : sm_M} (hI : InvP n M M) (hn : n < 2 ^ 29) (hL : nL < 2 ^ 31) (h8 : 8 * n + 8 ≤ nL) : Lcase n nL M 1656 := by
  obtain ⟨r, M1, M2, c, e, f0, hI2⟩ := step_of (nL := nL) hI (fun d A Q => sm_W (d + 1) 157 0 [vo 10, vi (M 0 0 (8 * n + 1)), vi (M 0 0 (8 * n + 2)), vi (M 0 0 (8 * n + 3)), none] [] (sm_G0 nL) A Q) (fun d B Q => sm_W (d + 2) 270 0 [vo 11, vi (M 0 0 (8 * n + 1)), vi (M 0 0 (8 * n + 2)), vi (M 0 0 (8 * n + 3)), none] [] (sm_G0 nL) B Q) (fun A B h => q157 h hn (M 0 0 (8 * n + 1)) (M 0 0 (8 * n + 2)) (M 0 0 (8 * n + 3)) nL)
  have a1 : nI (8 * n) + 1 = nI (8 * n + 1) := by show nI (8 * n) + nI 1 = _; rw [nI_add]
  have b1 : sm_in (nI (8 * n + 1)) nL = true := mm_in (by omega) hL
  have c1 : (nI (8 * n + 1)).toNatClampNeg = 8 * n + 1 := nI_clamp (by omega)
  have a2 : nI (8 * n) + 2 = nI (8 * n + 2) := by show nI (8 * n) + nI 2 = _; rw [nI_add]
  have b2 : sm_in (nI (8 * n + 2)) nL = true := mm_in (by omega) hL
  have c2 : (nI (8 * n + 2)).toNatClampNeg = 8 * n + 2 := nI_clamp (by omega)
  have a3 : nI (8 * n) + 3 = nI (8 * n + 3) := by show nI (8 * n) + nI 3 = _; rw [nI_add]
  have b3 : sm_in (nI (8 * n + 3)) nL = true := mm_in (by omega) hL
  have c3 : (nI (8 * n + 3)).toNatClampNeg = 8 * n + 3 := nI_clamp (by omega)
  refine ⟨M2, hI2, fun d Q => ?_⟩
  rw [BL_1656, a1, a2, a3, mm_ck b1, mm_ck b2, mm_ck b3, c1, c2, c3]
  refine (c (d + 9) _).trans ?_
  rw [sm_push_s, BL_1675, a1, a2, a3, mm_ck b1, mm_ck b2, mm_ck b3, c1, c2, c3, f0 0 (8 * n + 1), f0 0 (8 * n + 2), f0 0 (8 * n + 3)]
  refine (e (d + 8) _).trans ?_
  rw [sm_push_s, BL_1694, mm_bt rfl]
theorem BL_1699 (d nL : Nat) (x3 : Int32) (M : sm_M) (Q : sm_Q) : sm_W (d + 1) 0 1699 [vo 0, vo 10, vo 11, vi x3] [] (sm_G0 nL) M Q = sm_Ck (sm_in (x3 + 1) nL) (sm_Ck (sm_in (x3 + 2) nL) (sm_Ck (sm_in (x3 + 3) nL) (sm_W d 159 0 [vo 10, vi (M 0 0 (x3 + 1).toNatClampNeg), vi (M 0 0 (x3 + 2).toNatClampNeg), vi (M 0 0 (x3 + 3).toNatClampNeg), none] [] (sm_G0 nL) M (fun r G1 M1 => sm_W (d + 1) 0 1718 [vo 0, vo 10, vo 11, vi x3] (sm_push r []) G1 M1 Q)))) := (sm_I_eq 17 _ _ _ _ _ _ _ _).trans rfl
theorem BL_1718 (d nL : Nat) (x3 s1 : Int32) (M : sm_M) (Q : sm_Q) : sm_W (d + 1) 0 1718 [vo 0, vo 10, vo 11, vi x3] [Sum.inl s1] (sm_G0 nL) M Q = sm_Ck (sm_in (x3 + 1) nL) (sm_Ck (sm_in (x3 + 2) nL) (sm_Ck (sm_in (x3 + 3) nL) (sm_W d 272 0 [vo 11, vi (M 0 0 (x3 + 1).toNatClampNeg), vi (M 0 0 (x3 + 2).toNatClampNeg), vi (M 0 0 (x3 + 3).toNatClampNeg)] [] (sm_G0 nL) M (fun r G1 M1 => sm_W (d + 1) 0 1737 [vo 0, vo 10, vo 11, vi x3] (sm_push r [Sum.inl s1]) G1 M1 Q)))) := (sm_I_eq 17 _ _ _ _ _ _ _ _).trans rfl
theorem BL_1737 (d nL : Nat) (x3 s1 s2 : Int32) (M : sm_M) (Q : sm_Q) : sm_W d 0 1737 [vo 0, vo 10, vo 11, vi x3] [Sum.inl s2, Sum.inl s1] (sm_G0 nL) M Q = sm_Br (decide (s1 = s2)) (sm_W d 0 1871 [vo 0, vo 10, vo 11, vi x3] [] (sm_G0 nL) M Q) (sm_W d 0 1740 [vo 0, vo 10, vo 11, vi x3] [] (sm_G0 nL) M Q) := (sm_I_eq 1 _ _ _ _ _ _ _ _).trans rfl
theorem Lc_1699 {n nL : Nat} {M : sm_M} (hI : InvP n M M) (hn : n < 2 ^ 29) (hL : nL < 2 ^ 31) (h8 : 8 * n + 8 ≤ nL) : Lcase n nL M 1699 := by
  obtain ⟨r, M1, M2, c, e, f0, hI2⟩ := step_of (nL := nL) hI (fun d A Q => sm_W (d + 2) 159 0 [vo 10, vi (M 0 0 (8 * n + 1)), vi (M 0 0 (8 * n + 2)), vi (M 0 0 (8 * n + 3)), none] [] (sm_G0 nL) A Q) (fun d B Q => sm_W (d + 2) 272 0 [vo 11, vi (M 0 0 (8 * n + 1)), vi (M 0 0 (8 * n + 2)), vi (M 0 0 (8 * n + 3))] [] (sm_G0 nL) B Q) (fun A B h => q159x h hn (M 0 0 (8 * n + 1)) (M 0 0 (8 * n + 2)) (M 0 0 (8 * n + 3)) nL)
  have a1 : nI (8 * n) + 1 = nI (8 * n + 1) := by show nI (8 * n) + nI 1 = _; rw [nI_add]
  have b1 : sm_in (nI (8 * n + 1)) nL = true := mm_in (by omega) hL
  have c1 : (nI (8 * n + 1)).toNatClampNeg = 8 * n + 1 := nI_clamp (by omega)
  have a2 : nI (8 * n) + 2 = nI (8 * n + 2) := by show nI (8 * n) + nI 2 = _; rw [nI_add]
  have b2 : sm_in (nI (8 * n + 2)) nL = true := mm_in (by omega) hL
  have c2 : (nI (8 * n + 2)).toNatClampNeg = 8 * n + 2 := nI_clamp (by omega)
  have a3 : nI (8 * n) + 3 = nI (8 * n + 3) := by show nI (8 * n) + nI 3 = _; rw [nI_add]
  have b3 : sm_in (nI (8 * n + 3)) nL = true := mm_in (by omega) hL
  have c3 : (nI (8 * n + 3)).toNatClampNeg = 8 * n + 3 := nI_clamp (by omega)
  refine ⟨M2, hI2, fun d Q => ?_⟩
  rw [BL_1699, a1, a2, a3, mm_ck b1, mm_ck b2, mm_ck b3, c1, c2, c3]
  refine (c (d + 8) _).trans ?_
  rw [sm_push_s, BL_1718, a1, a2, a3, mm_ck b1, mm_ck b2, mm_ck b3, c1, c2, c3, f0 0 (8 * n + 1), f0 0 (8 * n + 2), f0 0 (8 * n + 3)]
  refine (e (d + 8) _).trans ?_
  rw [sm_push_s, BL_1737, mm_bt rfl]
theorem BL_1742 (d nL : Nat) (x3 : Int32) (M : sm_M) (Q : sm_Q) : sm_W (d + 1) 0 1742 [vo 0, vo 10, vo 11, vi x3] [] (sm_G0 nL) M Q = sm_Ck (sm_in (x3 + 1) nL) (sm_Ck (sm_in (x3 + 2) nL) (sm_W d 161 0 [vo 10, vi (M 0 0 (x3 + 1).toNatClampNeg), vi (M 0 0 (x3 + 2).toNatClampNeg), none] [] (sm_G0 nL) M (fun r G1 M1 => sm_W (d + 1) 0 1756 [vo 0, vo 10, vo 11, vi x3] (sm_push r []) G1 M1 Q))) := (sm_I_eq 12 _ _ _ _ _ _ _ _).trans rfl
theorem BL_1756 (d nL : Nat) (x3 s1 : Int32) (M : sm_M) (Q : sm_Q) : sm_W (d + 1) 0 1756 [vo 0, vo 10, vo 11, vi x3] [Sum.inl s1] (sm_G0 nL) M Q = sm_Ck (sm_in (x3 + 1) nL) (sm_Ck (sm_in (x3 + 2) nL) (sm_W d 273 0 [vo 11, vi (M 0 0 (x3 + 1).toNatClampNeg), vi (M 0 0 (x3 + 2).toNatClampNeg)] [] (sm_G0 nL) M (fun r G1 M1 => sm_W (d + 1) 0 1770 [vo 0, vo 10, vo 11, vi x3] (sm_push r [Sum.inl s1]) G1 M1 Q))) := (sm_I_eq 12 _ _ _ _ _ _ _ _).trans rfl
theorem BL_1770 (d nL : Nat) (x3 s1 s2 : Int32) (M : sm_M) (Q : sm_Q) : sm_W d 0 1770 [vo 0, vo 10, vo 11, vi x3] [Sum.inl s2, Sum.inl s1] (sm_G0 nL) M Q = sm_Br (decide (s1 = s2)) (sm_W d 0 1871 [vo 0, vo 10, vo 11, vi x3] [] (sm_G0 nL) M Q) (sm_W d 0 1773 [vo 0, vo 10, vo 11, vi x3] [] (sm_G0 nL) M Q) := (sm_I_eq 1 _ _ _ _ _ _ _ _).trans rfl
theorem Lc_1742 {n nL : Nat} {M : sm_M} (hI : InvP n M M) (hn : n < 2 ^ 29) (hL : nL < 2 ^ 31) (h8 : 8 * n + 8 ≤ nL) : Lcase n nL M 1742 := by
  obtain ⟨r, M1, M2, c, e, f0, hI2⟩ := step_of (nL := nL) hI (fun d A Q => sm_W (d + 1) 161 0 [vo 10, vi (M 0 0 (8 * n + 1)), vi (M 0 0 (8 * n + 2)), none] [] (sm_G0 nL) A Q) (fun d B Q => sm_W (d + 2) 273 0 [vo 11, vi (M 0 0 (8 * n + 1)), vi (M 0 0 (8 * n + 2))] [] (sm_G0 nL) B Q) (fun A B h => q161 h hn (M 0 0 (8 * n + 1)) (M 0 0 (8 * n + 2)) nL)
  have a1 : nI (8 * n) + 1 = nI (8 * n + 1) := by show nI (8 * n) + nI 1 = _; rw [nI_add]
  have b1 : sm_in (nI (8 * n + 1)) nL = true := mm_in (by omega) hL
  have c1 : (nI (8 * n + 1)).toNatClampNeg = 8 * n + 1 := nI_clamp (by omega)
  have a2 : nI (8 * n) + 2 = nI (8 * n + 2) := by show nI (8 * n) + nI 2 = _; rw [nI_add]
  have b2 : sm_in (nI (8 * n + 2)) nL = true := mm_in (by omega) hL
  have c2 : (nI (8 * n + 2)).toNatClampNeg = 8 * n + 2 := nI_clamp (by omega)
  refine ⟨M2, hI2, fun d Q => ?_⟩
  rw [BL_1742, a1, a2, mm_ck b1, mm_ck b2, c1, c2]
  refine (c (d + 9) _).trans ?_
  rw [sm_push_s, BL_1756, a1, a2, mm_ck b1, mm_ck b2, c1, c2, f0 0 (8 * n + 1), f0 0 (8 * n + 2)]
  refine (e (d + 8) _).trans ?_
  rw [sm_push_s, BL_1770, mm_bt rfl]
theorem BL_1775 (d nL : Nat) (x3 : Int32) (M : sm_M) (Q : sm_Q) : sm_W (d + 1) 0 1775 [vo 0, vo 10, vo 11, vi x3] [] (sm_G0 nL) M Q = sm_Ck (sm_in (x3 + 1) nL) (sm_Ck (sm_in (x3 + 2) nL) (sm_W d 162 0 [vo 10, vi (M 0 0 (x3 + 1).toNatClampNeg), vi (M 0 0 (x3 + 2).toNatClampNeg), none] [] (sm_G0 nL) M (fun r G1 M1 => sm_W (d + 1) 0 1789 [vo 0, vo 10, vo 11, vi x3] (sm_push r []) G1 M1 Q))) := (sm_I_eq 12 _ _ _ _ _ _ _ _).trans rfl
theorem BL_1789 (d nL : Nat) (x3 s1 : Int32) (M : sm_M) (Q : sm_Q) : sm_W (d + 1) 0 1789 [vo 0, vo 10, vo 11, vi x3] [Sum.inl s1] (sm_G0 nL) M Q = sm_Ck (sm_in (x3 + 1) nL) (sm_Ck (sm_in (x3 + 2) nL) (sm_W d 274 0 [vo 11, vi (M 0 0 (x3 + 1).toNatClampNeg), vi (M 0 0 (x3 + 2).toNatClampNeg)] [] (sm_G0 nL) M (fun r G1 M1 => sm_W (d + 1) 0 1803 [vo 0, vo 10, vo 11, vi x3] (sm_push r [Sum.inl s1]) G1 M1 Q))) := (sm_I_eq 12 _ _ _ _ _ _ _ _).trans rfl
theorem BL_1803 (d nL : Nat) (x3 s1 s2 : Int32) (M : sm_M) (Q : sm_Q) : sm_W d 0 1803 [vo 0, vo 10, vo 11, vi x3] [Sum.inl s2, Sum.inl s1] (sm_G0 nL) M Q = sm_Br (decide (s1 = s2)) (sm_W d 0 1871 [vo 0, vo 10, vo 11, vi x3] [] (sm_G0 nL) M Q) (sm_W d 0 1806 [vo 0, vo 10, vo 11, vi x3] [] (sm_G0 nL) M Q) := (sm_I_eq 1 _ _ _ _ _ _ _ _).trans rfl
theorem Lc_1775 {n nL : Nat} {M : sm_M} (hI : InvP n M M) (hn : n < 2 ^ 29) (hL : nL < 2 ^ 31) (h8 : 8 * n + 8 ≤ nL) : Lcase n nL M 1775 := by
  obtain ⟨r, M1, M2, c, e, f0, hI2⟩ := step_of (nL := nL) hI (fun d A Q => sm_W (d + 1) 162 0 [vo 10, vi (M 0 0 (8 * n + 1)), vi (M 0 0 (8 * n + 2)), none] [] (sm_G0 nL) A Q) (fun d B Q => sm_W (d + 2) 274 0 [vo 11, vi (M 0 0 (8 * n + 1)), vi (M 0 0 (8 * n + 2))] [] (sm_G0 nL) B Q) (fun A B h => q162 h hn (M 0 0 (8 * n + 1)) (M 0 0 (8 * n + 2)) nL)
  have a1 : nI (8 * n) + 1 = nI (8 * n + 1) := by show nI (8 * n) + nI 1 = _; rw [nI_add]
  have b1 : sm_in (nI (8 * n + 1)) nL = true := mm_in (by omega) hL
  have c1 : (nI (8 * n + 1)).toNatClampNeg = 8 * n + 1 := nI_clamp (by omega)
  have a2 : nI (8 * n) + 2 = nI (8 * n + 2) := by show nI (8 * n) + nI 2 = _; rw [nI_add]
  have b2 : sm_in (nI (8 * n + 2)) nL = true := mm_in (by omega) hL
  have c2 : (nI (8 * n + 2)).toNatClampNeg = 8 * n + 2 := nI_clamp (by omega)
  refine ⟨M2, hI2, fun d Q => ?_⟩
  rw [BL_1775, a1, a2, mm_ck b1, mm_ck b2, c1, c2]
  refine (c (d + 9) _).trans ?_
  rw [sm_push_s, BL_1789, a1, a2, mm_ck b1, mm_ck b2, c1, c2, f0 0 (8 * n + 1), f0 0 (8 * n + 2)]
  refine (e (d + 8) _).trans ?_
  rw [sm_push_s, BL_1803, mm_bt rfl]
theorem BL_1808 (d nL : Nat) (x3 : Int32) (M : sm_M) (Q : sm_Q) : sm_W (d + 1) 0 1808 [vo 0, vo 10, vo 11, vi x3] [] (sm_G0 nL) M Q = sm_Ck (sm_in (x3 + 1) nL) (sm_Ck (sm_in (x3 + 2) nL) (sm_Ck (sm_in (x3 + 3) nL) (sm_Ck (sm_in (x3 + 4) nL) (sm_Ck (sm_in (x3 + 5) nL) (sm_W d 163 0 [vo 10, vi (M 0 0 (x3 + 1).toNatClampNeg), vi (M 0 0 (x3 + 2).toNatClampNeg), vi (M 0 0 (x3 + 3).toNatClampNeg), vi (M 0 0 (x3 + 4).toNatClampNeg), vi (M 0 0 (x3 + 5).toNatClampNeg), none, none] [] (sm_G0 nL) M (fun r G1 M1 => sm_W (d + 1) 0 1837 [vo 0, vo 10, vo 11, vi x3] (sm_push r []) G1 M1 Q)))))) := (sm_I_eq 27 _ _ _ _ _ _ _ _).trans rfl
theorem BL_1837 (d nL : Nat) (x3 s1 : Int32) (M : sm_M) (Q : sm_Q) : sm_W (d + 1) 0 1837 [vo 0, vo 10, vo 11, vi x3] [Sum.inl s1] (sm_G0 nL) M Q = sm_Ck (sm_in (x3 + 1) nL) (sm_Ck (sm_in (x3 + 2) nL) (sm_Ck (sm_in (x3 + 3) nL) (sm_Ck (sm_in (x3 + 4) nL) (sm_Ck (sm_in (x3 + 5) nL) (sm_W d 275 0 [vo 11, vi (M 0 0 (x3 + 1).toNatClampNeg), vi (M 0 0 (x3 + 2).toNatClampNeg), vi (M 0 0 (x3 + 3).toNatClampNeg), vi (M 0 0 (x3 + 4).toNatClampNeg), vi (M 0 0 (x3 + 5).toNatClampNeg), none] [] (sm_G0 nL) M (fun r G1 M1 => sm_W (d + 1) 0 1866 [vo 0, vo 10, vo 11, vi x3] (sm_push r [Sum.inl s1]) G1 M1 Q)))))) := (sm_I_eq 27 _ _ _ _ _ _ _ _).trans rfl
theorem BL_1866 (d nL : Nat) (x3 s1 s2 : Int32) (M : sm_M) (Q : sm_Q) : sm_W d 0 1866 [vo 0, vo 10, vo 11, vi x3] [Sum.inl s2, Sum.inl s1] (sm_G0 nL) M Q = sm_Br (decide (s1 = s2)) (sm_W d 0 1871 [vo 0, vo 10, vo 11, vi x3] [] (sm_G0 nL) M Q) (sm_W d 0 1869 [vo 0, vo 10, vo 11, vi x3] [] (sm_G0 nL) M Q) := (sm_I_eq 1 _ _ _ _ _ _ _ _).trans rfl
theorem Lc_1808 {n nL : Nat} {M : sm_M} (hI : InvP n M M) (hn : n < 2 ^ 29) (hL : nL < 2 ^ 31) (h8 : 8 * n + 8 ≤ nL) : Lcase n nL M 1808 := by
  obtain ⟨r, M1, M2, c, e, f0, hI2⟩ := step_of (nL := nL) hI (fun d A Q => sm_W (d + 1) 163 0 [vo 10, vi (M 0 0 (8 * n + 1)), vi (M 0 0 (8 * n + 2)), vi (M 0 0 (8 * n + 3)), vi (M 0 0 (8 * n + 4)), vi (M 0 0 (8 * n + 5)), none, none] [] (sm_G0 nL) A Q) (fun d B Q => sm_W (d + 2) 275 0 [vo 11, vi (M 0 0 (8 * n + 1)), vi (M 0 0 (8 * n + 2)), vi (M 0 0 (8 * n + 3)), vi (M 0 0 (8 * n + 4)), vi (M 0 0 (8 * n + 5)), none] [] (sm_G0 nL) B Q) (fun A B h => q163 h hn (M 0 0 (8 * n + 1)) (M 0 0 (8 * n + 2)) (M 0 0 (8 * n + 3)) (M 0 0 (8 * n + 4)) (M 0 0 (8 * n + 5)) nL)
  have a1 : nI (8 * n) + 1 = nI (8 * n + 1) := by show nI (8 * n) + nI 1 = _; rw [nI_add]
  have b1 : sm_in (nI (8 * n + 1)) nL = true := mm_in (by omega) hL
  have c1 : (nI (8 * n + 1)).toNatClampNeg = 8 * n + 1 := nI_clamp (by omega)
  have a2 : nI (8 * n) + 2 = nI (8 * n + 2) := by show nI (8 * n) + nI 2 = _; rw [nI_add]
  have b2 : sm_in (nI (8 * n + 2)) nL = true := mm_in (by omega) hL
  have c2 : (nI (8 * n + 2)).toNatClampNeg = 8 * n + 2 := nI_clamp (by omega)
  have a3 : nI (8 * n) + 3 = nI (8 * n + 3) := by show nI (8 * n) + nI 3 = _; rw [nI_add]
  have b3 : sm_in (nI (8 * n + 3)) nL = true := mm_in (by omega) hL
  have c3 : (nI (8 * n + 3)).toNatClampNeg = 8 * n + 3 := nI_clamp (by omega)
  have a4 : nI (8 * n) + 4 = nI (8 * n + 4) := by show nI (8 * n) + nI 4 = _; rw [nI_add]
  have b4 : sm_in (nI (8 * n + 4)) nL = true := mm_in (by omega) hL
  have c4 : (nI (8 * n + 4)).toNatClampNeg = 8 * n + 4 := nI_clamp (by omega)
  have a5 : nI (8 * n) + 5 = nI (8 * n + 5) := by show nI (8 * n) + nI 5 = _; rw [nI_add]
  have b5 : sm_in (nI (8 * n + 5)) nL = true := mm_in (by omega) hL
  have c5 : (nI (8 * n + 5)).toNatClampNeg = 8 * n + 5 := nI_clamp (by omega)
  refine ⟨M2, hI2, fun d Q => ?_⟩
  rw [BL_1808, a1, a2, a3, a4, a5, mm_ck b1, mm_ck b2, mm_ck b3, mm_ck b4, mm_ck b5, c1, c2, c3, c4, c5]
  refine (c (d + 9) _).trans ?_
  rw [sm_push_s, BL_1837, a1, a2, a3, a4, a5, mm_ck b1, mm_ck b2, mm_ck b3, mm_ck b4, mm_ck b5, c1, c2, c3, c4, c5, f0 0 (8 * n + 1), f0 0 (8 * n + 2), f0 0 (8 * n + 3), f0 0 (8 * n + 4), f0 0 (8 * n + 5)]
  refine (e (d + 8) _).trans ?_
  rw [sm_push_s, BL_1866, mm_bt rfl]
theorem Lc_1871 {n nL : Nat} {M : sm_M} (hI : InvP n M M) : Lcase n nL M 1871 := ⟨M, InvP_s hI, fun d Q => rfl⟩
theorem sw_ex (x : Int32) (e : Nat) : ∀ T : List (Int32 × Nat), ∃ q, (q = e ∨ q ∈ T.map Prod.snd) ∧ ∀ K : Nat → Prop, sm_swP x K T e = K q
  | [] => ⟨e, .inl rfl, fun _ => rfl⟩
  | (c, t) :: T => by
    by_cases h : x = c
    · exact ⟨t, .inr (List.mem_cons_self), fun K => mm_bt h⟩
    · obtain ⟨q, hq, hK⟩ := sw_ex x e T
      exact ⟨q, hq.imp id (fun hh => List.mem_cons_of_mem _ hh), fun K => (mm_bf h).trans (hK K)⟩
theorem sw_T : (sm_sw 0).map Prod.snd = [236, 259, 302, 355, 388, 421, 454, 507, 594, 607, 660, 693, 716, 739, 772, 805, 838, 861, 894, 937, 980, 1033, 1066, 1099, 1122, 1155, 1178, 1191, 1224, 1237, 1260, 1293, 1336, 1379, 1402, 1415, 1468, 1501, 1534, 1577, 1600, 1633, 1656, 1699, 1742, 1775, 1808] ∧ sm_sd 0 = 1871 := ⟨by decide, by decide⟩
theorem Lall {n nL : Nat} {M : sm_M} (hI : InvP n M M) (hn : n < 2 ^ 29) (hL : nL < 2 ^ 31) (h8 : 8 * n + 8 ≤ nL) (q : Nat) (hq : q = 1871 ∨ q ∈ [236, 259, 302, 355, 388, 421, 454, 507, 594, 607, 660, 693, 716, 739, 772, 805, 838, 861, 894, 937, 980, 1033, 1066, 1099, 1122, 1155, 1178, 1191, 1224, 1237, 1260, 1293, 1336, 1379, 1402, 1415, 1468, 1501, 1534, 1577, 1600, 1633, 1656, 1699, 1742, 1775, 1808]) : Lcase n nL M q := by
  rcases hq with rfl | hq
  · exact Lc_1871 hI
  simp only [List.mem_cons, List.not_mem_nil, or_false] at hq
  rcases hq with rfl | rfl | rfl | rfl | rfl | rfl | rfl | rfl | rfl | rfl | rfl | rfl | rfl | rfl | rfl | rfl | rfl | rfl | rfl | rfl | rfl | rfl | rfl | rfl | rfl | rfl | rfl | rfl | rfl | rfl | rfl | rfl | rfl | rfl | rfl | rfl | rfl | rfl | rfl | rfl | rfl | rfl | rfl | rfl | rfl | rfl | rfl
  · exact Lc_236 hI hn hL h8
  · exact Lc_259 hI hn hL h8
  · exact Lc_302 hI hn hL h8
  · exact Lc_355 hI hn hL h8
  · exact Lc_388 hI hn hL h8
  · exact Lc_421 hI hn hL h8
  · exact Lc_454 hI hn hL h8
  · exact Lc_507 hI hn hL h8
  · exact Lc_594 hI hn hL h8
  · exact Lc_607 hI hn hL h8
  · exact Lc_660 hI hn hL h8
  · exact Lc_693 hI hn hL h8
  · exact Lc_716 hI hn hL h8
  · exact Lc_739 hI hn hL h8
  · exact Lc_772 hI hn hL h8
  · exact Lc_805 hI hn hL h8
  · exact Lc_838 hI hn hL h8
  · exact Lc_861 hI hn hL h8
  · exact Lc_894 hI hn hL h8
  · exact Lc_937 hI hn hL h8
  · exact Lc_980 hI hn hL h8
  · exact Lc_1033 hI hn hL h8
  · exact Lc_1066 hI hn hL h8
  · exact Lc_1099 hI hn hL h8
  · exact Lc_1122 hI hn hL h8
  · exact Lc_1155 hI hn hL h8
  · exact Lc_1178 hI hn hL h8
  · exact Lc_1191 hI hn hL h8
  · exact Lc_1224 hI hn hL h8
  · exact Lc_1237 hI hn hL h8
  · exact Lc_1260 hI hn hL h8
  · exact Lc_1293 hI hn hL h8
  · exact Lc_1336 hI hn hL h8
  · exact Lc_1379 hI hn hL h8
  · exact Lc_1402 hI hn hL h8
  · exact Lc_1415 hI hn hL h8
  · exact Lc_1468 hI hn hL h8
  · exact Lc_1501 hI hn hL h8
  · exact Lc_1534 hI hn hL h8
  · exact Lc_1577 hI hn hL h8
  · exact Lc_1600 hI hn hL h8
  · exact Lc_1633 hI hn hL h8
  · exact Lc_1656 hI hn hL h8
  · exact Lc_1699 hI hn hL h8
  · exact Lc_1742 hI hn hL h8
  · exact Lc_1775 hI hn hL h8
  · exact Lc_1808 hI hn hL h8
theorem law_loop {nL : Nat} (hL : nL < 2 ^ 31) : ∀ j n M, nL < 8 * n + 8 * j + 8 → n < 2 ^ 28 → InvP n M M → ∃ M', ∀ d Q, sm_W (d + 11) 0 18 [vo 0, vo 10, vo 11, vi (nI (8 * n))] [] (sm_G0 nL) M Q = Q (vi 1) (sm_G0 nL) M' := by
  have lt : ∀ n, 8 * n < 2 ^ 31 → (Int32.ofNat nL - 8 < nI (8 * n)) = (nL < 8 * n + 8) := fun n h => by
    have e1 : (Int32.ofNat nL).toInt = (nL : Int) := nI_toInt hL
    rw [Int32.lt_iff_toInt_lt, Int32.toInt_sub, e1, show (8 : Int32).toInt = 8 from rfl, fd_t _ (by omega), nI_toInt h]
    exact propext (by omega)
  intro j
  induction j with
  | zero =>
    intro n M hj hn hI
    exact ⟨M, fun d Q => by rw [BL_18, mm_bt ((lt n (by omega)).mpr (by omega)), BL_1877]⟩
  | succ j ih =>
    intro n M hj hn hI
    by_cases h8 : 8 * n + 8 ≤ nL
    · have hin : sm_in (nI (8 * n)) nL = true := mm_in (by omega) hL
      have hc : (nI (8 * n)).toNatClampNeg = 8 * n := nI_clamp (by omega)
      obtain ⟨q, hq, hK⟩ := sw_ex (M 0 0 (8 * n) &&& 63) (sm_sd 0) (sm_sw 0)
      rw [sw_T.1, sw_T.2] at hq
      obtain ⟨M2, hI2, g⟩ := Lall hI (by omega) hL h8 q hq
      obtain ⟨M', g2⟩ := ih (n + 1) M2 (by omega) (by omega) hI2
      have e8 : nI (8 * n) + 8 = nI (8 * (n + 1)) := by show nI (8 * n) + nI 8 = _; rw [nI_add]; rfl
      exact ⟨M', fun d Q => by rw [BL_18, mm_bf (fun h => absurd ((lt n (by omega)).mp h) (by omega)), BL_27, mm_ck hin, hc, hK, g, BL_1871, e8, g2]⟩
    · exact ⟨M, fun d Q => by rw [BL_18, mm_bt ((lt n (by omega)).mpr (by omega)), BL_1877]⟩
