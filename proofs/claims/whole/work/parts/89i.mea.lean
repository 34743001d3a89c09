/-! count -/
theorem mm_q (Q : sm_Q) {p : Prop} [Decidable p] {a b : Int32} {G : sm_G} {M : sm_M} : sm_Br (decide p) (Q (some (Sum.inl a)) G M) (Q (some (Sum.inl b)) G M) = Q (some (Sum.inl (if p then a else b))) G M := by
  by_cases h : p
  · rw [mm_bt h, if_pos h]
  · rw [mm_bf h, if_neg h]
theorem p156 {A B : sm_M} (h0 : A 10 0 0 = B 11 0 1) (h1 : A 14 0 1 = B 11 0 3) (h2 : A 14 0 3 = B 11 0 13) (h3 : A 13 0 1 = B 11 0 27) (h4 : A 10 0 5 = B 11 0 38) (h5 : A 10 0 7 = B 11 0 44) (h6 : A 14 0 5 = B 11 0 49) (h7 : A 10 0 9 = B 11 0 52) (h8 : A 10 0 10 = B 11 0 55) (h9 : A 13 0 4 = B 11 0 26) (h10 : A 10 0 12 = B 11 0 59) (h11 : A 20 0 1 = B 11 0 65) (x0 : Int32) (nL : Nat) : ∃ r, (∀ d Q, sm_W d 156 0 [vo 10, vi x0] [] (sm_G0 nL) A Q = Q (vi r) (sm_G0 nL) A) ∧ (∀ d Q, sm_W d 269 0 [vo 11, vi x0] [] (sm_G0 nL) B Q = Q (vi r) (sm_G0 nL) B) := by
  refine ⟨(if x0 = 0 then B 11 0 1 else (if x0 = 1 then B 11 0 3 else (if x0 = 2 then B 11 0 13 else (if x0 = 3 then B 11 0 27 else (if x0 = 4 then B 11 0 38 else (if x0 = 5 then B 11 0 44 else (if x0 = 6 then B 11 0 49 else (if x0 = 7 then B 11 0 52 else (if x0 = 8 then B 11 0 55 else (if x0 = 9 then B 11 0 26 else (if x0 = 10 then B 11 0 59 else (if x0 = 11 then B 11 0 65 else (-2 : Int32))))))))))))), fun d Q => ?_, fun d Q => ?_⟩
  · rw [T156, h0, h1, h2, h3, h4, h5, h6, h7, h8, h9, h10, h11]
    simp only [mm_q Q]
  · rw [T269]
    simp only [mm_q Q]
