/-! late, the call -/
theorem p116 {A B : sm_M} {m e : Nat} (hT : J_tel e m A B) (hG : J_thg A B) (hR : J_rul A B) (nL : Nat) : ∃ r, (∀ d Q, sm_W (d + 2) 116 0 [vo 10] [] (sm_G0 nL) A Q = Q (vi r) (sm_G0 nL) A) ∧ (∀ d Q, sm_W (d + 2) 238 0 [vo 11, none, none] [] (sm_G0 nL) B Q = Q (vi r) (sm_G0 nL) B) := by
  obtain ⟨t, q, C, NC, h1, h2, h3, h4, h5, h6, h7, h8, h9, h10, h11, h12⟩ := hT
  obtain ⟨t', s, g1, g2, g3, g4, g5, g6, g7, g8⟩ := hG
  have et : t' = t := (nI_eq (by omega) (by omega)).mp (g4.symm.trans h5)
  subst et
  obtain ⟨n, hn, ea, eb, hK, h0⟩ := hR
  have hB : ∀ i, i < t' → (B 67 0 i = -1 ∨ ∃ j, j < q ∧ B 67 0 i = nI j) := fun i hi => by
    obtain ⟨-, -, ⟨u, c, -, -, -, -, -, -, h⟩, -⟩ := h11 i hi
    rcases h with h | ⟨j, -, h, h'⟩
    · exact .inl h
    · exact .inr ⟨j, h, h'⟩
  refine ⟨nI (wlt B n t'), fun d Q => ?_, fun d Q => ?_⟩
  · rw [T116, T117]
    refine (m117 d nL g1 h2 hn h4 h6 ea hK (fun x => (wA_eq hK h0 x).2.2.2.2.1) (fun i hi => ⟨(h11 i hi).1, (g7 i hi).2.2.2.2.1, hB i hi⟩) (fun j hj => (h9 j hj).2.2.1) _ t' 0 none none (by omega)).trans ?_
    rw [sm_push_s, T116_11]
  · rw [T238]
    exact r238 d nL g1 h2 hn h5 eb hB Q t' 0 (by omega)
