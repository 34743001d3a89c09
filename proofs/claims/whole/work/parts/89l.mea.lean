/-! things when a survey comes -/
theorem J_thg_srv {A B : sm_M} {n : Nat} {a b c : Int32} (hJ : J_thg A B) (en : B 11 0 3 = nI n) (hn : n < 12) : J_thg (sm_u (sm_u (sm_u (sm_u A 41 n 0 a) 41 n 1 b) 41 n 2 c) 14 0 1 (nI (n + 1))) (sm_u (sm_u (sm_u (sm_u B 50 0 n a) 51 0 n b) 52 0 n c) 11 0 3 (nI (n + 1))) := by
  obtain ⟨t, s, h1, h2, h3, h4, h5, h6, h7, h8⟩ := hJ
  have e2 : s = n := (nI_eq (by omega) (by omega)).mp (h5.symm.trans en)
  subst e2
  refine ⟨t, s + 1, h1, by omega, h3, h4, rfl, h6, fun i hi => ?_, h8⟩
  obtain ⟨k1, k2, k3, k4, k5, k6, k7, k8, ⟨v, hv, ev⟩, k10⟩ := h7 i hi
  exact ⟨k1, k2, k3, k4, k5, k6, k7, k8, ⟨v, by omega, ev⟩, k10⟩
/-- the other groups stand where a thing comes, a survey comes, .. : they are the same by definition -/
theorem J_day_aA {A B : sm_M} {t : Nat} {k v c f k' v' c' f' : Int32} (h : J_day A B) : J_day (aA A t k v c f) (aB B t k' v' c' f') := h
theorem J_sea_aA {A B : sm_M} {t : Nat} {k v c f k' v' c' f' : Int32} (h : J_sea A B) : J_sea (aA A t k v c f) (aB B t k' v' c' f') := h
theorem J_srv_aA {A B : sm_M} {t : Nat} {k v c f k' v' c' f' : Int32} (h : J_srv A B) : J_srv (aA A t k v c f) (aB B t k' v' c' f') := h
theorem J_rul_aA {A B : sm_M} {t : Nat} {k v c f k' v' c' f' : Int32} (h : J_rul A B) : J_rul (aA A t k v c f) (aB B t k' v' c' f') := h
theorem J_way_aA {A B : sm_M} {t : Nat} {k v c f k' v' c' f' : Int32} (h : J_way A B) : J_way (aA A t k v c f) (aB B t k' v' c' f') := h
