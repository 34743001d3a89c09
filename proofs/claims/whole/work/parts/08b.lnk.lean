/-! what the checks give of links and methods -/
theorem oc_lt : ∀ k, k < 276 → sm_oc k < 16 := by decide +kernel
theorem cp_div {oc idx : Nat} (h : idx < 2048) : (oc * 2048 + idx) / 2048 = oc := by omega
theorem cp_mod {oc idx : Nat} (h : idx < 2048) : (oc * 2048 + idx) % 2048 = idx := by omega
theorem cp_lt {oc idx : Nat} (h : idx < 2048) (ho : oc < 16) : oc * 2048 + idx < 32768 := by omega
theorem nb_ne {a b : Nat} (h : (!Nat.beq a b) = true) : a ≠ b := fun e => by
  subst e
  rw [Nat.beq_refl] at h; cases h
theorem fl_ok {oc idx a b : Nat} (h : ci_f (oc * 2048) idx a b = true) (ho : oc < 16) : b < sm_nf a ∧ a < 13 ∧ Cond.fieldLink (sm_on oc) idx (sm_ct a b).1 (sm_ct a b).2.1 (sm_ct a b).2.2.1 ∈ sm_ts := by
  unfold ci_f at h
  rw [Bool.and_eq_true] at h
  have hi : idx < 2048 := Nat.blt_eq ▸ h.1
  have hc := sm_upto_ok ck_fl _ (cp_lt hi ho)
  unfold cf_fl at hc
  rw [cp_div hi, cp_mod hi] at hc
  have h2 := h.2
  generalize sm_fl (oc * 2048 + idx) = q at h2 hc
  obtain ⟨c, k, i⟩ := q
  dsimp only at h2 hc
  simp only [Bool.and_eq_true] at h2
  obtain ⟨⟨h3, h4⟩, h5⟩ := h2
  have h3 := Nat.eq_of_beq_eq_true h3
  have h4 := Nat.eq_of_beq_eq_true h4
  subst h3; subst h4
  rcases (Bool.or_eq_true _ _).mp hc with h6 | h6
  · exact absurd (Nat.eq_of_beq_eq_true h6) (nb_ne h5)
  · simp only [Bool.and_eq_true] at h6
    exact ⟨Nat.blt_eq ▸ h6.1.1, Nat.blt_eq ▸ h6.1.2, sm_w_ts h6.2⟩
theorem kl_ok {oc idx a : Nat} (h : ci_k (oc * 2048) idx a = true) (ho : oc < 16) : a < 276 ∧ 0 < a ∧ (Cond.methodLink (sm_on oc) idx (sm_my a) ∈ sm_ts ∨ Cond.methodLinkNest (sm_on oc) idx (sm_my a) "FathomRoom" ∈ lw_tbl) := by
  unfold ci_k at h
  rw [Bool.and_eq_true] at h
  have hi : idx < 2048 := Nat.blt_eq ▸ h.1
  have hc := sm_upto_ok ck_kl _ (cp_lt hi ho)
  unfold cf_kl at hc
  rw [cp_div hi, cp_mod hi] at hc
  have h2 := h.2
  generalize sm_kl (oc * 2048 + idx) = q at h2 hc
  obtain ⟨y, n, i⟩ := q
  dsimp only at h2 hc
  simp only [Bool.and_eq_true] at h2
  obtain ⟨⟨h3, h4⟩, h5⟩ := h2
  have h3 := Nat.eq_of_beq_eq_true h3
  subst h3
  rcases (Bool.or_eq_true _ _).mp hc with h6 | h6
  · exact absurd (Nat.eq_of_beq_eq_true h6) (nb_ne h4)
  · rw [Bool.and_eq_true] at h6
    refine ⟨Nat.blt_eq ▸ h6.1, Nat.pos_of_ne_zero (nb_ne h5), ?_⟩
    have h7 := h6.2
    split at h7
    · exact Or.inl (sm_w_ts h7)
    · exact Or.inr (sm_wt_in h7)
theorem cl_ok {oc idx c : Nat} (hi : idx < 2048) (h : (sm_cl (oc * 2048 + idx)).1 = c) (hc13 : c < 13) (ho : oc < 16) : Cond.classLink (sm_on oc) idx (sm_on c) ∈ sm_ts := by
  have hc := sm_upto_ok ck_cl _ (cp_lt hi ho)
  unfold cf_cl at hc
  rw [cp_div hi, cp_mod hi] at hc
  generalize sm_cl (oc * 2048 + idx) = q at h hc
  obtain ⟨c', i⟩ := q
  dsimp only at h hc
  subst h
  rcases (Bool.or_eq_true _ _).mp hc with h6 | h6
  · exact absurd (Nat.eq_of_beq_eq_true h6) (by omega)
  · rw [Bool.and_eq_true] at h6
    exact sm_w_ts h6.2
theorem vl_ok {oc idx : Nat} {z : Int32} (h : ci_v (oc * 2048) idx z = true) (ho : oc < 16) : Cond.constant (sm_on oc) idx z ∈ sm_ts := by
  unfold ci_v at h
  rw [Bool.and_eq_true] at h
  have hi : idx < 2048 := Nat.blt_eq ▸ h.1
  have hc := sm_upto_ok ck_vl _ (cp_lt hi ho)
  unfold cf_vl at hc
  rw [cp_div hi, cp_mod hi] at hc
  have h2 := h.2
  generalize sm_vl (oc * 2048 + idx) = q at h2 hc
  obtain ⟨v, i⟩ := q
  dsimp only at h2 hc
  rw [Bool.and_eq_true] at h2
  have h3 := of_decide_eq_true h2.1
  subst h3
  rcases (Bool.or_eq_true _ _).mp hc with h6 | h6
  · exact absurd (Nat.eq_of_beq_eq_true h6) (nb_ne h2.2)
  · exact sm_w_ts h6
theorem ini_ok {c : Nat} (h : c < 16) : Cond.initialized (sm_on c) ∈ sm_ts := sm_w_ts (sm_upto_ok ck_ini c h)
theorem inst_ok {c : Nat} (h : c < 13) : Cond.instantiable (sm_on c) (sm_nf c) ∈ sm_ts := by
  have := sm_upto_ok ck_inst c h
  simp only [Bool.and_eq_true] at this
  exact sm_w_ts this.2
theorem lay_ok {c : Nat} (h : c < 13) : ∀ w ∈ u_ws (sm_on c) (sm_ct c) (sm_nf c), w ∈ sm_ts := by
  intro w hw
  obtain ⟨k, hk, rfl⟩ := List.mem_map.mp hw
  exact sm_w_ts (sm_upto_ok (sm_upto_ok ck_lay c h) k (List.mem_range.mp hk))
theorem ty_ok {c k : Nat} (h : c < 13) (hk : k < sm_nf c) : parseFieldDescriptor (sm_ct c k).2.2.1 = some (sm_ty c k) := of_decide_eq_true (sm_upto_ok (sm_upto_ok ck_ty c h) k hk)
theorem nm_ok {c : Nat} (h : c < 13) : ∀ a, a < sm_nf c → ∀ b, b < sm_nf c → a ≠ b → (sm_ct c a).2.1 ≠ (sm_ct c b).2.1 := by
  intro a ha b hb hne
  have := sm_upto_ok (sm_upto_ok (sm_upto_ok ck_nm c h) a ha) b hb
  rcases (Bool.or_eq_true _ _).mp this with h1 | h1
  · exact absurd (of_decide_eq_true h1) hne
  · intro e
    rw [e] at h1
    simp at h1
theorem cf_m_all (k : Nat) (h0 : 0 < k) (hk : k < 276) : cf_m k = true := by
  have hq : k / 10 < 28 := by omega
  rcases (show k / 10 = 0 ∨ k / 10 = 1 ∨ k / 10 = 2 ∨ k / 10 = 3 ∨ k / 10 = 4 ∨ k / 10 = 5 ∨ k / 10 = 6 ∨ k / 10 = 7 ∨ k / 10 = 8 ∨ k / 10 = 9 ∨ k / 10 = 10 ∨ k / 10 = 11 ∨ k / 10 = 12 ∨ k / 10 = 13 ∨ k / 10 = 14 ∨ k / 10 = 15 ∨ k / 10 = 16 ∨ k / 10 = 17 ∨ k / 10 = 18 ∨ k / 10 = 19 ∨ k / 10 = 20 ∨ k / 10 = 21 ∨ k / 10 = 22 ∨ k / 10 = 23 ∨ k / 10 = 24 ∨ k / 10 = 25 ∨ k / 10 = 26 ∨ k / 10 = 27 by omega) with h | h | h | h | h | h | h | h | h | h | h | h | h | h | h | h | h | h | h | h | h | h | h | h | h | h | h | h
  · have h1 := sm_upto_ok ck_m0 (k - 0) (by omega)
    rw [show 0 + (k - 0) = k by omega] at h1
    rcases (Bool.or_eq_true _ _).mp h1 with h2 | h2
    · exact absurd (Nat.eq_of_beq_eq_true h2) (by omega)
    · exact h2
  · have h1 := sm_upto_ok ck_m1 (k - 10) (by omega)
    rw [show 10 + (k - 10) = k by omega] at h1
    rcases (Bool.or_eq_true _ _).mp h1 with h2 | h2
    · exact absurd (Nat.eq_of_beq_eq_true h2) (by omega)
    · exact h2
  · have h1 := sm_upto_ok ck_m2 (k - 20) (by omega)
    rw [show 20 + (k - 20) = k by omega] at h1
    rcases (Bool.or_eq_true _ _).mp h1 with h2 | h2
    · exact absurd (Nat.eq_of_beq_eq_true h2) (by omega)
    · exact h2
  · have h1 := sm_upto_ok ck_m3 (k - 30) (by omega)
    rw [show 30 + (k - 30) = k by omega] at h1
    rcases (Bool.or_eq_true _ _).mp h1 with h2 | h2
    · exact absurd (Nat.eq_of_beq_eq_true h2) (by omega)
    · exact h2
  · have h1 := sm_upto_ok ck_m4 (k - 40) (by omega)
    rw [show 40 + (k - 40) = k by omega] at h1
    rcases (Bool.or_eq_true _ _).mp h1 with h2 | h2
    · exact absurd (Nat.eq_of_beq_eq_true h2) (by omega)
    · exact h2
  · have h1 := sm_upto_ok ck_m5 (k - 50) (by omega)
    rw [show 50 + (k - 50) = k by omega] at h1
    rcases (Bool.or_eq_true _ _).mp h1 with h2 | h2
    · exact absurd (Nat.eq_of_beq_eq_true h2) (by omega)
    · exact h2
  · have h1 := sm_upto_ok ck_m6 (k - 60) (by omega)
    rw [show 60 + (k - 60) = k by omega] at h1
    rcases (Bool.or_eq_true _ _).mp h1 with h2 | h2
    · exact absurd (Nat.eq_of_beq_eq_true h2) (by omega)
    · exact h2
  · have h1 := sm_upto_ok ck_m7 (k - 70) (by omega)
    rw [show 70 + (k - 70) = k by omega] at h1
    rcases (Bool.or_eq_true _ _).mp h1 with h2 | h2
    · exact absurd (Nat.eq_of_beq_eq_true h2) (by omega)
    · exact h2
  · have h1 := sm_upto_ok ck_m8 (k - 80) (by omega)
    rw [show 80 + (k - 80) = k by omega] at h1
    rcases (Bool.or_eq_true _ _).mp h1 with h2 | h2
    · exact absurd (Nat.eq_of_beq_eq_true h2) (by omega)
    · exact h2
  · have h1 := sm_upto_ok ck_m9 (k - 90) (by omega)
    rw [show 90 + (k - 90) = k by omega] at h1
    rcases (Bool.or_eq_true _ _).mp h1 with h2 | h2
    · exact absurd (Nat.eq_of_beq_eq_true h2) (by omega)
    · exact h2
  · have h1 := sm_upto_ok ck_m10 (k - 100) (by omega)
    rw [show 100 + (k - 100) = k by omega] at h1
    rcases (Bool.or_eq_true _ _).mp h1 with h2 | h2
    · exact absurd (Nat.eq_of_beq_eq_true h2) (by omega)
    · exact h2
  · have h1 := sm_upto_ok ck_m11 (k - 110) (by omega)
    rw [show 110 + (k - 110) = k by omega] at h1
    rcases (Bool.or_eq_true _ _).mp h1 with h2 | h2
    · exact absurd (Nat.eq_of_beq_eq_true h2) (by omega)
    · exact h2
  · have h1 := sm_upto_ok ck_m12 (k - 120) (by omega)
    rw [show 120 + (k - 120) = k by omega] at h1
    rcases (Bool.or_eq_true _ _).mp h1 with h2 | h2
    · exact absurd (Nat.eq_of_beq_eq_true h2) (by omega)
    · exact h2
  · have h1 := sm_upto_ok ck_m13 (k - 130) (by omega)
    rw [show 130 + (k - 130) = k by omega] at h1
    rcases (Bool.or_eq_true _ _).mp h1 with h2 | h2
    · exact absurd (Nat.eq_of_beq_eq_true h2) (by omega)
    · exact h2
  · have h1 := sm_upto_ok ck_m14 (k - 140) (by omega)
    rw [show 140 + (k - 140) = k by omega] at h1
    rcases (Bool.or_eq_true _ _).mp h1 with h2 | h2
    · exact absurd (Nat.eq_of_beq_eq_true h2) (by omega)
    · exact h2
  · have h1 := sm_upto_ok ck_m15 (k - 150) (by omega)
    rw [show 150 + (k - 150) = k by omega] at h1
    rcases (Bool.or_eq_true _ _).mp h1 with h2 | h2
    · exact absurd (Nat.eq_of_beq_eq_true h2) (by omega)
    · exact h2
  · have h1 := sm_upto_ok ck_m16 (k - 160) (by omega)
    rw [show 160 + (k - 160) = k by omega] at h1
    rcases (Bool.or_eq_true _ _).mp h1 with h2 | h2
    · exact absurd (Nat.eq_of_beq_eq_true h2) (by omega)
    · exact h2
  · have h1 := sm_upto_ok ck_m17 (k - 170) (by omega)
    rw [show 170 + (k - 170) = k by omega] at h1
    rcases (Bool.or_eq_true _ _).mp h1 with h2 | h2
    · exact absurd (Nat.eq_of_beq_eq_true h2) (by omega)
    · exact h2
  · have h1 := sm_upto_ok ck_m18 (k - 180) (by omega)
    rw [show 180 + (k - 180) = k by omega] at h1
    rcases (Bool.or_eq_true _ _).mp h1 with h2 | h2
    · exact absurd (Nat.eq_of_beq_eq_true h2) (by omega)
    · exact h2
  · have h1 := sm_upto_ok ck_m19 (k - 190) (by omega)
    rw [show 190 + (k - 190) = k by omega] at h1
    rcases (Bool.or_eq_true _ _).mp h1 with h2 | h2
    · exact absurd (Nat.eq_of_beq_eq_true h2) (by omega)
    · exact h2
  · have h1 := sm_upto_ok ck_m20 (k - 200) (by omega)
    rw [show 200 + (k - 200) = k by omega] at h1
    rcases (Bool.or_eq_true _ _).mp h1 with h2 | h2
    · exact absurd (Nat.eq_of_beq_eq_true h2) (by omega)
    · exact h2
  · have h1 := sm_upto_ok ck_m21 (k - 210) (by omega)
    rw [show 210 + (k - 210) = k by omega] at h1
    rcases (Bool.or_eq_true _ _).mp h1 with h2 | h2
    · exact absurd (Nat.eq_of_beq_eq_true h2) (by omega)
    · exact h2
  · have h1 := sm_upto_ok ck_m22 (k - 220) (by omega)
    rw [show 220 + (k - 220) = k by omega] at h1
    rcases (Bool.or_eq_true _ _).mp h1 with h2 | h2
    · exact absurd (Nat.eq_of_beq_eq_true h2) (by omega)
    · exact h2
  · have h1 := sm_upto_ok ck_m23 (k - 230) (by omega)
    rw [show 230 + (k - 230) = k by omega] at h1
    rcases (Bool.or_eq_true _ _).mp h1 with h2 | h2
    · exact absurd (Nat.eq_of_beq_eq_true h2) (by omega)
    · exact h2
  · have h1 := sm_upto_ok ck_m24 (k - 240) (by omega)
    rw [show 240 + (k - 240) = k by omega] at h1
    rcases (Bool.or_eq_true _ _).mp h1 with h2 | h2
    · exact absurd (Nat.eq_of_beq_eq_true h2) (by omega)
    · exact h2
  · have h1 := sm_upto_ok ck_m25 (k - 250) (by omega)
    rw [show 250 + (k - 250) = k by omega] at h1
    rcases (Bool.or_eq_true _ _).mp h1 with h2 | h2
    · exact absurd (Nat.eq_of_beq_eq_true h2) (by omega)
    · exact h2
  · have h1 := sm_upto_ok ck_m26 (k - 260) (by omega)
    rw [show 260 + (k - 260) = k by omega] at h1
    rcases (Bool.or_eq_true _ _).mp h1 with h2 | h2
    · exact absurd (Nat.eq_of_beq_eq_true h2) (by omega)
    · exact h2
  · have h1 := sm_upto_ok ck_m27 (k - 270) (by omega)
    rw [show 270 + (k - 270) = k by omega] at h1
    rcases (Bool.or_eq_true _ _).mp h1 with h2 | h2
    · exact absurd (Nat.eq_of_beq_eq_true h2) (by omega)
    · exact h2
theorem cd_get {A B : List (Option Cond)} (h : A = B) (j : Nat) {w : Cond} {x : Option Cond} (ha : A[j]? = some x) (hb : B[j]? = some (some w)) : x = some w := by
  rw [h, hb] at ha
  exact (Option.some.inj ha).symm
theorem cw_1 : Cond.code (sm_my 1) (sm_mb 1) (sm_ml 1) (sm_mr 1) ∈ lw_tbl := sm_ch_in (c := 1) (List.mem_of_getElem? (i := 25) (cd_get ck_c0 0 rfl rfl))
theorem cw_2 : Cond.code (sm_my 2) (sm_mb 2) (sm_ml 2) (sm_mr 2) ∈ lw_tbl := sm_ch_in (c := 1) (List.mem_of_getElem? (i := 33) (cd_get ck_c0 1 rfl rfl))
theorem cw_3 : Cond.code (sm_my 3) (sm_mb 3) (sm_ml 3) (sm_mr 3) ∈ lw_tbl := sm_ch_in (c := 1) (List.mem_of_getElem? (i := 61) (cd_get ck_c0 2 rfl rfl))
theorem cw_4 : Cond.code (sm_my 4) (sm_mb 4) (sm_ml 4) (sm_mr 4) ∈ lw_tbl := sm_ch_in (c := 1) (List.mem_of_getElem? (i := 68) (cd_get ck_c0 3 rfl rfl))
theorem cw_5 : Cond.code (sm_my 5) (sm_mb 5) (sm_ml 5) (sm_mr 5) ∈ lw_tbl := sm_ch_in (c := 1) (List.mem_of_getElem? (i := 73) (cd_get ck_c0 4 rfl rfl))
theorem cw_6 : Cond.code (sm_my 6) (sm_mb 6) (sm_ml 6) (sm_mr 6) ∈ lw_tbl := sm_ch_in (c := 1) (List.mem_of_getElem? (i := 141) (cd_get ck_c0 5 rfl rfl))
theorem cw_7 : Cond.code (sm_my 7) (sm_mb 7) (sm_ml 7) (sm_mr 7) ∈ lw_tbl := sm_ch_in (c := 1) (List.mem_of_getElem? (i := 150) (cd_get ck_c0 6 rfl rfl))
theorem cw_8 : Cond.code (sm_my 8) (sm_mb 8) (sm_ml 8) (sm_mr 8) ∈ lw_tbl := sm_ch_in (c := 1) (List.mem_of_getElem? (i := 165) (cd_get ck_c0 7 rfl rfl))
theorem cw_9 : Cond.code (sm_my 9) (sm_mb 9) (sm_ml 9) (sm_mr 9) ∈ lw_tbl := sm_ch_in (c := 2) (List.mem_of_getElem? (i := 27) (cd_get ck_c0 8 rfl rfl))
theorem cw_10 : Cond.code (sm_my 10) (sm_mb 10) (sm_ml 10) (sm_mr 10) ∈ lw_tbl := sm_ch_in (c := 2) (List.mem_of_getElem? (i := 40) (cd_get ck_c1 0 rfl rfl))
theorem cw_11 : Cond.code (sm_my 11) (sm_mb 11) (sm_ml 11) (sm_mr 11) ∈ lw_tbl := sm_ch_in (c := 2) (List.mem_of_getElem? (i := 72) (cd_get ck_c1 1 rfl rfl))
theorem cw_12 : Cond.code (sm_my 12) (sm_mb 12) (sm_ml 12) (sm_mr 12) ∈ lw_tbl := sm_ch_in (c := 2) (List.mem_of_getElem? (i := 94) (cd_get ck_c1 2 rfl rfl))
theorem cw_13 : Cond.code (sm_my 13) (sm_mb 13) (sm_ml 13) (sm_mr 13) ∈ lw_tbl := sm_ch_in (c := 2) (List.mem_of_getElem? (i := 117) (cd_get ck_c1 3 rfl rfl))
theorem cw_14 : Cond.code (sm_my 14) (sm_mb 14) (sm_ml 14) (sm_mr 14) ∈ lw_tbl := sm_ch_in (c := 2) (List.mem_of_getElem? (i := 190) (cd_get ck_c1 4 rfl rfl))
theorem cw_15 : Cond.code (sm_my 15) (sm_mb 15) (sm_ml 15) (sm_mr 15) ∈ lw_tbl := sm_ch_in (c := 2) (List.mem_of_getElem? (i := 194) (cd_get ck_c1 5 rfl rfl))
theorem cw_16 : Cond.code (sm_my 16) (sm_mb 16) (sm_ml 16) (sm_mr 16) ∈ lw_tbl := sm_ch_in (c := 2) (List.mem_of_getElem? (i := 198) (cd_get ck_c1 6 rfl rfl))
theorem cw_17 : Cond.code (sm_my 17) (sm_mb 17) (sm_ml 17) (sm_mr 17) ∈ lw_tbl := sm_ch_in (c := 2) (List.mem_of_getElem? (i := 202) (cd_get ck_c1 7 rfl rfl))
theorem cw_18 : Cond.code (sm_my 18) (sm_mb 18) (sm_ml 18) (sm_mr 18) ∈ lw_tbl := sm_ch_in (c := 2) (List.mem_of_getElem? (i := 205) (cd_get ck_c1 8 rfl rfl))
theorem cw_19 : Cond.code (sm_my 19) (sm_mb 19) (sm_ml 19) (sm_mr 19) ∈ lw_tbl := sm_ch_in (c := 2) (List.mem_of_getElem? (i := 209) (cd_get ck_c1 9 rfl rfl))
theorem cw_20 : Cond.code (sm_my 20) (sm_mb 20) (sm_ml 20) (sm_mr 20) ∈ lw_tbl := sm_ch_in (c := 2) (List.mem_of_getElem? (i := 214) (cd_get ck_c2 0 rfl rfl))
theorem cw_21 : Cond.code (sm_my 21) (sm_mb 21) (sm_ml 21) (sm_mr 21) ∈ lw_tbl := sm_ch_in (c := 2) (List.mem_of_getElem? (i := 217) (cd_get ck_c2 1 rfl rfl))
theorem cw_22 : Cond.code (sm_my 22) (sm_mb 22) (sm_ml 22) (sm_mr 22) ∈ lw_tbl := sm_ch_in (c := 2) (List.mem_of_getElem? (i := 221) (cd_get ck_c2 2 rfl rfl))
theorem cw_23 : Cond.code (sm_my 23) (sm_mb 23) (sm_ml 23) (sm_mr 23) ∈ lw_tbl := sm_ch_in (c := 2) (List.mem_of_getElem? (i := 224) (cd_get ck_c2 3 rfl rfl))
theorem cw_24 : Cond.code (sm_my 24) (sm_mb 24) (sm_ml 24) (sm_mr 24) ∈ lw_tbl := sm_ch_in (c := 2) (List.mem_of_getElem? (i := 230) (cd_get ck_c2 4 rfl rfl))
theorem cw_25 : Cond.code (sm_my 25) (sm_mb 25) (sm_ml 25) (sm_mr 25) ∈ lw_tbl := sm_ch_in (c := 2) (List.mem_of_getElem? (i := 235) (cd_get ck_c2 5 rfl rfl))
theorem cw_26 : Cond.code (sm_my 26) (sm_mb 26) (sm_ml 26) (sm_mr 26) ∈ lw_tbl := sm_ch_in (c := 2) (List.mem_of_getElem? (i := 238) (cd_get ck_c2 6 rfl rfl))
theorem cw_27 : Cond.code (sm_my 27) (sm_mb 27) (sm_ml 27) (sm_mr 27) ∈ lw_tbl := sm_ch_in (c := 3) (List.mem_of_getElem? (i := 2) (cd_get ck_c2 7 rfl rfl))
theorem cw_28 : Cond.code (sm_my 28) (sm_mb 28) (sm_ml 28) (sm_mr 28) ∈ lw_tbl := sm_ch_in (c := 3) (List.mem_of_getElem? (i := 6) (cd_get ck_c2 8 rfl rfl))
theorem cw_29 : Cond.code (sm_my 29) (sm_mb 29) (sm_ml 29) (sm_mr 29) ∈ lw_tbl := sm_ch_in (c := 3) (List.mem_of_getElem? (i := 10) (cd_get ck_c2 9 rfl rfl))
theorem cw_30 : Cond.code (sm_my 30) (sm_mb 30) (sm_ml 30) (sm_mr 30) ∈ lw_tbl := sm_ch_in (c := 3) (List.mem_of_getElem? (i := 13) (cd_get ck_c3 0 rfl rfl))
theorem cw_31 : Cond.code (sm_my 31) (sm_mb 31) (sm_ml 31) (sm_mr 31) ∈ lw_tbl := sm_ch_in (c := 3) (List.mem_of_getElem? (i := 17) (cd_get ck_c3 1 rfl rfl))
theorem cw_32 : Cond.code (sm_my 32) (sm_mb 32) (sm_ml 32) (sm_mr 32) ∈ lw_tbl := sm_ch_in (c := 3) (List.mem_of_getElem? (i := 21) (cd_get ck_c3 2 rfl rfl))
theorem cw_33 : Cond.code (sm_my 33) (sm_mb 33) (sm_ml 33) (sm_mr 33) ∈ lw_tbl := sm_ch_in (c := 3) (List.mem_of_getElem? (i := 25) (cd_get ck_c3 3 rfl rfl))
theorem cw_34 : Cond.code (sm_my 34) (sm_mb 34) (sm_ml 34) (sm_mr 34) ∈ lw_tbl := sm_ch_in (c := 3) (List.mem_of_getElem? (i := 29) (cd_get ck_c3 4 rfl rfl))
theorem cw_35 : Cond.code (sm_my 35) (sm_mb 35) (sm_ml 35) (sm_mr 35) ∈ lw_tbl := sm_ch_in (c := 3) (List.mem_of_getElem? (i := 33) (cd_get ck_c3 5 rfl rfl))
theorem cw_36 : Cond.code (sm_my 36) (sm_mb 36) (sm_ml 36) (sm_mr 36) ∈ lw_tbl := sm_ch_in (c := 3) (List.mem_of_getElem? (i := 37) (cd_get ck_c3 6 rfl rfl))
theorem cw_37 : Cond.code (sm_my 37) (sm_mb 37) (sm_ml 37) (sm_mr 37) ∈ lw_tbl := sm_ch_in (c := 3) (List.mem_of_getElem? (i := 40) (cd_get ck_c3 7 rfl rfl))
theorem cw_38 : Cond.code (sm_my 38) (sm_mb 38) (sm_ml 38) (sm_mr 38) ∈ lw_tbl := sm_ch_in (c := 3) (List.mem_of_getElem? (i := 44) (cd_get ck_c3 8 rfl rfl))
theorem cw_39 : Cond.code (sm_my 39) (sm_mb 39) (sm_ml 39) (sm_mr 39) ∈ lw_tbl := sm_ch_in (c := 3) (List.mem_of_getElem? (i := 48) (cd_get ck_c3 9 rfl rfl))
theorem cw_40 : Cond.code (sm_my 40) (sm_mb 40) (sm_ml 40) (sm_mr 40) ∈ lw_tbl := sm_ch_in (c := 3) (List.mem_of_getElem? (i := 51) (cd_get ck_c4 0 rfl rfl))
theorem cw_41 : Cond.code (sm_my 41) (sm_mb 41) (sm_ml 41) (sm_mr 41) ∈ lw_tbl := sm_ch_in (c := 3) (List.mem_of_getElem? (i := 55) (cd_get ck_c4 1 rfl rfl))
theorem cw_42 : Cond.code (sm_my 42) (sm_mb 42) (sm_ml 42) (sm_mr 42) ∈ lw_tbl := sm_ch_in (c := 3) (List.mem_of_getElem? (i := 59) (cd_get ck_c4 2 rfl rfl))
theorem cw_43 : Cond.code (sm_my 43) (sm_mb 43) (sm_ml 43) (sm_mr 43) ∈ lw_tbl := sm_ch_in (c := 3) (List.mem_of_getElem? (i := 63) (cd_get ck_c4 3 rfl rfl))
theorem cw_44 : Cond.code (sm_my 44) (sm_mb 44) (sm_ml 44) (sm_mr 44) ∈ lw_tbl := sm_ch_in (c := 3) (List.mem_of_getElem? (i := 67) (cd_get ck_c4 4 rfl rfl))
theorem cw_45 : Cond.code (sm_my 45) (sm_mb 45) (sm_ml 45) (sm_mr 45) ∈ lw_tbl := sm_ch_in (c := 3) (List.mem_of_getElem? (i := 71) (cd_get ck_c4 5 rfl rfl))
theorem cw_46 : Cond.code (sm_my 46) (sm_mb 46) (sm_ml 46) (sm_mr 46) ∈ lw_tbl := sm_ch_in (c := 3) (List.mem_of_getElem? (i := 75) (cd_get ck_c4 6 rfl rfl))
theorem cw_47 : Cond.code (sm_my 47) (sm_mb 47) (sm_ml 47) (sm_mr 47) ∈ lw_tbl := sm_ch_in (c := 3) (List.mem_of_getElem? (i := 79) (cd_get ck_c4 7 rfl rfl))
theorem cw_48 : Cond.code (sm_my 48) (sm_mb 48) (sm_ml 48) (sm_mr 48) ∈ lw_tbl := sm_ch_in (c := 3) (List.mem_of_getElem? (i := 83) (cd_get ck_c4 8 rfl rfl))
theorem cw_49 : Cond.code (sm_my 49) (sm_mb 49) (sm_ml 49) (sm_mr 49) ∈ lw_tbl := sm_ch_in (c := 3) (List.mem_of_getElem? (i := 86) (cd_get ck_c4 9 rfl rfl))
theorem cw_50 : Cond.code (sm_my 50) (sm_mb 50) (sm_ml 50) (sm_mr 50) ∈ lw_tbl := sm_ch_in (c := 3) (List.mem_of_getElem? (i := 89) (cd_get ck_c5 0 rfl rfl))
theorem cw_51 : Cond.code (sm_my 51) (sm_mb 51) (sm_ml 51) (sm_mr 51) ∈ lw_tbl := sm_ch_in (c := 3) (List.mem_of_getElem? (i := 93) (cd_get ck_c5 1 rfl rfl))
theorem cw_52 : Cond.code (sm_my 52) (sm_mb 52) (sm_ml 52) (sm_mr 52) ∈ lw_tbl := sm_ch_in (c := 3) (List.mem_of_getElem? (i := 97) (cd_get ck_c5 2 rfl rfl))
theorem cw_53 : Cond.code (sm_my 53) (sm_mb 53) (sm_ml 53) (sm_mr 53) ∈ lw_tbl := sm_ch_in (c := 3) (List.mem_of_getElem? (i := 101) (cd_get ck_c5 3 rfl rfl))
theorem cw_54 : Cond.code (sm_my 54) (sm_mb 54) (sm_ml 54) (sm_mr 54) ∈ lw_tbl := sm_ch_in (c := 3) (List.mem_of_getElem? (i := 105) (cd_get ck_c5 4 rfl rfl))
theorem cw_55 : Cond.code (sm_my 55) (sm_mb 55) (sm_ml 55) (sm_mr 55) ∈ lw_tbl := sm_ch_in (c := 3) (List.mem_of_getElem? (i := 110) (cd_get ck_c5 5 rfl rfl))
theorem cw_56 : Cond.code (sm_my 56) (sm_mb 56) (sm_ml 56) (sm_mr 56) ∈ lw_tbl := sm_ch_in (c := 3) (List.mem_of_getElem? (i := 114) (cd_get ck_c5 6 rfl rfl))
theorem cw_57 : Cond.code (sm_my 57) (sm_mb 57) (sm_ml 57) (sm_mr 57) ∈ lw_tbl := sm_ch_in (c := 3) (List.mem_of_getElem? (i := 118) (cd_get ck_c5 7 rfl rfl))
theorem cw_58 : Cond.code (sm_my 58) (sm_mb 58) (sm_ml 58) (sm_mr 58) ∈ lw_tbl := sm_ch_in (c := 3) (List.mem_of_getElem? (i := 122) (cd_get ck_c5 8 rfl rfl))
theorem cw_59 : Cond.code (sm_my 59) (sm_mb 59) (sm_ml 59) (sm_mr 59) ∈ lw_tbl := sm_ch_in (c := 3) (List.mem_of_getElem? (i := 126) (cd_get ck_c5 9 rfl rfl))
theorem cw_60 : Cond.code (sm_my 60) (sm_mb 60) (sm_ml 60) (sm_mr 60) ∈ lw_tbl := sm_ch_in (c := 3) (List.mem_of_getElem? (i := 129) (cd_get ck_c6 0 rfl rfl))
theorem cw_61 : Cond.code (sm_my 61) (sm_mb 61) (sm_ml 61) (sm_mr 61) ∈ lw_tbl := sm_ch_in (c := 3) (List.mem_of_getElem? (i := 133) (cd_get ck_c6 1 rfl rfl))
theorem cw_62 : Cond.code (sm_my 62) (sm_mb 62) (sm_ml 62) (sm_mr 62) ∈ lw_tbl := sm_ch_in (c := 3) (List.mem_of_getElem? (i := 138) (cd_get ck_c6 2 rfl rfl))
theorem cw_63 : Cond.code (sm_my 63) (sm_mb 63) (sm_ml 63) (sm_mr 63) ∈ lw_tbl := sm_ch_in (c := 3) (List.mem_of_getElem? (i := 142) (cd_get ck_c6 3 rfl rfl))
theorem cw_64 : Cond.code (sm_my 64) (sm_mb 64) (sm_ml 64) (sm_mr 64) ∈ lw_tbl := sm_ch_in (c := 3) (List.mem_of_getElem? (i := 146) (cd_get ck_c6 4 rfl rfl))
theorem cw_65 : Cond.code (sm_my 65) (sm_mb 65) (sm_ml 65) (sm_mr 65) ∈ lw_tbl := sm_ch_in (c := 3) (List.mem_of_getElem? (i := 150) (cd_get ck_c6 5 rfl rfl))
theorem cw_66 : Cond.code (sm_my 66) (sm_mb 66) (sm_ml 66) (sm_mr 66) ∈ lw_tbl := sm_ch_in (c := 3) (List.mem_of_getElem? (i := 195) (cd_get ck_c6 6 rfl rfl))
theorem cw_67 : Cond.code (sm_my 67) (sm_mb 67) (sm_ml 67) (sm_mr 67) ∈ lw_tbl := sm_ch_in (c := 3) (List.mem_of_getElem? (i := 199) (cd_get ck_c6 7 rfl rfl))
theorem cw_68 : Cond.code (sm_my 68) (sm_mb 68) (sm_ml 68) (sm_mr 68) ∈ lw_tbl := sm_ch_in (c := 3) (List.mem_of_getElem? (i := 203) (cd_get ck_c6 8 rfl rfl))
theorem cw_69 : Cond.code (sm_my 69) (sm_mb 69) (sm_ml 69) (sm_mr 69) ∈ lw_tbl := sm_ch_in (c := 3) (List.mem_of_getElem? (i := 208) (cd_get ck_c6 9 rfl rfl))
theorem cw_70 : Cond.code (sm_my 70) (sm_mb 70) (sm_ml 70) (sm_mr 70) ∈ lw_tbl := sm_ch_in (c := 3) (List.mem_of_getElem? (i := 219) (cd_get ck_c7 0 rfl rfl))
theorem cw_71 : Cond.code (sm_my 71) (sm_mb 71) (sm_ml 71) (sm_mr 71) ∈ lw_tbl := sm_ch_in (c := 3) (List.mem_of_getElem? (i := 223) (cd_get ck_c7 1 rfl rfl))
theorem cw_72 : Cond.code (sm_my 72) (sm_mb 72) (sm_ml 72) (sm_mr 72) ∈ lw_tbl := sm_ch_in (c := 3) (List.mem_of_getElem? (i := 228) (cd_get ck_c7 2 rfl rfl))
theorem cw_73 : Cond.code (sm_my 73) (sm_mb 73) (sm_ml 73) (sm_mr 73) ∈ lw_tbl := sm_ch_in (c := 3) (List.mem_of_getElem? (i := 231) (cd_get ck_c7 3 rfl rfl))
theorem cw_74 : Cond.code (sm_my 74) (sm_mb 74) (sm_ml 74) (sm_mr 74) ∈ lw_tbl := sm_ch_in (c := 3) (List.mem_of_getElem? (i := 236) (cd_get ck_c7 4 rfl rfl))
theorem cw_75 : Cond.code (sm_my 75) (sm_mb 75) (sm_ml 75) (sm_mr 75) ∈ lw_tbl := sm_ch_in (c := 4) (List.mem_of_getElem? (i := 0) (cd_get ck_c7 5 rfl rfl))
theorem cw_76 : Cond.code (sm_my 76) (sm_mb 76) (sm_ml 76) (sm_mr 76) ∈ lw_tbl := sm_ch_in (c := 4) (List.mem_of_getElem? (i := 4) (cd_get ck_c7 6 rfl rfl))
theorem cw_77 : Cond.code (sm_my 77) (sm_mb 77) (sm_ml 77) (sm_mr 77) ∈ lw_tbl := sm_ch_in (c := 4) (List.mem_of_getElem? (i := 9) (cd_get ck_c7 7 rfl rfl))
theorem cw_78 : Cond.code (sm_my 78) (sm_mb 78) (sm_ml 78) (sm_mr 78) ∈ lw_tbl := sm_ch_in (c := 4) (List.mem_of_getElem? (i := 13) (cd_get ck_c7 8 rfl rfl))
theorem cw_79 : Cond.code (sm_my 79) (sm_mb 79) (sm_ml 79) (sm_mr 79) ∈ lw_tbl := sm_ch_in (c := 4) (List.mem_of_getElem? (i := 17) (cd_get ck_c7 9 rfl rfl))
theorem cw_80 : Cond.code (sm_my 80) (sm_mb 80) (sm_ml 80) (sm_mr 80) ∈ lw_tbl := sm_ch_in (c := 4) (List.mem_of_getElem? (i := 21) (cd_get ck_c8 0 rfl rfl))
theorem cw_81 : Cond.code (sm_my 81) (sm_mb 81) (sm_ml 81) (sm_mr 81) ∈ lw_tbl := sm_ch_in (c := 4) (List.mem_of_getElem? (i := 25) (cd_get ck_c8 1 rfl rfl))
theorem cw_82 : Cond.code (sm_my 82) (sm_mb 82) (sm_ml 82) (sm_mr 82) ∈ lw_tbl := sm_ch_in (c := 4) (List.mem_of_getElem? (i := 29) (cd_get ck_c8 2 rfl rfl))
theorem cw_83 : Cond.code (sm_my 83) (sm_mb 83) (sm_ml 83) (sm_mr 83) ∈ lw_tbl := sm_ch_in (c := 4) (List.mem_of_getElem? (i := 33) (cd_get ck_c8 3 rfl rfl))
theorem cw_84 : Cond.code (sm_my 84) (sm_mb 84) (sm_ml 84) (sm_mr 84) ∈ lw_tbl := sm_ch_in (c := 4) (List.mem_of_getElem? (i := 38) (cd_get ck_c8 4 rfl rfl))
theorem cw_85 : Cond.code (sm_my 85) (sm_mb 85) (sm_ml 85) (sm_mr 85) ∈ lw_tbl := sm_ch_in (c := 4) (List.mem_of_getElem? (i := 42) (cd_get ck_c8 5 rfl rfl))
theorem cw_86 : Cond.code (sm_my 86) (sm_mb 86) (sm_ml 86) (sm_mr 86) ∈ lw_tbl := sm_ch_in (c := 4) (List.mem_of_getElem? (i := 46) (cd_get ck_c8 6 rfl rfl))
theorem cw_87 : Cond.code (sm_my 87) (sm_mb 87) (sm_ml 87) (sm_mr 87) ∈ lw_tbl := sm_ch_in (c := 4) (List.mem_of_getElem? (i := 51) (cd_get ck_c8 7 rfl rfl))
theorem cw_88 : Cond.code (sm_my 88) (sm_mb 88) (sm_ml 88) (sm_mr 88) ∈ lw_tbl := sm_ch_in (c := 4) (List.mem_of_getElem? (i := 55) (cd_get ck_c8 8 rfl rfl))
theorem cw_89 : Cond.code (sm_my 89) (sm_mb 89) (sm_ml 89) (sm_mr 89) ∈ lw_tbl := sm_ch_in (c := 4) (List.mem_of_getElem? (i := 58) (cd_get ck_c8 9 rfl rfl))
theorem cw_90 : Cond.code (sm_my 90) (sm_mb 90) (sm_ml 90) (sm_mr 90) ∈ lw_tbl := sm_ch_in (c := 4) (List.mem_of_getElem? (i := 64) (cd_get ck_c9 0 rfl rfl))
theorem cw_91 : Cond.code (sm_my 91) (sm_mb 91) (sm_ml 91) (sm_mr 91) ∈ lw_tbl := sm_ch_in (c := 4) (List.mem_of_getElem? (i := 67) (cd_get ck_c9 1 rfl rfl))
theorem cw_92 : Cond.code (sm_my 92) (sm_mb 92) (sm_ml 92) (sm_mr 92) ∈ lw_tbl := sm_ch_in (c := 4) (List.mem_of_getElem? (i := 71) (cd_get ck_c9 2 rfl rfl))
theorem cw_93 : Cond.code (sm_my 93) (sm_mb 93) (sm_ml 93) (sm_mr 93) ∈ lw_tbl := sm_ch_in (c := 4) (List.mem_of_getElem? (i := 75) (cd_get ck_c9 3 rfl rfl))
theorem cw_94 : Cond.code (sm_my 94) (sm_mb 94) (sm_ml 94) (sm_mr 94) ∈ lw_tbl := sm_ch_in (c := 4) (List.mem_of_getElem? (i := 79) (cd_get ck_c9 4 rfl rfl))
theorem cw_95 : Cond.code (sm_my 95) (sm_mb 95) (sm_ml 95) (sm_mr 95) ∈ lw_tbl := sm_ch_in (c := 4) (List.mem_of_getElem? (i := 83) (cd_get ck_c9 5 rfl rfl))
theorem cw_96 : Cond.code (sm_my 96) (sm_mb 96) (sm_ml 96) (sm_mr 96) ∈ lw_tbl := sm_ch_in (c := 4) (List.mem_of_getElem? (i := 87) (cd_get ck_c9 6 rfl rfl))
theorem cw_97 : Cond.code (sm_my 97) (sm_mb 97) (sm_ml 97) (sm_mr 97) ∈ lw_tbl := sm_ch_in (c := 4) (List.mem_of_getElem? (i := 92) (cd_get ck_c9 7 rfl rfl))
theorem cw_98 : Cond.code (sm_my 98) (sm_mb 98) (sm_ml 98) (sm_mr 98) ∈ lw_tbl := sm_ch_in (c := 4) (List.mem_of_getElem? (i := 98) (cd_get ck_c9 8 rfl rfl))
theorem cw_99 : Cond.code (sm_my 99) (sm_mb 99) (sm_ml 99) (sm_mr 99) ∈ lw_tbl := sm_ch_in (c := 4) (List.mem_of_getElem? (i := 103) (cd_get ck_c9 9 rfl rfl))
theorem cw_100 : Cond.code (sm_my 100) (sm_mb 100) (sm_ml 100) (sm_mr 100) ∈ lw_tbl := sm_ch_in (c := 4) (List.mem_of_getElem? (i := 106) (cd_get ck_c10 0 rfl rfl))
theorem cw_101 : Cond.code (sm_my 101) (sm_mb 101) (sm_ml 101) (sm_mr 101) ∈ lw_tbl := sm_ch_in (c := 4) (List.mem_of_getElem? (i := 113) (cd_get ck_c10 1 rfl rfl))
theorem cw_102 : Cond.code (sm_my 102) (sm_mb 102) (sm_ml 102) (sm_mr 102) ∈ lw_tbl := sm_ch_in (c := 4) (List.mem_of_getElem? (i := 118) (cd_get ck_c10 2 rfl rfl))
theorem cw_103 : Cond.code (sm_my 103) (sm_mb 103) (sm_ml 103) (sm_mr 103) ∈ lw_tbl := sm_ch_in (c := 4) (List.mem_of_getElem? (i := 124) (cd_get ck_c10 3 rfl rfl))
theorem cw_104 : Cond.code (sm_my 104) (sm_mb 104) (sm_ml 104) (sm_mr 104) ∈ lw_tbl := sm_ch_in (c := 4) (List.mem_of_getElem? (i := 128) (cd_get ck_c10 4 rfl rfl))
theorem cw_105 : Cond.code (sm_my 105) (sm_mb 105) (sm_ml 105) (sm_mr 105) ∈ lw_tbl := sm_ch_in (c := 4) (List.mem_of_getElem? (i := 132) (cd_get ck_c10 5 rfl rfl))
theorem cw_106 : Cond.code (sm_my 106) (sm_mb 106) (sm_ml 106) (sm_mr 106) ∈ lw_tbl := sm_ch_in (c := 4) (List.mem_of_getElem? (i := 137) (cd_get ck_c10 6 rfl rfl))
theorem cw_107 : Cond.code (sm_my 107) (sm_mb 107) (sm_ml 107) (sm_mr 107) ∈ lw_tbl := sm_ch_in (c := 4) (List.mem_of_getElem? (i := 144) (cd_get ck_c10 7 rfl rfl))
theorem cw_108 : Cond.code (sm_my 108) (sm_mb 108) (sm_ml 108) (sm_mr 108) ∈ lw_tbl := sm_ch_in (c := 4) (List.mem_of_getElem? (i := 148) (cd_get ck_c10 8 rfl rfl))
theorem cw_109 : Cond.code (sm_my 109) (sm_mb 109) (sm_ml 109) (sm_mr 109) ∈ lw_tbl := sm_ch_in (c := 4) (List.mem_of_getElem? (i := 152) (cd_get ck_c10 9 rfl rfl))
theorem cw_110 : Cond.code (sm_my 110) (sm_mb 110) (sm_ml 110) (sm_mr 110) ∈ lw_tbl := sm_ch_in (c := 4) (List.mem_of_getElem? (i := 157) (cd_get ck_c11 0 rfl rfl))
theorem cw_111 : Cond.code (sm_my 111) (sm_mb 111) (sm_ml 111) (sm_mr 111) ∈ lw_tbl := sm_ch_in (c := 4) (List.mem_of_getElem? (i := 161) (cd_get ck_c11 1 rfl rfl))
theorem cw_112 : Cond.code (sm_my 112) (sm_mb 112) (sm_ml 112) (sm_mr 112) ∈ lw_tbl := sm_ch_in (c := 4) (List.mem_of_getElem? (i := 165) (cd_get ck_c11 2 rfl rfl))
theorem cw_113 : Cond.code (sm_my 113) (sm_mb 113) (sm_ml 113) (sm_mr 113) ∈ lw_tbl := sm_ch_in (c := 4) (List.mem_of_getElem? (i := 169) (cd_get ck_c11 3 rfl rfl))
theorem cw_114 : Cond.code (sm_my 114) (sm_mb 114) (sm_ml 114) (sm_mr 114) ∈ lw_tbl := sm_ch_in (c := 4) (List.mem_of_getElem? (i := 174) (cd_get ck_c11 4 rfl rfl))
theorem cw_115 : Cond.code (sm_my 115) (sm_mb 115) (sm_ml 115) (sm_mr 115) ∈ lw_tbl := sm_ch_in (c := 4) (List.mem_of_getElem? (i := 178) (cd_get ck_c11 5 rfl rfl))
theorem cw_116 : Cond.code (sm_my 116) (sm_mb 116) (sm_ml 116) (sm_mr 116) ∈ lw_tbl := sm_ch_in (c := 4) (List.mem_of_getElem? (i := 182) (cd_get ck_c11 6 rfl rfl))
theorem cw_117 : Cond.code (sm_my 117) (sm_mb 117) (sm_ml 117) (sm_mr 117) ∈ lw_tbl := sm_ch_in (c := 4) (List.mem_of_getElem? (i := 186) (cd_get ck_c11 7 rfl rfl))
theorem cw_118 : Cond.code (sm_my 118) (sm_mb 118) (sm_ml 118) (sm_mr 118) ∈ lw_tbl := sm_ch_in (c := 4) (List.mem_of_getElem? (i := 191) (cd_get ck_c11 8 rfl rfl))
theorem cw_119 : Cond.code (sm_my 119) (sm_mb 119) (sm_ml 119) (sm_mr 119) ∈ lw_tbl := sm_ch_in (c := 4) (List.mem_of_getElem? (i := 195) (cd_get ck_c11 9 rfl rfl))
theorem cw_120 : Cond.code (sm_my 120) (sm_mb 120) (sm_ml 120) (sm_mr 120) ∈ lw_tbl := sm_ch_in (c := 4) (List.mem_of_getElem? (i := 199) (cd_get ck_c12 0 rfl rfl))
theorem cw_121 : Cond.code (sm_my 121) (sm_mb 121) (sm_ml 121) (sm_mr 121) ∈ lw_tbl := sm_ch_in (c := 4) (List.mem_of_getElem? (i := 203) (cd_get ck_c12 1 rfl rfl))
theorem cw_122 : Cond.code (sm_my 122) (sm_mb 122) (sm_ml 122) (sm_mr 122) ∈ lw_tbl := sm_ch_in (c := 4) (List.mem_of_getElem? (i := 207) (cd_get ck_c12 2 rfl rfl))
theorem cw_123 : Cond.code (sm_my 123) (sm_mb 123) (sm_ml 123) (sm_mr 123) ∈ lw_tbl := sm_ch_in (c := 4) (List.mem_of_getElem? (i := 211) (cd_get ck_c12 3 rfl rfl))
theorem cw_124 : Cond.code (sm_my 124) (sm_mb 124) (sm_ml 124) (sm_mr 124) ∈ lw_tbl := sm_ch_in (c := 4) (List.mem_of_getElem? (i := 215) (cd_get ck_c12 4 rfl rfl))
theorem cw_125 : Cond.code (sm_my 125) (sm_mb 125) (sm_ml 125) (sm_mr 125) ∈ lw_tbl := sm_ch_in (c := 4) (List.mem_of_getElem? (i := 219) (cd_get ck_c12 5 rfl rfl))
theorem cw_126 : Cond.code (sm_my 126) (sm_mb 126) (sm_ml 126) (sm_mr 126) ∈ lw_tbl := sm_ch_in (c := 4) (List.mem_of_getElem? (i := 223) (cd_get ck_c12 6 rfl rfl))
theorem cw_127 : Cond.code (sm_my 127) (sm_mb 127) (sm_ml 127) (sm_mr 127) ∈ lw_tbl := sm_ch_in (c := 4) (List.mem_of_getElem? (i := 227) (cd_get ck_c12 7 rfl rfl))
theorem cw_128 : Cond.code (sm_my 128) (sm_mb 128) (sm_ml 128) (sm_mr 128) ∈ lw_tbl := sm_ch_in (c := 4) (List.mem_of_getElem? (i := 231) (cd_get ck_c12 8 rfl rfl))
theorem cw_129 : Cond.code (sm_my 129) (sm_mb 129) (sm_ml 129) (sm_mr 129) ∈ lw_tbl := sm_ch_in (c := 4) (List.mem_of_getElem? (i := 236) (cd_get ck_c12 9 rfl rfl))
theorem cw_130 : Cond.code (sm_my 130) (sm_mb 130) (sm_ml 130) (sm_mr 130) ∈ lw_tbl := sm_ch_in (c := 5) (List.mem_of_getElem? (i := 1) (cd_get ck_c13 0 rfl rfl))
theorem cw_131 : Cond.code (sm_my 131) (sm_mb 131) (sm_ml 131) (sm_mr 131) ∈ lw_tbl := sm_ch_in (c := 5) (List.mem_of_getElem? (i := 5) (cd_get ck_c13 1 rfl rfl))
theorem cw_132 : Cond.code (sm_my 132) (sm_mb 132) (sm_ml 132) (sm_mr 132) ∈ lw_tbl := sm_ch_in (c := 5) (List.mem_of_getElem? (i := 9) (cd_get ck_c13 2 rfl rfl))
theorem cw_133 : Cond.code (sm_my 133) (sm_mb 133) (sm_ml 133) (sm_mr 133) ∈ lw_tbl := sm_ch_in (c := 5) (List.mem_of_getElem? (i := 14) (cd_get ck_c13 3 rfl rfl))
theorem cw_134 : Cond.code (sm_my 134) (sm_mb 134) (sm_ml 134) (sm_mr 134) ∈ lw_tbl := sm_ch_in (c := 5) (List.mem_of_getElem? (i := 18) (cd_get ck_c13 4 rfl rfl))
theorem cw_135 : Cond.code (sm_my 135) (sm_mb 135) (sm_ml 135) (sm_mr 135) ∈ lw_tbl := sm_ch_in (c := 5) (List.mem_of_getElem? (i := 23) (cd_get ck_c13 5 rfl rfl))
theorem cw_136 : Cond.code (sm_my 136) (sm_mb 136) (sm_ml 136) (sm_mr 136) ∈ lw_tbl := sm_ch_in (c := 5) (List.mem_of_getElem? (i := 27) (cd_get ck_c13 6 rfl rfl))
theorem cw_137 : Cond.code (sm_my 137) (sm_mb 137) (sm_ml 137) (sm_mr 137) ∈ lw_tbl := sm_ch_in (c := 5) (List.mem_of_getElem? (i := 31) (cd_get ck_c13 7 rfl rfl))
theorem cw_138 : Cond.code (sm_my 138) (sm_mb 138) (sm_ml 138) (sm_mr 138) ∈ lw_tbl := sm_ch_in (c := 5) (List.mem_of_getElem? (i := 34) (cd_get ck_c13 8 rfl rfl))
theorem cw_139 : Cond.code (sm_my 139) (sm_mb 139) (sm_ml 139) (sm_mr 139) ∈ lw_tbl := sm_ch_in (c := 5) (List.mem_of_getElem? (i := 38) (cd_get ck_c13 9 rfl rfl))
theorem cw_140 : Cond.code (sm_my 140) (sm_mb 140) (sm_ml 140) (sm_mr 140) ∈ lw_tbl := sm_ch_in (c := 5) (List.mem_of_getElem? (i := 42) (cd_get ck_c14 0 rfl rfl))
theorem cw_141 : Cond.code (sm_my 141) (sm_mb 141) (sm_ml 141) (sm_mr 141) ∈ lw_tbl := sm_ch_in (c := 5) (List.mem_of_getElem? (i := 46) (cd_get ck_c14 1 rfl rfl))
theorem cw_142 : Cond.code (sm_my 142) (sm_mb 142) (sm_ml 142) (sm_mr 142) ∈ lw_tbl := sm_ch_in (c := 5) (List.mem_of_getElem? (i := 50) (cd_get ck_c14 2 rfl rfl))
theorem cw_143 : Cond.code (sm_my 143) (sm_mb 143) (sm_ml 143) (sm_mr 143) ∈ lw_tbl := sm_ch_in (c := 5) (List.mem_of_getElem? (i := 54) (cd_get ck_c14 3 rfl rfl))
theorem cw_144 : Cond.code (sm_my 144) (sm_mb 144) (sm_ml 144) (sm_mr 144) ∈ lw_tbl := sm_ch_in (c := 5) (List.mem_of_getElem? (i := 58) (cd_get ck_c14 4 rfl rfl))
theorem cw_145 : Cond.code (sm_my 145) (sm_mb 145) (sm_ml 145) (sm_mr 145) ∈ lw_tbl := sm_ch_in (c := 5) (List.mem_of_getElem? (i := 62) (cd_get ck_c14 5 rfl rfl))
theorem cw_146 : Cond.code (sm_my 146) (sm_mb 146) (sm_ml 146) (sm_mr 146) ∈ lw_tbl := sm_ch_in (c := 5) (List.mem_of_getElem? (i := 66) (cd_get ck_c14 6 rfl rfl))
theorem cw_147 : Cond.code (sm_my 147) (sm_mb 147) (sm_ml 147) (sm_mr 147) ∈ lw_tbl := sm_ch_in (c := 5) (List.mem_of_getElem? (i := 70) (cd_get ck_c14 7 rfl rfl))
theorem cw_148 : Cond.code (sm_my 148) (sm_mb 148) (sm_ml 148) (sm_mr 148) ∈ lw_tbl := sm_ch_in (c := 5) (List.mem_of_getElem? (i := 74) (cd_get ck_c14 8 rfl rfl))
theorem cw_149 : Cond.code (sm_my 149) (sm_mb 149) (sm_ml 149) (sm_mr 149) ∈ lw_tbl := sm_ch_in (c := 5) (List.mem_of_getElem? (i := 80) (cd_get ck_c14 9 rfl rfl))
theorem cw_150 : Cond.code (sm_my 150) (sm_mb 150) (sm_ml 150) (sm_mr 150) ∈ lw_tbl := sm_ch_in (c := 5) (List.mem_of_getElem? (i := 84) (cd_get ck_c15 0 rfl rfl))
theorem cw_151 : Cond.code (sm_my 151) (sm_mb 151) (sm_ml 151) (sm_mr 151) ∈ lw_tbl := sm_ch_in (c := 5) (List.mem_of_getElem? (i := 90) (cd_get ck_c15 1 rfl rfl))
theorem cw_152 : Cond.code (sm_my 152) (sm_mb 152) (sm_ml 152) (sm_mr 152) ∈ lw_tbl := sm_ch_in (c := 5) (List.mem_of_getElem? (i := 96) (cd_get ck_c15 2 rfl rfl))
theorem cw_153 : Cond.code (sm_my 153) (sm_mb 153) (sm_ml 153) (sm_mr 153) ∈ lw_tbl := sm_ch_in (c := 5) (List.mem_of_getElem? (i := 100) (cd_get ck_c15 3 rfl rfl))
theorem cw_154 : Cond.code (sm_my 154) (sm_mb 154) (sm_ml 154) (sm_mr 154) ∈ lw_tbl := sm_ch_in (c := 5) (List.mem_of_getElem? (i := 104) (cd_get ck_c15 4 rfl rfl))
theorem cw_155 : Cond.code (sm_my 155) (sm_mb 155) (sm_ml 155) (sm_mr 155) ∈ lw_tbl := sm_ch_in (c := 5) (List.mem_of_getElem? (i := 108) (cd_get ck_c15 5 rfl rfl))
theorem cw_156 : Cond.code (sm_my 156) (sm_mb 156) (sm_ml 156) (sm_mr 156) ∈ lw_tbl := sm_ch_in (c := 5) (List.mem_of_getElem? (i := 115) (cd_get ck_c15 6 rfl rfl))
theorem cw_157 : Cond.code (sm_my 157) (sm_mb 157) (sm_ml 157) (sm_mr 157) ∈ lw_tbl := sm_ch_in (c := 5) (List.mem_of_getElem? (i := 119) (cd_get ck_c15 7 rfl rfl))
theorem cw_158 : Cond.code (sm_my 158) (sm_mb 158) (sm_ml 158) (sm_mr 158) ∈ lw_tbl := sm_ch_in (c := 5) (List.mem_of_getElem? (i := 123) (cd_get ck_c15 8 rfl rfl))
theorem cw_159 : Cond.code (sm_my 159) (sm_mb 159) (sm_ml 159) (sm_mr 159) ∈ lw_tbl := sm_ch_in (c := 5) (List.mem_of_getElem? (i := 127) (cd_get ck_c15 9 rfl rfl))
theorem cw_160 : Cond.code (sm_my 160) (sm_mb 160) (sm_ml 160) (sm_mr 160) ∈ lw_tbl := sm_ch_in (c := 5) (List.mem_of_getElem? (i := 133) (cd_get ck_c16 0 rfl rfl))
theorem cw_161 : Cond.code (sm_my 161) (sm_mb 161) (sm_ml 161) (sm_mr 161) ∈ lw_tbl := sm_ch_in (c := 5) (List.mem_of_getElem? (i := 138) (cd_get ck_c16 1 rfl rfl))
theorem cw_162 : Cond.code (sm_my 162) (sm_mb 162) (sm_ml 162) (sm_mr 162) ∈ lw_tbl := sm_ch_in (c := 5) (List.mem_of_getElem? (i := 142) (cd_get ck_c16 2 rfl rfl))
theorem cw_163 : Cond.code (sm_my 163) (sm_mb 163) (sm_ml 163) (sm_mr 163) ∈ lw_tbl := sm_ch_in (c := 5) (List.mem_of_getElem? (i := 146) (cd_get ck_c16 3 rfl rfl))
theorem cw_164 : Cond.code (sm_my 164) (sm_mb 164) (sm_ml 164) (sm_mr 164) ∈ lw_tbl := sm_ch_in (c := 5) (List.mem_of_getElem? (i := 154) (cd_get ck_c16 4 rfl rfl))
theorem cw_165 : Cond.code (sm_my 165) (sm_mb 165) (sm_ml 165) (sm_mr 165) ∈ lw_tbl := sm_ch_in (c := 6) (List.mem_of_getElem? (i := 139) (cd_get ck_c16 5 rfl rfl))
theorem cw_166 : Cond.code (sm_my 166) (sm_mb 166) (sm_ml 166) (sm_mr 166) ∈ lw_tbl := sm_ch_in (c := 6) (List.mem_of_getElem? (i := 142) (cd_get ck_c16 6 rfl rfl))
theorem cw_167 : Cond.code (sm_my 167) (sm_mb 167) (sm_ml 167) (sm_mr 167) ∈ lw_tbl := sm_ch_in (c := 6) (List.mem_of_getElem? (i := 146) (cd_get ck_c16 7 rfl rfl))
theorem cw_168 : Cond.code (sm_my 168) (sm_mb 168) (sm_ml 168) (sm_mr 168) ∈ lw_tbl := sm_ch_in (c := 6) (List.mem_of_getElem? (i := 150) (cd_get ck_c16 8 rfl rfl))
theorem cw_169 : Cond.code (sm_my 169) (sm_mb 169) (sm_ml 169) (sm_mr 169) ∈ lw_tbl := sm_ch_in (c := 6) (List.mem_of_getElem? (i := 154) (cd_get ck_c16 9 rfl rfl))
theorem cw_170 : Cond.code (sm_my 170) (sm_mb 170) (sm_ml 170) (sm_mr 170) ∈ lw_tbl := sm_ch_in (c := 6) (List.mem_of_getElem? (i := 157) (cd_get ck_c17 0 rfl rfl))
theorem cw_171 : Cond.code (sm_my 171) (sm_mb 171) (sm_ml 171) (sm_mr 171) ∈ lw_tbl := sm_ch_in (c := 6) (List.mem_of_getElem? (i := 161) (cd_get ck_c17 1 rfl rfl))
theorem cw_172 : Cond.code (sm_my 172) (sm_mb 172) (sm_ml 172) (sm_mr 172) ∈ lw_tbl := sm_ch_in (c := 6) (List.mem_of_getElem? (i := 164) (cd_get ck_c17 2 rfl rfl))
theorem cw_173 : Cond.code (sm_my 173) (sm_mb 173) (sm_ml 173) (sm_mr 173) ∈ lw_tbl := sm_ch_in (c := 6) (List.mem_of_getElem? (i := 169) (cd_get ck_c17 3 rfl rfl))
theorem cw_174 : Cond.code (sm_my 174) (sm_mb 174) (sm_ml 174) (sm_mr 174) ∈ lw_tbl := sm_ch_in (c := 6) (List.mem_of_getElem? (i := 172) (cd_get ck_c17 4 rfl rfl))
theorem cw_175 : Cond.code (sm_my 175) (sm_mb 175) (sm_ml 175) (sm_mr 175) ∈ lw_tbl := sm_ch_in (c := 6) (List.mem_of_getElem? (i := 177) (cd_get ck_c17 5 rfl rfl))
theorem cw_176 : Cond.code (sm_my 176) (sm_mb 176) (sm_ml 176) (sm_mr 176) ∈ lw_tbl := sm_ch_in (c := 6) (List.mem_of_getElem? (i := 181) (cd_get ck_c17 6 rfl rfl))
theorem cw_177 : Cond.code (sm_my 177) (sm_mb 177) (sm_ml 177) (sm_mr 177) ∈ lw_tbl := sm_ch_in (c := 6) (List.mem_of_getElem? (i := 185) (cd_get ck_c17 7 rfl rfl))
theorem cw_178 : Cond.code (sm_my 178) (sm_mb 178) (sm_ml 178) (sm_mr 178) ∈ lw_tbl := sm_ch_in (c := 6) (List.mem_of_getElem? (i := 188) (cd_get ck_c17 8 rfl rfl))
theorem cw_179 : Cond.code (sm_my 179) (sm_mb 179) (sm_ml 179) (sm_mr 179) ∈ lw_tbl := sm_ch_in (c := 6) (List.mem_of_getElem? (i := 192) (cd_get ck_c17 9 rfl rfl))
theorem cw_180 : Cond.code (sm_my 180) (sm_mb 180) (sm_ml 180) (sm_mr 180) ∈ lw_tbl := sm_ch_in (c := 6) (List.mem_of_getElem? (i := 196) (cd_get ck_c18 0 rfl rfl))
theorem cw_181 : Cond.code (sm_my 181) (sm_mb 181) (sm_ml 181) (sm_mr 181) ∈ lw_tbl := sm_ch_in (c := 6) (List.mem_of_getElem? (i := 200) (cd_get ck_c18 1 rfl rfl))
theorem cw_182 : Cond.code (sm_my 182) (sm_mb 182) (sm_ml 182) (sm_mr 182) ∈ lw_tbl := sm_ch_in (c := 6) (List.mem_of_getElem? (i := 204) (cd_get ck_c18 2 rfl rfl))
theorem cw_183 : Cond.code (sm_my 183) (sm_mb 183) (sm_ml 183) (sm_mr 183) ∈ lw_tbl := sm_ch_in (c := 6) (List.mem_of_getElem? (i := 208) (cd_get ck_c18 3 rfl rfl))
theorem cw_184 : Cond.code (sm_my 184) (sm_mb 184) (sm_ml 184) (sm_mr 184) ∈ lw_tbl := sm_ch_in (c := 6) (List.mem_of_getElem? (i := 212) (cd_get ck_c18 4 rfl rfl))
theorem cw_185 : Cond.code (sm_my 185) (sm_mb 185) (sm_ml 185) (sm_mr 185) ∈ lw_tbl := sm_ch_in (c := 6) (List.mem_of_getElem? (i := 216) (cd_get ck_c18 5 rfl rfl))
theorem cw_186 : Cond.code (sm_my 186) (sm_mb 186) (sm_ml 186) (sm_mr 186) ∈ lw_tbl := sm_ch_in (c := 6) (List.mem_of_getElem? (i := 220) (cd_get ck_c18 6 rfl rfl))
theorem cw_187 : Cond.code (sm_my 187) (sm_mb 187) (sm_ml 187) (sm_mr 187) ∈ lw_tbl := sm_ch_in (c := 6) (List.mem_of_getElem? (i := 224) (cd_get ck_c18 7 rfl rfl))
theorem cw_188 : Cond.code (sm_my 188) (sm_mb 188) (sm_ml 188) (sm_mr 188) ∈ lw_tbl := sm_ch_in (c := 6) (List.mem_of_getElem? (i := 228) (cd_get ck_c18 8 rfl rfl))
theorem cw_189 : Cond.code (sm_my 189) (sm_mb 189) (sm_ml 189) (sm_mr 189) ∈ lw_tbl := sm_ch_in (c := 6) (List.mem_of_getElem? (i := 231) (cd_get ck_c18 9 rfl rfl))
theorem cw_190 : Cond.code (sm_my 190) (sm_mb 190) (sm_ml 190) (sm_mr 190) ∈ lw_tbl := sm_ch_in (c := 6) (List.mem_of_getElem? (i := 235) (cd_get ck_c19 0 rfl rfl))
theorem cw_191 : Cond.code (sm_my 191) (sm_mb 191) (sm_ml 191) (sm_mr 191) ∈ lw_tbl := sm_ch_in (c := 6) (List.mem_of_getElem? (i := 239) (cd_get ck_c19 1 rfl rfl))
theorem cw_192 : Cond.code (sm_my 192) (sm_mb 192) (sm_ml 192) (sm_mr 192) ∈ lw_tbl := sm_ch_in (c := 7) (List.mem_of_getElem? (i := 3) (cd_get ck_c19 2 rfl rfl))
theorem cw_193 : Cond.code (sm_my 193) (sm_mb 193) (sm_ml 193) (sm_mr 193) ∈ lw_tbl := sm_ch_in (c := 7) (List.mem_of_getElem? (i := 7) (cd_get ck_c19 3 rfl rfl))
theorem cw_194 : Cond.code (sm_my 194) (sm_mb 194) (sm_ml 194) (sm_mr 194) ∈ lw_tbl := sm_ch_in (c := 7) (List.mem_of_getElem? (i := 11) (cd_get ck_c19 4 rfl rfl))
theorem cw_195 : Cond.code (sm_my 195) (sm_mb 195) (sm_ml 195) (sm_mr 195) ∈ lw_tbl := sm_ch_in (c := 7) (List.mem_of_getElem? (i := 15) (cd_get ck_c19 5 rfl rfl))
theorem cw_196 : Cond.code (sm_my 196) (sm_mb 196) (sm_ml 196) (sm_mr 196) ∈ lw_tbl := sm_ch_in (c := 7) (List.mem_of_getElem? (i := 19) (cd_get ck_c19 6 rfl rfl))
theorem cw_197 : Cond.code (sm_my 197) (sm_mb 197) (sm_ml 197) (sm_mr 197) ∈ lw_tbl := sm_ch_in (c := 7) (List.mem_of_getElem? (i := 23) (cd_get ck_c19 7 rfl rfl))
theorem cw_198 : Cond.code (sm_my 198) (sm_mb 198) (sm_ml 198) (sm_mr 198) ∈ lw_tbl := sm_ch_in (c := 7) (List.mem_of_getElem? (i := 26) (cd_get ck_c19 8 rfl rfl))
theorem cw_199 : Cond.code (sm_my 199) (sm_mb 199) (sm_ml 199) (sm_mr 199) ∈ lw_tbl := sm_ch_in (c := 7) (List.mem_of_getElem? (i := 30) (cd_get ck_c19 9 rfl rfl))
theorem cw_200 : Cond.code (sm_my 200) (sm_mb 200) (sm_ml 200) (sm_mr 200) ∈ lw_tbl := sm_ch_in (c := 7) (List.mem_of_getElem? (i := 34) (cd_get ck_c20 0 rfl rfl))
theorem cw_201 : Cond.code (sm_my 201) (sm_mb 201) (sm_ml 201) (sm_mr 201) ∈ lw_tbl := sm_ch_in (c := 7) (List.mem_of_getElem? (i := 38) (cd_get ck_c20 1 rfl rfl))
theorem cw_202 : Cond.code (sm_my 202) (sm_mb 202) (sm_ml 202) (sm_mr 202) ∈ lw_tbl := sm_ch_in (c := 7) (List.mem_of_getElem? (i := 42) (cd_get ck_c20 2 rfl rfl))
theorem cw_203 : Cond.code (sm_my 203) (sm_mb 203) (sm_ml 203) (sm_mr 203) ∈ lw_tbl := sm_ch_in (c := 7) (List.mem_of_getElem? (i := 46) (cd_get ck_c20 3 rfl rfl))
theorem cw_204 : Cond.code (sm_my 204) (sm_mb 204) (sm_ml 204) (sm_mr 204) ∈ lw_tbl := sm_ch_in (c := 7) (List.mem_of_getElem? (i := 49) (cd_get ck_c20 4 rfl rfl))
theorem cw_205 : Cond.code (sm_my 205) (sm_mb 205) (sm_ml 205) (sm_mr 205) ∈ lw_tbl := sm_ch_in (c := 7) (List.mem_of_getElem? (i := 53) (cd_get ck_c20 5 rfl rfl))
theorem cw_206 : Cond.code (sm_my 206) (sm_mb 206) (sm_ml 206) (sm_mr 206) ∈ lw_tbl := sm_ch_in (c := 7) (List.mem_of_getElem? (i := 56) (cd_get ck_c20 6 rfl rfl))
theorem cw_207 : Cond.code (sm_my 207) (sm_mb 207) (sm_ml 207) (sm_mr 207) ∈ lw_tbl := sm_ch_in (c := 7) (List.mem_of_getElem? (i := 60) (cd_get ck_c20 7 rfl rfl))
theorem cw_208 : Cond.code (sm_my 208) (sm_mb 208) (sm_ml 208) (sm_mr 208) ∈ lw_tbl := sm_ch_in (c := 7) (List.mem_of_getElem? (i := 64) (cd_get ck_c20 8 rfl rfl))
theorem cw_209 : Cond.code (sm_my 209) (sm_mb 209) (sm_ml 209) (sm_mr 209) ∈ lw_tbl := sm_ch_in (c := 7) (List.mem_of_getElem? (i := 68) (cd_get ck_c20 9 rfl rfl))
theorem cw_210 : Cond.code (sm_my 210) (sm_mb 210) (sm_ml 210) (sm_mr 210) ∈ lw_tbl := sm_ch_in (c := 7) (List.mem_of_getElem? (i := 72) (cd_get ck_c21 0 rfl rfl))
theorem cw_211 : Cond.code (sm_my 211) (sm_mb 211) (sm_ml 211) (sm_mr 211) ∈ lw_tbl := sm_ch_in (c := 7) (List.mem_of_getElem? (i := 76) (cd_get ck_c21 1 rfl rfl))
theorem cw_212 : Cond.code (sm_my 212) (sm_mb 212) (sm_ml 212) (sm_mr 212) ∈ lw_tbl := sm_ch_in (c := 7) (List.mem_of_getElem? (i := 80) (cd_get ck_c21 2 rfl rfl))
theorem cw_213 : Cond.code (sm_my 213) (sm_mb 213) (sm_ml 213) (sm_mr 213) ∈ lw_tbl := sm_ch_in (c := 7) (List.mem_of_getElem? (i := 83) (cd_get ck_c21 3 rfl rfl))
theorem cw_214 : Cond.code (sm_my 214) (sm_mb 214) (sm_ml 214) (sm_mr 214) ∈ lw_tbl := sm_ch_in (c := 7) (List.mem_of_getElem? (i := 87) (cd_get ck_c21 4 rfl rfl))
theorem cw_215 : Cond.code (sm_my 215) (sm_mb 215) (sm_ml 215) (sm_mr 215) ∈ lw_tbl := sm_ch_in (c := 7) (List.mem_of_getElem? (i := 91) (cd_get ck_c21 5 rfl rfl))
theorem cw_216 : Cond.code (sm_my 216) (sm_mb 216) (sm_ml 216) (sm_mr 216) ∈ lw_tbl := sm_ch_in (c := 7) (List.mem_of_getElem? (i := 95) (cd_get ck_c21 6 rfl rfl))
theorem cw_217 : Cond.code (sm_my 217) (sm_mb 217) (sm_ml 217) (sm_mr 217) ∈ lw_tbl := sm_ch_in (c := 7) (List.mem_of_getElem? (i := 98) (cd_get ck_c21 7 rfl rfl))
theorem cw_218 : Cond.code (sm_my 218) (sm_mb 218) (sm_ml 218) (sm_mr 218) ∈ lw_tbl := sm_ch_in (c := 7) (List.mem_of_getElem? (i := 102) (cd_get ck_c21 8 rfl rfl))
theorem cw_219 : Cond.code (sm_my 219) (sm_mb 219) (sm_ml 219) (sm_mr 219) ∈ lw_tbl := sm_ch_in (c := 7) (List.mem_of_getElem? (i := 106) (cd_get ck_c21 9 rfl rfl))
theorem cw_220 : Cond.code (sm_my 220) (sm_mb 220) (sm_ml 220) (sm_mr 220) ∈ lw_tbl := sm_ch_in (c := 7) (List.mem_of_getElem? (i := 110) (cd_get ck_c22 0 rfl rfl))
theorem cw_221 : Cond.code (sm_my 221) (sm_mb 221) (sm_ml 221) (sm_mr 221) ∈ lw_tbl := sm_ch_in (c := 7) (List.mem_of_getElem? (i := 114) (cd_get ck_c22 1 rfl rfl))
theorem cw_222 : Cond.code (sm_my 222) (sm_mb 222) (sm_ml 222) (sm_mr 222) ∈ lw_tbl := sm_ch_in (c := 7) (List.mem_of_getElem? (i := 118) (cd_get ck_c22 2 rfl rfl))
theorem cw_223 : Cond.code (sm_my 223) (sm_mb 223) (sm_ml 223) (sm_mr 223) ∈ lw_tbl := sm_ch_in (c := 7) (List.mem_of_getElem? (i := 122) (cd_get ck_c22 3 rfl rfl))
theorem cw_224 : Cond.code (sm_my 224) (sm_mb 224) (sm_ml 224) (sm_mr 224) ∈ lw_tbl := sm_ch_in (c := 7) (List.mem_of_getElem? (i := 126) (cd_get ck_c22 4 rfl rfl))
theorem cw_225 : Cond.code (sm_my 225) (sm_mb 225) (sm_ml 225) (sm_mr 225) ∈ lw_tbl := sm_ch_in (c := 7) (List.mem_of_getElem? (i := 129) (cd_get ck_c22 5 rfl rfl))
theorem cw_226 : Cond.code (sm_my 226) (sm_mb 226) (sm_ml 226) (sm_mr 226) ∈ lw_tbl := sm_ch_in (c := 7) (List.mem_of_getElem? (i := 133) (cd_get ck_c22 6 rfl rfl))
theorem cw_227 : Cond.code (sm_my 227) (sm_mb 227) (sm_ml 227) (sm_mr 227) ∈ lw_tbl := sm_ch_in (c := 7) (List.mem_of_getElem? (i := 137) (cd_get ck_c22 7 rfl rfl))
theorem cw_228 : Cond.code (sm_my 228) (sm_mb 228) (sm_ml 228) (sm_mr 228) ∈ lw_tbl := sm_ch_in (c := 7) (List.mem_of_getElem? (i := 141) (cd_get ck_c22 8 rfl rfl))
theorem cw_229 : Cond.code (sm_my 229) (sm_mb 229) (sm_ml 229) (sm_mr 229) ∈ lw_tbl := sm_ch_in (c := 7) (List.mem_of_getElem? (i := 145) (cd_get ck_c22 9 rfl rfl))
theorem cw_230 : Cond.code (sm_my 230) (sm_mb 230) (sm_ml 230) (sm_mr 230) ∈ lw_tbl := sm_ch_in (c := 7) (List.mem_of_getElem? (i := 149) (cd_get ck_c23 0 rfl rfl))
theorem cw_231 : Cond.code (sm_my 231) (sm_mb 231) (sm_ml 231) (sm_mr 231) ∈ lw_tbl := sm_ch_in (c := 7) (List.mem_of_getElem? (i := 153) (cd_get ck_c23 1 rfl rfl))
theorem cw_232 : Cond.code (sm_my 232) (sm_mb 232) (sm_ml 232) (sm_mr 232) ∈ lw_tbl := sm_ch_in (c := 7) (List.mem_of_getElem? (i := 157) (cd_get ck_c23 2 rfl rfl))
theorem cw_233 : Cond.code (sm_my 233) (sm_mb 233) (sm_ml 233) (sm_mr 233) ∈ lw_tbl := sm_ch_in (c := 7) (List.mem_of_getElem? (i := 161) (cd_get ck_c23 3 rfl rfl))
theorem cw_234 : Cond.code (sm_my 234) (sm_mb 234) (sm_ml 234) (sm_mr 234) ∈ lw_tbl := sm_ch_in (c := 7) (List.mem_of_getElem? (i := 165) (cd_get ck_c23 4 rfl rfl))
theorem cw_235 : Cond.code (sm_my 235) (sm_mb 235) (sm_ml 235) (sm_mr 235) ∈ lw_tbl := sm_ch_in (c := 7) (List.mem_of_getElem? (i := 169) (cd_get ck_c23 5 rfl rfl))
theorem cw_236 : Cond.code (sm_my 236) (sm_mb 236) (sm_ml 236) (sm_mr 236) ∈ lw_tbl := sm_ch_in (c := 7) (List.mem_of_getElem? (i := 173) (cd_get ck_c23 6 rfl rfl))
theorem cw_237 : Cond.code (sm_my 237) (sm_mb 237) (sm_ml 237) (sm_mr 237) ∈ lw_tbl := sm_ch_in (c := 7) (List.mem_of_getElem? (i := 177) (cd_get ck_c23 7 rfl rfl))
theorem cw_238 : Cond.code (sm_my 238) (sm_mb 238) (sm_ml 238) (sm_mr 238) ∈ lw_tbl := sm_ch_in (c := 7) (List.mem_of_getElem? (i := 181) (cd_get ck_c23 8 rfl rfl))
theorem cw_239 : Cond.code (sm_my 239) (sm_mb 239) (sm_ml 239) (sm_mr 239) ∈ lw_tbl := sm_ch_in (c := 7) (List.mem_of_getElem? (i := 185) (cd_get ck_c23 9 rfl rfl))
theorem cw_240 : Cond.code (sm_my 240) (sm_mb 240) (sm_ml 240) (sm_mr 240) ∈ lw_tbl := sm_ch_in (c := 7) (List.mem_of_getElem? (i := 189) (cd_get ck_c24 0 rfl rfl))
theorem cw_241 : Cond.code (sm_my 241) (sm_mb 241) (sm_ml 241) (sm_mr 241) ∈ lw_tbl := sm_ch_in (c := 7) (List.mem_of_getElem? (i := 193) (cd_get ck_c24 1 rfl rfl))
theorem cw_242 : Cond.code (sm_my 242) (sm_mb 242) (sm_ml 242) (sm_mr 242) ∈ lw_tbl := sm_ch_in (c := 7) (List.mem_of_getElem? (i := 197) (cd_get ck_c24 2 rfl rfl))
theorem cw_243 : Cond.code (sm_my 243) (sm_mb 243) (sm_ml 243) (sm_mr 243) ∈ lw_tbl := sm_ch_in (c := 7) (List.mem_of_getElem? (i := 201) (cd_get ck_c24 3 rfl rfl))
theorem cw_244 : Cond.code (sm_my 244) (sm_mb 244) (sm_ml 244) (sm_mr 244) ∈ lw_tbl := sm_ch_in (c := 7) (List.mem_of_getElem? (i := 205) (cd_get ck_c24 4 rfl rfl))
theorem cw_245 : Cond.code (sm_my 245) (sm_mb 245) (sm_ml 245) (sm_mr 245) ∈ lw_tbl := sm_ch_in (c := 7) (List.mem_of_getElem? (i := 209) (cd_get ck_c24 5 rfl rfl))
theorem cw_246 : Cond.code (sm_my 246) (sm_mb 246) (sm_ml 246) (sm_mr 246) ∈ lw_tbl := sm_ch_in (c := 7) (List.mem_of_getElem? (i := 213) (cd_get ck_c24 6 rfl rfl))
theorem cw_247 : Cond.code (sm_my 247) (sm_mb 247) (sm_ml 247) (sm_mr 247) ∈ lw_tbl := sm_ch_in (c := 7) (List.mem_of_getElem? (i := 217) (cd_get ck_c24 7 rfl rfl))
theorem cw_248 : Cond.code (sm_my 248) (sm_mb 248) (sm_ml 248) (sm_mr 248) ∈ lw_tbl := sm_ch_in (c := 7) (List.mem_of_getElem? (i := 221) (cd_get ck_c24 8 rfl rfl))
theorem cw_249 : Cond.code (sm_my 249) (sm_mb 249) (sm_ml 249) (sm_mr 249) ∈ lw_tbl := sm_ch_in (c := 7) (List.mem_of_getElem? (i := 225) (cd_get ck_c24 9 rfl rfl))
theorem cw_250 : Cond.code (sm_my 250) (sm_mb 250) (sm_ml 250) (sm_mr 250) ∈ lw_tbl := sm_ch_in (c := 7) (List.mem_of_getElem? (i := 230) (cd_get ck_c25 0 rfl rfl))
theorem cw_251 : Cond.code (sm_my 251) (sm_mb 251) (sm_ml 251) (sm_mr 251) ∈ lw_tbl := sm_ch_in (c := 7) (List.mem_of_getElem? (i := 234) (cd_get ck_c25 1 rfl rfl))
theorem cw_252 : Cond.code (sm_my 252) (sm_mb 252) (sm_ml 252) (sm_mr 252) ∈ lw_tbl := sm_ch_in (c := 7) (List.mem_of_getElem? (i := 238) (cd_get ck_c25 2 rfl rfl))
theorem cw_253 : Cond.code (sm_my 253) (sm_mb 253) (sm_ml 253) (sm_mr 253) ∈ lw_tbl := sm_ch_in (c := 8) (List.mem_of_getElem? (i := 2) (cd_get ck_c25 3 rfl rfl))
theorem cw_254 : Cond.code (sm_my 254) (sm_mb 254) (sm_ml 254) (sm_mr 254) ∈ lw_tbl := sm_ch_in (c := 8) (List.mem_of_getElem? (i := 6) (cd_get ck_c25 4 rfl rfl))
theorem cw_255 : Cond.code (sm_my 255) (sm_mb 255) (sm_ml 255) (sm_mr 255) ∈ lw_tbl := sm_ch_in (c := 8) (List.mem_of_getElem? (i := 10) (cd_get ck_c25 5 rfl rfl))
theorem cw_256 : Cond.code (sm_my 256) (sm_mb 256) (sm_ml 256) (sm_mr 256) ∈ lw_tbl := sm_ch_in (c := 8) (List.mem_of_getElem? (i := 14) (cd_get ck_c25 6 rfl rfl))
theorem cw_257 : Cond.code (sm_my 257) (sm_mb 257) (sm_ml 257) (sm_mr 257) ∈ lw_tbl := sm_ch_in (c := 8) (List.mem_of_getElem? (i := 18) (cd_get ck_c25 7 rfl rfl))
theorem cw_258 : Cond.code (sm_my 258) (sm_mb 258) (sm_ml 258) (sm_mr 258) ∈ lw_tbl := sm_ch_in (c := 8) (List.mem_of_getElem? (i := 22) (cd_get ck_c25 8 rfl rfl))
theorem cw_259 : Cond.code (sm_my 259) (sm_mb 259) (sm_ml 259) (sm_mr 259) ∈ lw_tbl := sm_ch_in (c := 8) (List.mem_of_getElem? (i := 25) (cd_get ck_c25 9 rfl rfl))
theorem cw_260 : Cond.code (sm_my 260) (sm_mb 260) (sm_ml 260) (sm_mr 260) ∈ lw_tbl := sm_ch_in (c := 8) (List.mem_of_getElem? (i := 28) (cd_get ck_c26 0 rfl rfl))
theorem cw_261 : Cond.code (sm_my 261) (sm_mb 261) (sm_ml 261) (sm_mr 261) ∈ lw_tbl := sm_ch_in (c := 8) (List.mem_of_getElem? (i := 32) (cd_get ck_c26 1 rfl rfl))
theorem cw_262 : Cond.code (sm_my 262) (sm_mb 262) (sm_ml 262) (sm_mr 262) ∈ lw_tbl := sm_ch_in (c := 8) (List.mem_of_getElem? (i := 35) (cd_get ck_c26 2 rfl rfl))
theorem cw_263 : Cond.code (sm_my 263) (sm_mb 263) (sm_ml 263) (sm_mr 263) ∈ lw_tbl := sm_ch_in (c := 8) (List.mem_of_getElem? (i := 39) (cd_get ck_c26 3 rfl rfl))
theorem cw_264 : Cond.code (sm_my 264) (sm_mb 264) (sm_ml 264) (sm_mr 264) ∈ lw_tbl := sm_ch_in (c := 8) (List.mem_of_getElem? (i := 43) (cd_get ck_c26 4 rfl rfl))
theorem cw_265 : Cond.code (sm_my 265) (sm_mb 265) (sm_ml 265) (sm_mr 265) ∈ lw_tbl := sm_ch_in (c := 8) (List.mem_of_getElem? (i := 47) (cd_get ck_c26 5 rfl rfl))
theorem cw_266 : Cond.code (sm_my 266) (sm_mb 266) (sm_ml 266) (sm_mr 266) ∈ lw_tbl := sm_ch_in (c := 8) (List.mem_of_getElem? (i := 51) (cd_get ck_c26 6 rfl rfl))
theorem cw_267 : Cond.code (sm_my 267) (sm_mb 267) (sm_ml 267) (sm_mr 267) ∈ lw_tbl := sm_ch_in (c := 8) (List.mem_of_getElem? (i := 55) (cd_get ck_c26 7 rfl rfl))
theorem cw_268 : Cond.code (sm_my 268) (sm_mb 268) (sm_ml 268) (sm_mr 268) ∈ lw_tbl := sm_ch_in (c := 8) (List.mem_of_getElem? (i := 59) (cd_get ck_c26 8 rfl rfl))
theorem cw_269 : Cond.code (sm_my 269) (sm_mb 269) (sm_ml 269) (sm_mr 269) ∈ lw_tbl := sm_ch_in (c := 8) (List.mem_of_getElem? (i := 63) (cd_get ck_c26 9 rfl rfl))
theorem cw_270 : Cond.code (sm_my 270) (sm_mb 270) (sm_ml 270) (sm_mr 270) ∈ lw_tbl := sm_ch_in (c := 8) (List.mem_of_getElem? (i := 67) (cd_get ck_c27 0 rfl rfl))
theorem cw_271 : Cond.code (sm_my 271) (sm_mb 271) (sm_ml 271) (sm_mr 271) ∈ lw_tbl := sm_ch_in (c := 8) (List.mem_of_getElem? (i := 70) (cd_get ck_c27 1 rfl rfl))
theorem cw_272 : Cond.code (sm_my 272) (sm_mb 272) (sm_ml 272) (sm_mr 272) ∈ lw_tbl := sm_ch_in (c := 8) (List.mem_of_getElem? (i := 74) (cd_get ck_c27 2 rfl rfl))
theorem cw_273 : Cond.code (sm_my 273) (sm_mb 273) (sm_ml 273) (sm_mr 273) ∈ lw_tbl := sm_ch_in (c := 8) (List.mem_of_getElem? (i := 80) (cd_get ck_c27 3 rfl rfl))
theorem cw_274 : Cond.code (sm_my 274) (sm_mb 274) (sm_ml 274) (sm_mr 274) ∈ lw_tbl := sm_ch_in (c := 8) (List.mem_of_getElem? (i := 85) (cd_get ck_c27 4 rfl rfl))
theorem cw_275 : Cond.code (sm_my 275) (sm_mb 275) (sm_ml 275) (sm_mr 275) ∈ lw_tbl := sm_ch_in (c := 8) (List.mem_of_getElem? (i := 89) (cd_get ck_c27 5 rfl rfl))
theorem cwl_0 : ∀ k ∈ [1, 2, 3, 4, 5, 6, 7, 8, 9, 10, 11, 12], Cond.code (sm_my k) (sm_mb k) (sm_ml k) (sm_mr k) ∈ lw_tbl := List.forall_mem_cons.mpr ⟨cw_1, List.forall_mem_cons.mpr ⟨cw_2, List.forall_mem_cons.mpr ⟨cw_3, List.forall_mem_cons.mpr ⟨cw_4, List.forall_mem_cons.mpr ⟨cw_5, List.forall_mem_cons.mpr ⟨cw_6, List.forall_mem_cons.mpr ⟨cw_7, List.forall_mem_cons.mpr ⟨cw_8, List.forall_mem_cons.mpr ⟨cw_9, List.forall_mem_cons.mpr ⟨cw_10, List.forall_mem_cons.mpr ⟨cw_11, List.forall_mem_cons.mpr ⟨cw_12, fun _ h => absurd h List.not_mem_nil⟩⟩⟩⟩⟩⟩⟩⟩⟩⟩⟩⟩
theorem cwl_1 : ∀ k ∈ [13, 14, 15, 16, 17, 18, 19, 20, 21, 22, 23, 24], Cond.code (sm_my k) (sm_mb k) (sm_ml k) (sm_mr k) ∈ lw_tbl := List.forall_mem_cons.mpr ⟨cw_13, List.forall_mem_cons.mpr ⟨cw_14, List.forall_mem_cons.mpr ⟨cw_15, List.forall_mem_cons.mpr ⟨cw_16, List.forall_mem_cons.mpr ⟨cw_17, List.forall_mem_cons.mpr ⟨cw_18, List.forall_mem_cons.mpr ⟨cw_19, List.forall_mem_cons.mpr ⟨cw_20, List.forall_mem_cons.mpr ⟨cw_21, List.forall_mem_cons.mpr ⟨cw_22, List.forall_mem_cons.mpr ⟨cw_23, List.forall_mem_cons.mpr ⟨cw_24, fun _ h => absurd h List.not_mem_nil⟩⟩⟩⟩⟩⟩⟩⟩⟩⟩⟩⟩
theorem cwl_2 : ∀ k ∈ [25, 26, 27, 28, 29, 30, 31, 32, 33, 34, 35, 36], Cond.code (sm_my k) (sm_mb k) (sm_ml k) (sm_mr k) ∈ lw_tbl := List.forall_mem_cons.mpr ⟨cw_25, List.forall_mem_cons.mpr ⟨cw_26, List.forall_mem_cons.mpr ⟨cw_27, List.forall_mem_cons.mpr ⟨cw_28, List.forall_mem_cons.mpr ⟨cw_29, List.forall_mem_cons.mpr ⟨cw_30, List.forall_mem_cons.mpr ⟨cw_31, List.forall_mem_cons.mpr ⟨cw_32, List.forall_mem_cons.mpr ⟨cw_33, List.forall_mem_cons.mpr ⟨cw_34, List.forall_mem_cons.mpr ⟨cw_35, List.forall_mem_cons.mpr ⟨cw_36, fun _ h => absurd h List.not_mem_nil⟩⟩⟩⟩⟩⟩⟩⟩⟩⟩⟩⟩
theorem cwl_3 : ∀ k ∈ [37, 38, 39, 40, 41, 42, 43, 44, 45, 46, 47, 48], Cond.code (sm_my k) (sm_mb k) (sm_ml k) (sm_mr k) ∈ lw_tbl := List.forall_mem_cons.mpr ⟨cw_37, List.forall_mem_cons.mpr ⟨cw_38, List.forall_mem_cons.mpr ⟨cw_39, List.forall_mem_cons.mpr ⟨cw_40, List.forall_mem_cons.mpr ⟨cw_41, List.forall_mem_cons.mpr ⟨cw_42, List.forall_mem_cons.mpr ⟨cw_43, List.forall_mem_cons.mpr ⟨cw_44, List.forall_mem_cons.mpr ⟨cw_45, List.forall_mem_cons.mpr ⟨cw_46, List.forall_mem_cons.mpr ⟨cw_47, List.forall_mem_cons.mpr ⟨cw_48, fun _ h => absurd h List.not_mem_nil⟩⟩⟩⟩⟩⟩⟩⟩⟩⟩⟩⟩
theorem cwl_4 : ∀ k ∈ [49, 50, 51, 52, 53, 54, 55, 56, 57, 58, 59, 60], Cond.code (sm_my k) (sm_mb k) (sm_ml k) (sm_mr k) ∈ lw_tbl := List.forall_mem_cons.mpr ⟨cw_49, List.forall_mem_cons.mpr ⟨cw_50, List.forall_mem_cons.mpr ⟨cw_51, List.forall_mem_cons.mpr ⟨cw_52, List.forall_mem_cons.mpr ⟨cw_53, List.forall_mem_cons.mpr ⟨cw_54, List.forall_mem_cons.mpr ⟨cw_55, List.forall_mem_cons.mpr ⟨cw_56, List.forall_mem_cons.mpr ⟨cw_57, List.forall_mem_cons.mpr ⟨cw_58, List.forall_mem_cons.mpr ⟨cw_59, List.forall_mem_cons.mpr ⟨cw_60, fun _ h => absurd h List.not_mem_nil⟩⟩⟩⟩⟩⟩⟩⟩⟩⟩⟩⟩
theorem cwl_5 : ∀ k ∈ [61, 62, 63, 64, 65, 66, 67, 68, 69, 70, 71, 72], Cond.code (sm_my k) (sm_mb k) (sm_ml k) (sm_mr k) ∈ lw_tbl := List.forall_mem_cons.mpr ⟨cw_61, List.forall_mem_cons.mpr ⟨cw_62, List.forall_mem_cons.mpr ⟨cw_63, List.forall_mem_cons.mpr ⟨cw_64, List.forall_mem_cons.mpr ⟨cw_65, List.forall_mem_cons.mpr ⟨cw_66, List.forall_mem_cons.mpr ⟨cw_67, List.forall_mem_cons.mpr ⟨cw_68, List.forall_mem_cons.mpr ⟨cw_69, List.forall_mem_cons.mpr ⟨cw_70, List.forall_mem_cons.mpr ⟨cw_71, List.forall_mem_cons.mpr ⟨cw_72, fun _ h => absurd h List.not_mem_nil⟩⟩⟩⟩⟩⟩⟩⟩⟩⟩⟩⟩
theorem cwl_6 : ∀ k ∈ [73, 74, 75, 76, 77, 78, 79, 80, 81, 82, 83, 84], Cond.code (sm_my k) (sm_mb k) (sm_ml k) (sm_mr k) ∈ lw_tbl := List.forall_mem_cons.mpr ⟨cw_73, List.forall_mem_cons.mpr ⟨cw_74, List.forall_mem_cons.mpr ⟨cw_75, List.forall_mem_cons.mpr ⟨cw_76, List.forall_mem_cons.mpr ⟨cw_77, List.forall_mem_cons.mpr ⟨cw_78, List.forall_mem_cons.mpr ⟨cw_79, List.forall_mem_cons.mpr ⟨cw_80, List.forall_mem_cons.mpr ⟨cw_81, List.forall_mem_cons.mpr ⟨cw_82, List.forall_mem_cons.mpr ⟨cw_83, List.forall_mem_cons.mpr ⟨cw_84, fun _ h => absurd h List.not_mem_nil⟩⟩⟩⟩⟩⟩⟩⟩⟩⟩⟩⟩
theorem cwl_7 : ∀ k ∈ [85, 86, 87, 88, 89, 90, 91, 92, 93, 94, 95, 96], Cond.code (sm_my k) (sm_mb k) (sm_ml k) (sm_mr k) ∈ lw_tbl := List.forall_mem_cons.mpr ⟨cw_85, List.forall_mem_cons.mpr ⟨cw_86, List.forall_mem_cons.mpr ⟨cw_87, List.forall_mem_cons.mpr ⟨cw_88, List.forall_mem_cons.mpr ⟨cw_89, List.forall_mem_cons.mpr ⟨cw_90, List.forall_mem_cons.mpr ⟨cw_91, List.forall_mem_cons.mpr ⟨cw_92, List.forall_mem_cons.mpr ⟨cw_93, List.forall_mem_cons.mpr ⟨cw_94, List.forall_mem_cons.mpr ⟨cw_95, List.forall_mem_cons.mpr ⟨cw_96, fun _ h => absurd h List.not_mem_nil⟩⟩⟩⟩⟩⟩⟩⟩⟩⟩⟩⟩
theorem cwl_8 : ∀ k ∈ [97, 98, 99, 100, 101, 102, 103, 104, 105, 106, 107, 108], Cond.code (sm_my k) (sm_mb k) (sm_ml k) (sm_mr k) ∈ lw_tbl := List.forall_mem_cons.mpr ⟨cw_97, List.forall_mem_cons.mpr ⟨cw_98, List.forall_mem_cons.mpr ⟨cw_99, List.forall_mem_cons.mpr ⟨cw_100, List.forall_mem_cons.mpr ⟨cw_101, List.forall_mem_cons.mpr ⟨cw_102, List.forall_mem_cons.mpr ⟨cw_103, List.forall_mem_cons.mpr ⟨cw_104, List.forall_mem_cons.mpr ⟨cw_105, List.forall_mem_cons.mpr ⟨cw_106, List.forall_mem_cons.mpr ⟨cw_107, List.forall_mem_cons.mpr ⟨cw_108, fun _ h => absurd h List.not_mem_nil⟩⟩⟩⟩⟩⟩⟩⟩⟩⟩⟩⟩
theorem cwl_9 : ∀ k ∈ [109, 110, 111, 112, 113, 114, 115, 116, 117, 118, 119, 120], Cond.code (sm_my k) (sm_mb k) (sm_ml k) (sm_mr k) ∈ lw_tbl := List.forall_mem_cons.mpr ⟨cw_109, List.forall_mem_cons.mpr ⟨cw_110, List.forall_mem_cons.mpr ⟨cw_111, List.forall_mem_cons.mpr ⟨cw_112, List.forall_mem_cons.mpr ⟨cw_113, List.forall_mem_cons.mpr ⟨cw_114, List.forall_mem_cons.mpr ⟨cw_115, List.forall_mem_cons.mpr ⟨cw_116, List.forall_mem_cons.mpr ⟨cw_117, List.forall_mem_cons.mpr ⟨cw_118, List.forall_mem_cons.mpr ⟨cw_119, List.forall_mem_cons.mpr ⟨cw_120, fun _ h => absurd h List.not_mem_nil⟩⟩⟩⟩⟩⟩⟩⟩⟩⟩⟩⟩
theorem cwl_10 : ∀ k ∈ [121, 122, 123, 124, 125, 126, 127, 128, 129, 130, 131, 132], Cond.code (sm_my k) (sm_mb k) (sm_ml k) (sm_mr k) ∈ lw_tbl := List.forall_mem_cons.mpr ⟨cw_121, List.forall_mem_cons.mpr ⟨cw_122, List.forall_mem_cons.mpr ⟨cw_123, List.forall_mem_cons.mpr ⟨cw_124, List.forall_mem_cons.mpr ⟨cw_125, List.forall_mem_cons.mpr ⟨cw_126, List.forall_mem_cons.mpr ⟨cw_127, List.forall_mem_cons.mpr ⟨cw_128, List.forall_mem_cons.mpr ⟨cw_129, List.forall_mem_cons.mpr ⟨cw_130, List.forall_mem_cons.mpr ⟨cw_131, List.forall_mem_cons.mpr ⟨cw_132, fun _ h => absurd h List.not_mem_nil⟩⟩⟩⟩⟩⟩⟩⟩⟩⟩⟩⟩
theorem cwl_11 : ∀ k ∈ [133, 134, 135, 136, 137, 138, 139, 140, 141, 142, 143, 144], Cond.code (sm_my k) (sm_mb k) (sm_ml k) (sm_mr k) ∈ lw_tbl := List.forall_mem_cons.mpr ⟨cw_133, List.forall_mem_cons.mpr ⟨cw_134, List.forall_mem_cons.mpr ⟨cw_135, List.forall_mem_cons.mpr ⟨cw_136, List.forall_mem_cons.mpr ⟨cw_137, List.forall_mem_cons.mpr ⟨cw_138, List.forall_mem_cons.mpr ⟨cw_139, List.forall_mem_cons.mpr ⟨cw_140, List.forall_mem_cons.mpr ⟨cw_141, List.forall_mem_cons.mpr ⟨cw_142, List.forall_mem_cons.mpr ⟨cw_143, List.forall_mem_cons.mpr ⟨cw_144, fun _ h => absurd h List.not_mem_nil⟩⟩⟩⟩⟩⟩⟩⟩⟩⟩⟩⟩
theorem cwl_12 : ∀ k ∈ [145, 146, 147, 148, 149, 150, 151, 152, 153, 154, 155, 156], Cond.code (sm_my k) (sm_mb k) (sm_ml k) (sm_mr k) ∈ lw_tbl := List.forall_mem_cons.mpr ⟨cw_145, List.forall_mem_cons.mpr ⟨cw_146, List.forall_mem_cons.mpr ⟨cw_147, List.forall_mem_cons.mpr ⟨cw_148, List.forall_mem_cons.mpr ⟨cw_149, List.forall_mem_cons.mpr ⟨cw_150, List.forall_mem_cons.mpr ⟨cw_151, List.forall_mem_cons.mpr ⟨cw_152, List.forall_mem_cons.mpr ⟨cw_153, List.forall_mem_cons.mpr ⟨cw_154, List.forall_mem_cons.mpr ⟨cw_155, List.forall_mem_cons.mpr ⟨cw_156, fun _ h => absurd h List.not_mem_nil⟩⟩⟩⟩⟩⟩⟩⟩⟩⟩⟩⟩
theorem cwl_13 : ∀ k ∈ [157, 158, 159, 160, 161, 162, 163, 164, 165, 166, 167, 168], Cond.code (sm_my k) (sm_mb k) (sm_ml k) (sm_mr k) ∈ lw_tbl := List.forall_mem_cons.mpr ⟨cw_157, List.forall_mem_cons.mpr ⟨cw_158, List.forall_mem_cons.mpr ⟨cw_159, List.forall_mem_cons.mpr ⟨cw_160, List.forall_mem_cons.mpr ⟨cw_161, List.forall_mem_cons.mpr ⟨cw_162, List.forall_mem_cons.mpr ⟨cw_163, List.forall_mem_cons.mpr ⟨cw_164, List.forall_mem_cons.mpr ⟨cw_165, List.forall_mem_cons.mpr ⟨cw_166, List.forall_mem_cons.mpr ⟨cw_167, List.forall_mem_cons.mpr ⟨cw_168, fun _ h => absurd h List.not_mem_nil⟩⟩⟩⟩⟩⟩⟩⟩⟩⟩⟩⟩
theorem cwl_14 : ∀ k ∈ [169, 170, 171, 172, 173, 174, 175, 176, 177, 178, 179, 180], Cond.code (sm_my k) (sm_mb k) (sm_ml k) (sm_mr k) ∈ lw_tbl := List.forall_mem_cons.mpr ⟨cw_169, List.forall_mem_cons.mpr ⟨cw_170, List.forall_mem_cons.mpr ⟨cw_171, List.forall_mem_cons.mpr ⟨cw_172, List.forall_mem_cons.mpr ⟨cw_173, List.forall_mem_cons.mpr ⟨cw_174, List.forall_mem_cons.mpr ⟨cw_175, List.forall_mem_cons.mpr ⟨cw_176, List.forall_mem_cons.mpr ⟨cw_177, List.forall_mem_cons.mpr ⟨cw_178, List.forall_mem_cons.mpr ⟨cw_179, List.forall_mem_cons.mpr ⟨cw_180, fun _ h => absurd h List.not_mem_nil⟩⟩⟩⟩⟩⟩⟩⟩⟩⟩⟩⟩
theorem cwl_15 : ∀ k ∈ [181, 182, 183, 184, 185, 186, 187, 188, 189, 190, 191, 192], Cond.code (sm_my k) (sm_mb k) (sm_ml k) (sm_mr k) ∈ lw_tbl := List.forall_mem_cons.mpr ⟨cw_181, List.forall_mem_cons.mpr ⟨cw_182, List.forall_mem_cons.mpr ⟨cw_183, List.forall_mem_cons.mpr ⟨cw_184, List.forall_mem_cons.mpr ⟨cw_185, List.forall_mem_cons.mpr ⟨cw_186, List.forall_mem_cons.mpr ⟨cw_187, List.forall_mem_cons.mpr ⟨cw_188, List.forall_mem_cons.mpr ⟨cw_189, List.forall_mem_cons.mpr ⟨cw_190, List.forall_mem_cons.mpr ⟨cw_191, List.forall_mem_cons.mpr ⟨cw_192, fun _ h => absurd h List.not_mem_nil⟩⟩⟩⟩⟩⟩⟩⟩⟩⟩⟩⟩
theorem cwl_16 : ∀ k ∈ [193, 194, 195, 196, 197, 198, 199, 200, 201, 202, 203, 204], Cond.code (sm_my k) (sm_mb k) (sm_ml k) (sm_mr k) ∈ lw_tbl := List.forall_mem_cons.mpr ⟨cw_193, List.forall_mem_cons.mpr ⟨cw_194, List.forall_mem_cons.mpr ⟨cw_195, List.forall_mem_cons.mpr ⟨cw_196, List.forall_mem_cons.mpr ⟨cw_197, List.forall_mem_cons.mpr ⟨cw_198, List.forall_mem_cons.mpr ⟨cw_199, List.forall_mem_cons.mpr ⟨cw_200, List.forall_mem_cons.mpr ⟨cw_201, List.forall_mem_cons.mpr ⟨cw_202, List.forall_mem_cons.mpr ⟨cw_203, List.forall_mem_cons.mpr ⟨cw_204, fun _ h => absurd h List.not_mem_nil⟩⟩⟩⟩⟩⟩⟩⟩⟩⟩⟩⟩
theorem cwl_17 : ∀ k ∈ [205, 206, 207, 208, 209, 210, 211, 212, 213, 214, 215, 216], Cond.code (sm_my k) (sm_mb k) (sm_ml k) (sm_mr k) ∈ lw_tbl := List.forall_mem_cons.mpr ⟨cw_205, List.forall_mem_cons.mpr ⟨cw_206, List.forall_mem_cons.mpr ⟨cw_207, List.forall_mem_cons.mpr ⟨cw_208, List.forall_mem_cons.mpr ⟨cw_209, List.forall_mem_cons.mpr ⟨cw_210, List.forall_mem_cons.mpr ⟨cw_211, List.forall_mem_cons.mpr ⟨cw_212, List.forall_mem_cons.mpr ⟨cw_213, List.forall_mem_cons.mpr ⟨cw_214, List.forall_mem_cons.mpr ⟨cw_215, List.forall_mem_cons.mpr ⟨cw_216, fun _ h => absurd h List.not_mem_nil⟩⟩⟩⟩⟩⟩⟩⟩⟩⟩⟩⟩
theorem cwl_18 : ∀ k ∈ [217, 218, 219, 220, 221, 222, 223, 224, 225, 226, 227, 228], Cond.code (sm_my k) (sm_mb k) (sm_ml k) (sm_mr k) ∈ lw_tbl := List.forall_mem_cons.mpr ⟨cw_217, List.forall_mem_cons.mpr ⟨cw_218, List.forall_mem_cons.mpr ⟨cw_219, List.forall_mem_cons.mpr ⟨cw_220, List.forall_mem_cons.mpr ⟨cw_221, List.forall_mem_cons.mpr ⟨cw_222, List.forall_mem_cons.mpr ⟨cw_223, List.forall_mem_cons.mpr ⟨cw_224, List.forall_mem_cons.mpr ⟨cw_225, List.forall_mem_cons.mpr ⟨cw_226, List.forall_mem_cons.mpr ⟨cw_227, List.forall_mem_cons.mpr ⟨cw_228, fun _ h => absurd h List.not_mem_nil⟩⟩⟩⟩⟩⟩⟩⟩⟩⟩⟩⟩
theorem cwl_19 : ∀ k ∈ [229, 230, 231, 232, 233, 234, 235, 236, 237, 238, 239, 240], Cond.code (sm_my k) (sm_mb k) (sm_ml k) (sm_mr k) ∈ lw_tbl := List.forall_mem_cons.mpr ⟨cw_229, List.forall_mem_cons.mpr ⟨cw_230, List.forall_mem_cons.mpr ⟨cw_231, List.forall_mem_cons.mpr ⟨cw_232, List.forall_mem_cons.mpr ⟨cw_233, List.forall_mem_cons.mpr ⟨cw_234, List.forall_mem_cons.mpr ⟨cw_235, List.forall_mem_cons.mpr ⟨cw_236, List.forall_mem_cons.mpr ⟨cw_237, List.forall_mem_cons.mpr ⟨cw_238, List.forall_mem_cons.mpr ⟨cw_239, List.forall_mem_cons.mpr ⟨cw_240, fun _ h => absurd h List.not_mem_nil⟩⟩⟩⟩⟩⟩⟩⟩⟩⟩⟩⟩
theorem cwl_20 : ∀ k ∈ [241, 242, 243, 244, 245, 246, 247, 248, 249, 250, 251, 252], Cond.code (sm_my k) (sm_mb k) (sm_ml k) (sm_mr k) ∈ lw_tbl := List.forall_mem_cons.mpr ⟨cw_241, List.forall_mem_cons.mpr ⟨cw_242, List.forall_mem_cons.mpr ⟨cw_243, List.forall_mem_cons.mpr ⟨cw_244, List.forall_mem_cons.mpr ⟨cw_245, List.forall_mem_cons.mpr ⟨cw_246, List.forall_mem_cons.mpr ⟨cw_247, List.forall_mem_cons.mpr ⟨cw_248, List.forall_mem_cons.mpr ⟨cw_249, List.forall_mem_cons.mpr ⟨cw_250, List.forall_mem_cons.mpr ⟨cw_251, List.forall_mem_cons.mpr ⟨cw_252, fun _ h => absurd h List.not_mem_nil⟩⟩⟩⟩⟩⟩⟩⟩⟩⟩⟩⟩
theorem cwl_21 : ∀ k ∈ [253, 254, 255, 256, 257, 258, 259, 260, 261, 262, 263, 264], Cond.code (sm_my k) (sm_mb k) (sm_ml k) (sm_mr k) ∈ lw_tbl := List.forall_mem_cons.mpr ⟨cw_253, List.forall_mem_cons.mpr ⟨cw_254, List.forall_mem_cons.mpr ⟨cw_255, List.forall_mem_cons.mpr ⟨cw_256, List.forall_mem_cons.mpr ⟨cw_257, List.forall_mem_cons.mpr ⟨cw_258, List.forall_mem_cons.mpr ⟨cw_259, List.forall_mem_cons.mpr ⟨cw_260, List.forall_mem_cons.mpr ⟨cw_261, List.forall_mem_cons.mpr ⟨cw_262, List.forall_mem_cons.mpr ⟨cw_263, List.forall_mem_cons.mpr ⟨cw_264, fun _ h => absurd h List.not_mem_nil⟩⟩⟩⟩⟩⟩⟩⟩⟩⟩⟩⟩
theorem cwl_22 : ∀ k ∈ [265, 266, 267, 268, 269, 270, 271, 272, 273, 274, 275], Cond.code (sm_my k) (sm_mb k) (sm_ml k) (sm_mr k) ∈ lw_tbl := List.forall_mem_cons.mpr ⟨cw_265, List.forall_mem_cons.mpr ⟨cw_266, List.forall_mem_cons.mpr ⟨cw_267, List.forall_mem_cons.mpr ⟨cw_268, List.forall_mem_cons.mpr ⟨cw_269, List.forall_mem_cons.mpr ⟨cw_270, List.forall_mem_cons.mpr ⟨cw_271, List.forall_mem_cons.mpr ⟨cw_272, List.forall_mem_cons.mpr ⟨cw_273, List.forall_mem_cons.mpr ⟨cw_274, List.forall_mem_cons.mpr ⟨cw_275, fun _ h => absurd h List.not_mem_nil⟩⟩⟩⟩⟩⟩⟩⟩⟩⟩⟩
theorem cw_all (k : Nat) (h0 : 0 < k) (hk : k < 276) : Cond.code (sm_my k) (sm_mb k) (sm_ml k) (sm_mr k) ∈ lw_tbl := by
  have hq : (k - 1) / 12 < 23 := by omega
  rcases (show (k - 1) / 12 = 0 ∨ (k - 1) / 12 = 1 ∨ (k - 1) / 12 = 2 ∨ (k - 1) / 12 = 3 ∨ (k - 1) / 12 = 4 ∨ (k - 1) / 12 = 5 ∨ (k - 1) / 12 = 6 ∨ (k - 1) / 12 = 7 ∨ (k - 1) / 12 = 8 ∨ (k - 1) / 12 = 9 ∨ (k - 1) / 12 = 10 ∨ (k - 1) / 12 = 11 ∨ (k - 1) / 12 = 12 ∨ (k - 1) / 12 = 13 ∨ (k - 1) / 12 = 14 ∨ (k - 1) / 12 = 15 ∨ (k - 1) / 12 = 16 ∨ (k - 1) / 12 = 17 ∨ (k - 1) / 12 = 18 ∨ (k - 1) / 12 = 19 ∨ (k - 1) / 12 = 20 ∨ (k - 1) / 12 = 21 ∨ (k - 1) / 12 = 22 by omega) with h | h | h | h | h | h | h | h | h | h | h | h | h | h | h | h | h | h | h | h | h | h | h
  · exact cwl_0 k (by simp only [List.mem_cons, List.not_mem_nil, or_false]; omega)
  · exact cwl_1 k (by simp only [List.mem_cons, List.not_mem_nil, or_false]; omega)
  · exact cwl_2 k (by simp only [List.mem_cons, List.not_mem_nil, or_false]; omega)
  · exact cwl_3 k (by simp only [List.mem_cons, List.not_mem_nil, or_false]; omega)
  · exact cwl_4 k (by simp only [List.mem_cons, List.not_mem_nil, or_false]; omega)
  · exact cwl_5 k (by simp only [List.mem_cons, List.not_mem_nil, or_false]; omega)
  · exact cwl_6 k (by simp only [List.mem_cons, List.not_mem_nil, or_false]; omega)
  · exact cwl_7 k (by simp only [List.mem_cons, List.not_mem_nil, or_false]; omega)
  · exact cwl_8 k (by simp only [List.mem_cons, List.not_mem_nil, or_false]; omega)
  · exact cwl_9 k (by simp only [List.mem_cons, List.not_mem_nil, or_false]; omega)
  · exact cwl_10 k (by simp only [List.mem_cons, List.not_mem_nil, or_false]; omega)
  · exact cwl_11 k (by simp only [List.mem_cons, List.not_mem_nil, or_false]; omega)
  · exact cwl_12 k (by simp only [List.mem_cons, List.not_mem_nil, or_false]; omega)
  · exact cwl_13 k (by simp only [List.mem_cons, List.not_mem_nil, or_false]; omega)
  · exact cwl_14 k (by simp only [List.mem_cons, List.not_mem_nil, or_false]; omega)
  · exact cwl_15 k (by simp only [List.mem_cons, List.not_mem_nil, or_false]; omega)
  · exact cwl_16 k (by simp only [List.mem_cons, List.not_mem_nil, or_false]; omega)
  · exact cwl_17 k (by simp only [List.mem_cons, List.not_mem_nil, or_false]; omega)
  · exact cwl_18 k (by simp only [List.mem_cons, List.not_mem_nil, or_false]; omega)
  · exact cwl_19 k (by simp only [List.mem_cons, List.not_mem_nil, or_false]; omega)
  · exact cwl_20 k (by simp only [List.mem_cons, List.not_mem_nil, or_false]; omega)
  · exact cwl_21 k (by simp only [List.mem_cons, List.not_mem_nil, or_false]; omega)
  · exact cwl_22 k (by simp only [List.mem_cons, List.not_mem_nil, or_false]; omega)
theorem cw_ts (k : Nat) (h0 : 0 < k) (hk : k < 276) : Cond.code (sm_my k) (sm_mb k) (sm_ml k) (sm_mr k) ∈ sm_ts := List.mem_filter.mpr ⟨cw_all k h0 hk, rfl⟩
/-- what is known of a method -/
theorem m_ok (k : Nat) (h0 : 0 < k) (hk : k < 276) :
    (sm_st k = true → Cond.static (sm_my k) ∈ sm_ts ∧ sm_rk k = 200) ∧
    (sm_st k = false → Cond.instanceMethod (sm_my k) ∈ sm_ts ∧ ((sm_my k).name = "<init>" ∨ Cond.selects (sm_my k).cls (sm_my k) (sm_my k) ∈ sm_ts) ∧ sm_rk k = sm_oc k) ∧
    (sm_my k).cls = sm_on (sm_oc k) ∧ (parseMethodDescriptor (sm_my k).desc).map (fun d => d.parameters.length) = some (sm_na k) ∧ plainFor (sm_my k) = true ∧ (sm_my k).cls ≠ "java/lang/invoke/MethodHandle" ∧ (sm_my k).cls ≠ "java/lang/invoke/VarHandle" ∧ sm_ml k ≤ 24 := by
  have h := cf_m_all k h0 hk
  unfold cf_m at h
  generalize sm_mp k = q at h
  obtain ⟨i, j, s⟩ := q
  simp only [Bool.and_eq_true, decide_eq_true_eq] at h
  obtain ⟨⟨⟨⟨⟨⟨⟨⟨h1, h2⟩, h3⟩, h4⟩, h5⟩, h6⟩, h7⟩, h8⟩, h9⟩ := h
  refine ⟨fun hs => ?_, fun hs => ?_, h2, h4, h5, h6, h7, Nat.le_of_ble_eq_true h9⟩
  · rw [if_pos hs] at h1 h8
    exact ⟨sm_w_ts h1, Nat.eq_of_beq_eq_true h8⟩
  · rw [if_neg (by rw [hs]; decide)] at h1 h8
    rw [Bool.and_eq_true] at h1
    refine ⟨sm_w_ts h1.1, ?_, Nat.eq_of_beq_eq_true h8⟩
    rcases (Bool.or_eq_true _ _).mp h1.2 with h10 | h10
    · exact Or.inl (of_decide_eq_true h10)
    · exact Or.inr (sm_w_ts h10)
theorem gi_ok (k : Nat) (h0 : 0 < k) (hk : k < 276) : GoodIn sm_ts (Cond.code (sm_my k) (sm_mb k) (sm_ml k) (sm_mr k) :: sm_ts) := by
  intro w hw
  rcases List.mem_cons.mp hw with rfl | hw
  · exact ⟨cw_ts k h0 hk, Or.inl rfl⟩
  · exact ⟨hw, good_of_word (List.mem_filter.mp hw).2⟩
