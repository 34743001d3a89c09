/-! each call is one step of the invariant (by program: genstep.py) -/
theorem fr_aA (A : sm_M) (t : Nat) (a b c d : Int32) : Fr PA_th A (aA A t a b c d) := Fr_u (Fr_u (Fr_u (Fr_u (Fr_u (Fr_u (Fr_u (Fr_r _ _) rfl) rfl) rfl) rfl) rfl) rfl) rfl
theorem fr_aB0 (B : sm_M) (t : Nat) (a b c d : Int32) : Fr PB_th B (aB0 B t a b c d) := Fr_u (Fr_u (Fr_u (Fr_u (Fr_u (Fr_u (Fr_u (Fr_u (Fr_u (Fr_u (Fr_r _ _) rfl) rfl) rfl) rfl) rfl) rfl) rfl) rfl) rfl) rfl
theorem fr_aB (B : sm_M) (t : Nat) (a b c d : Int32) : Fr PB_th B (aB B t a b c d) := Fr_t (Fr_u (Fr_r _ _) rfl) (fr_aB0 _ _ _ _ _ _)
theorem fr_aE (A : sm_M) (i : Nat) : Fr PA_th A (aE A i) := Fr_u (Fr_u (Fr_r _ _) rfl) rfl
theorem fr_bE (B : sm_M) (i : Nat) : Fr PB_th B (bE B i) := Fr_u (Fr_u (Fr_u (Fr_r _ _) rfl) rfl) rfl
theorem Res_th {n : Nat} {A B A' B' : sm_M} (hI : InvP n A B) (fA : Fr PA_th A A') (fB : Fr PB_th B B') (g1 : J_thg A' B') (g2 : J_tel 1 (n + 1) A' B') (e2 : B' 11 0 2 = B 11 0 2 + 1) : Res n A B A' B' := by
  have hJ := hI
  obtain ⟨h_day, h_srv, h_sea, h_thg, h_tel, h_rul, h_num, h_txt, h_wrd, h_way, h_end, h_tap, h_tp3, h_sht, h_edi, h_cop, h_cor, h_act, h_cst, h_set⟩ := hJ
  exact ⟨inv_th (InvP_s hI) fA fB g1 (J_tel_w g2) (J_edi_C (cut_of fA (djn (fun f k h hp => by simp only [DA_edi, PA_th, Bool.or_eq_true, Bool.and_eq_true, Nat.beq_eq, Nat.ble_eq] at h hp; omega))) (cut_pin fB (fun f k h hp => by simp only [DB_edi, PB_th, X2, Bool.or_eq_true, Bool.and_eq_true, Nat.beq_eq, Nat.ble_eq] at h hp ⊢; omega)) e2 h_edi), cl_th fA, rl_th fB⟩
theorem w_sc {A A1 : sm_M} (h : Fr sA2 A A1) : Fr PA_sc A A1 := Fr_w h (fun f k hk => by unfold PA_sc at hk; simp only [Bool.or_eq_false_iff] at hk; exact hk.1)
theorem w_pl {A A1 : sm_M} (h : Fr PA_pl A A1) : Fr PA_sc A A1 := Fr_w h (fun f k hk => by unfold PA_sc at hk; simp only [Bool.or_eq_false_iff] at hk; exact hk.2)
theorem q14 {n : Nat} {A B : sm_M} (hI : InvP n A B) (hn : n < 2 ^ 29) (x0 : Int32) (nL : Nat) : ∃ r A' B', (∀ d Q, sm_W d 14 0 [vo 10, vi x0] [] (sm_G0 nL) A Q = Q (vi r) (sm_G0 nL) A') ∧ (∀ d Q, sm_W (d + 1) 165 0 [vo 11, vi x0] [] (sm_G0 nL) B Q = Q (vi r) (sm_G0 nL) B') ∧ Res n A B A' B' := by
  have hJ := hI
  obtain ⟨h_day, h_srv, h_sea, h_thg, h_tel, h_rul, h_num, h_txt, h_wrd, h_way, h_end, h_tap, h_tp3, h_sht, h_edi, h_cop, h_cor, h_act, h_cst, h_set⟩ := hJ
  obtain ⟨r, A', B', g1, g2, h⟩ := p14 h_day x0 nL
  refine ⟨r, A', B', g1, g2, ?_⟩
  rcases h with ⟨rfl, rfl⟩ | ⟨v, rfl, rfl, hd⟩
  · exact Res_r hI
  · exact ⟨InvP_s (inv_ps hI (Fr_u (Fr_r _ _) rfl) (Fr_u (Fr_r _ _) rfl) hd), cl_ps (Fr_u (Fr_r _ _) rfl), rl_ps (Fr_u (Fr_r _ _) rfl)⟩
theorem q15 {n : Nat} {A B : sm_M} (hI : InvP n A B) (hn : n < 2 ^ 29) (x0 x1 x2 : Int32) (nL : Nat) : ∃ r A' B', (∀ d Q, sm_W (d + 1) 15 0 [vo 10, vi x0, vi x1, vi x2] [] (sm_G0 nL) A Q = Q (vi r) (sm_G0 nL) A') ∧ (∀ d Q, sm_W (d + 1) 167 0 [vo 11, vi x0, vi x1, vi x2] [] (sm_G0 nL) B Q = Q (vi r) (sm_G0 nL) B') ∧ Res n A B A' B' := by
  have hJ := hI
  obtain ⟨h_day, h_srv, h_sea, h_thg, h_tel, h_rul, h_num, h_txt, h_wrd, h_way, h_end, h_tap, h_tp3, h_sht, h_edi, h_cop, h_cor, h_act, h_cst, h_set⟩ := hJ
  obtain ⟨r, A', B', g1, g2, h⟩ := p15 h_srv x0 x1 x2 nL
  refine ⟨r, A', B', g1, g2, ?_⟩
  rcases h with ⟨rfl, rfl⟩ | ⟨m, a, b, c, v, rfl, rfl, hd, en, rfl, hm⟩
  · exact Res_r hI
  · exact ⟨InvP_s (inv_sv hI (Fr_u (Fr_u (Fr_u (Fr_u (Fr_r _ _) rfl) rfl) rfl) rfl) (Fr_u (Fr_u (Fr_u (Fr_u (Fr_r _ _) rfl) rfl) rfl) rfl) hd (J_thg_srv h_thg en hm)), cl_sv (Fr_u (Fr_u (Fr_u (Fr_u (Fr_r _ _) rfl) rfl) rfl) rfl), rl_sv (Fr_u (Fr_u (Fr_u (Fr_u (Fr_r _ _) rfl) rfl) rfl) rfl)⟩
theorem q17 {n : Nat} {A B : sm_M} (hI : InvP n A B) (hn : n < 2 ^ 29) (x0 x1 x2 x3 : Int32) (nL : Nat) : ∃ r A' B', (∀ d Q, sm_W (d + 2) 17 0 [vo 10, vi x0, vi x1, vi x2, vi x3] [] (sm_G0 nL) A Q = Q (vi r) (sm_G0 nL) A') ∧ (∀ d Q, sm_W (d + 1) 168 0 [vo 11, vi x0, vi x1, vi x2, vi x3, none] [] (sm_G0 nL) B Q = Q (vi r) (sm_G0 nL) B') ∧ Res n A B A' B' := by
  have hJ := hI
  obtain ⟨h_day, h_srv, h_sea, h_thg, h_tel, h_rul, h_num, h_txt, h_wrd, h_way, h_end, h_tap, h_tp3, h_sht, h_edi, h_cop, h_cor, h_act, h_cst, h_set⟩ := hJ
  obtain ⟨r, A', B', g1, g2, h⟩ := p17 h_sea x0 x1 x2 x3 nL
  refine ⟨r, A', B', g1, g2, ?_⟩
  rcases h with ⟨rfl, rfl⟩ | ⟨q, g, a, p, h, m, rfl, rfl, hd⟩
  · exact Res_r hI
  · exact ⟨InvP_s (inv_se hI (Fr_u (Fr_u (Fr_u (Fr_u (Fr_r _ _) rfl) rfl) rfl) rfl) (Fr_u (Fr_u (Fr_u (Fr_u (Fr_r _ _) rfl) rfl) rfl) rfl) hd), cl_se (Fr_u (Fr_u (Fr_u (Fr_u (Fr_r _ _) rfl) rfl) rfl) rfl), rl_se (Fr_u (Fr_u (Fr_u (Fr_u (Fr_r _ _) rfl) rfl) rfl) rfl)⟩
theorem q20 {n : Nat} {A B : sm_M} (hI : InvP n A B) (hn : n < 2 ^ 29) (x0 x1 : Int32) (nL : Nat) : ∃ r A' B', (∀ d Q, sm_W (d + 1) 20 0 [vo 10, vi x0, vi x1, none] [] (sm_G0 nL) A Q = Q (vi r) (sm_G0 nL) A') ∧ (∀ d Q, sm_W (d + 2) 169 0 [vo 11, vi x0, vi x1, none] [] (sm_G0 nL) B Q = Q (vi r) (sm_G0 nL) B') ∧ Res n A B A' B' := by
  have hJ := hI
  obtain ⟨h_day, h_srv, h_sea, h_thg, h_tel, h_rul, h_num, h_txt, h_wrd, h_way, h_end, h_tap, h_tp3, h_sht, h_edi, h_cop, h_cor, h_act, h_cst, h_set⟩ := hJ
  obtain ⟨r, A', B', g1, g2, h⟩ := p20 h_sea x0 x1 nL
  refine ⟨r, A', B', g1, g2, ?_⟩
  rcases h with ⟨rfl, rfl⟩ | ⟨c, v, rfl, rfl, hd⟩
  · exact Res_r hI
  · exact ⟨InvP_s (inv_se hI (Fr_u (Fr_r _ _) rfl) (Fr_u (Fr_r _ _) rfl) hd), cl_se (Fr_u (Fr_r _ _) rfl), rl_se (Fr_u (Fr_r _ _) rfl)⟩
theorem q22 {n : Nat} {A B : sm_M} (hI : InvP n A B) (hn : n < 2 ^ 29) (x0 x1 : Int32) (nL : Nat) : ∃ r A' B', (∀ d Q, sm_W (d + 3) 22 0 [vo 10, vi x0, vi x1] [] (sm_G0 nL) A Q = Q (vi r) (sm_G0 nL) A') ∧ (∀ d Q, sm_W (d + 2) 171 0 [vo 11, vi x0, vi x1] [] (sm_G0 nL) B Q = Q (vi r) (sm_G0 nL) B') ∧ Res n A B A' B' := by
  have hJ := hI
  obtain ⟨h_day, h_srv, h_sea, h_thg, h_tel, h_rul, h_num, h_txt, h_wrd, h_way, h_end, h_tap, h_tp3, h_sht, h_edi, h_cop, h_cor, h_act, h_cst, h_set⟩ := hJ
  obtain ⟨r, g1, g2⟩ := p22 h_sea.1 h_sea.2 x0 x1 nL
  exact ⟨r, A, B, g1, g2, Res_r hI⟩
theorem q27 {n : Nat} {A B : sm_M} (hI : InvP n A B) (hn : n < 2 ^ 29) (x0 x1 : Int32) (nL : Nat) : ∃ r A' B', (∀ d Q, sm_W (d + 1) 27 0 [vo 10, vi x0, vi x1, none] [] (sm_G0 nL) A Q = Q (vi r) (sm_G0 nL) A') ∧ (∀ d Q, sm_W (d + 2) 175 0 [vo 11, vi x0, vi x1, none] [] (sm_G0 nL) B Q = Q (vi r) (sm_G0 nL) B') ∧ Res n A B A' B' := by
  have hJ := hI
  obtain ⟨h_day, h_srv, h_sea, h_thg, h_tel, h_rul, h_num, h_txt, h_wrd, h_way, h_end, h_tap, h_tp3, h_sht, h_edi, h_cop, h_cor, h_act, h_cst, h_set⟩ := hJ
  obtain ⟨r, A', B', g1, g2, h⟩ := p27 h_sea x0 x1 nL
  refine ⟨r, A', B', g1, g2, ?_⟩
  rcases h with ⟨rfl, rfl⟩ | ⟨c, v, rfl, rfl, hd⟩
  · exact Res_r hI
  · exact ⟨InvP_s (inv_se hI (Fr_u (Fr_r _ _) rfl) (Fr_u (Fr_r _ _) rfl) hd), cl_se (Fr_u (Fr_r _ _) rfl), rl_se (Fr_u (Fr_r _ _) rfl)⟩
theorem q28 {n : Nat} {A B : sm_M} (hI : InvP n A B) (hn : n < 2 ^ 29) (x0 x1 x2 x3 : Int32) (nL : Nat) : ∃ r A' B', (∀ d Q, sm_W (d + 3) 28 0 [vo 10, vi x0, vi x1, vi x2, vi x3] [] (sm_G0 nL) A Q = Q (vi r) (sm_G0 nL) A') ∧ (∀ d Q, sm_W (d + 2) 176 0 [vo 11, vi x0, vi x1, vi x2, vi x3] [] (sm_G0 nL) B Q = Q (vi r) (sm_G0 nL) B') ∧ Res n A B A' B' := by
  have hJ := hI
  obtain ⟨h_day, h_srv, h_sea, h_thg, h_tel, h_rul, h_num, h_txt, h_wrd, h_way, h_end, h_tap, h_tp3, h_sht, h_edi, h_cop, h_cor, h_act, h_cst, h_set⟩ := hJ
  obtain ⟨r, A', B', g1, g2, h⟩ := p28 h_srv h_sea h_thg x0 x1 x2 x3 nL
  refine ⟨r, A', B', g1, g2, ?_⟩
  rcases h with ⟨rfl, rfl⟩ | ⟨t, s, k, v, c, ft, rfl, rfl, tb, ht, es, hs, hk1, hk, hv, hc, hf⟩
  · exact Res_r hI
  · exact Res_th hI (fr_aA _ _ _ _ _ _) (fr_aB _ _ _ _ _ _) (J_thg_add h_thg h_day tb es ht hs hk1 hk hv hc hf) (J_tel_add h_tel tb ht (by omega) _ _ _ _) rfl
theorem q32 {n : Nat} {A B : sm_M} (hI : InvP n A B) (hn : n < 2 ^ 29) (x0 x1 x2 x3 x4 x5 x6 : Int32) (nL : Nat) : ∃ r A' B', (∀ d Q, sm_W (d + 4) 32 0 [vo 10, vi x0, vi x1, vi x2, vi x3, vi x4, vi x5, vi x6, none, none, none, none] [] (sm_G0 nL) A Q = Q (vi r) (sm_G0 nL) A') ∧ (∀ d Q, sm_W (d + 2) 180 0 [vo 11, vi x0, vi x1, vi x2, vi x3, vi x4, vi x5, vi x6, none, none, none, none, none, none, none, none, none, none] [] (sm_G0 nL) B Q = Q (vi r) (sm_G0 nL) B') ∧ Res n A B A' B' := by
  have hJ := hI
  obtain ⟨h_day, h_srv, h_sea, h_thg, h_tel, h_rul, h_num, h_txt, h_wrd, h_way, h_end, h_tap, h_tp3, h_sht, h_edi, h_cop, h_cor, h_act, h_cst, h_set⟩ := hJ
  obtain ⟨r, A', B', g1, g2, h⟩ := p32 h_srv h_sea h_thg h_tel h_day h_tap h_tp3 (by omega) x0 x1 x2 x3 x4 x5 x6 nL
  refine ⟨r, A', B', g1, g2, ?_⟩
  rcases h with ⟨rfl, rfl⟩ | ⟨w1, w2, w3, fA, fB, e2⟩
  · exact Res_r hI
  · exact ⟨inv_ln (InvP_s hI) fA fB w1 (J_tel_w w2) w3 (J_edi_C (cut_of fA (djn (fun f k h hp => by simp only [DA_edi, PA_ln, Bool.or_eq_true, Bool.and_eq_true, Nat.beq_eq, Nat.ble_eq] at h hp; omega))) (cut_pin fB (fun f k h hp => by simp only [DB_edi, PB_l2, PB_ln, X2, Bool.or_eq_true, Bool.and_eq_true, Nat.beq_eq, Nat.ble_eq] at h hp ⊢; omega)) e2 h_edi), cl_ln fA, rl_ln fB⟩
theorem q38 {n : Nat} {A B : sm_M} (hI : InvP n A B) (hn : n < 2 ^ 29) (nL : Nat) : ∃ r A' B', (∀ d Q, sm_W d 38 0 [vo 10] [] (sm_G0 nL) A Q = Q (vi r) (sm_G0 nL) A') ∧ (∀ d Q, sm_W d 181 0 [vo 11] [] (sm_G0 nL) B Q = Q (vi r) (sm_G0 nL) B') ∧ Res n A B A' B' := by
  have hJ := hI
  obtain ⟨h_day, h_srv, h_sea, h_thg, h_tel, h_rul, h_num, h_txt, h_wrd, h_way, h_end, h_tap, h_tp3, h_sht, h_edi, h_cop, h_cor, h_act, h_cst, h_set⟩ := hJ
  obtain ⟨r, g1, g2⟩ := p38 h_end nL
  exact ⟨r, A, B, g1, g2, Res_r hI⟩
theorem q39 {n : Nat} {A B : sm_M} (hI : InvP n A B) (hn : n < 2 ^ 29) (x0 x1 x2 x3 : Int32) (nL : Nat) : ∃ r A' B', (∀ d Q, sm_W (d + 1) 39 0 [vo 10, vi x0, vi x1, vi x2, vi x3] [] (sm_G0 nL) A Q = Q (vi r) (sm_G0 nL) A') ∧ (∀ d Q, sm_W (d + 2) 182 0 [vo 11, vi x0, vi x1, vi x2, vi x3] [] (sm_G0 nL) B Q = Q (vi r) (sm_G0 nL) B') ∧ Res n A B A' B' := by
  have hJ := hI
  obtain ⟨h_day, h_srv, h_sea, h_thg, h_tel, h_rul, h_num, h_txt, h_wrd, h_way, h_end, h_tap, h_tp3, h_sht, h_edi, h_cop, h_cor, h_act, h_cst, h_set⟩ := hJ
  obtain ⟨r, A', B', g1, g2, h⟩ := p39 h_srv h_thg x0 x1 x2 x3 nL
  refine ⟨r, A', B', g1, g2, ?_⟩
  rcases h with ⟨rfl, rfl⟩ | ⟨t, s, k, v, c, ft, rfl, rfl, tb, ht, es, hs, hk1, hk, hv, hc, hf⟩
  · exact Res_r hI
  · exact Res_th hI (fr_aA _ _ _ _ _ _) (fr_aB _ _ _ _ _ _) (J_thg_add h_thg h_day tb es ht hs hk1 hk hv hc hf) (J_tel_add h_tel tb ht (by omega) _ _ _ _) rfl
theorem q41 {n : Nat} {A B : sm_M} (hI : InvP n A B) (hn : n < 2 ^ 29) (x0 x1 : Int32) (nL : Nat) : ∃ r A' B', (∀ d Q, sm_W (d + 1) 41 0 [vo 10, vi x0, vi x1, none, none] [] (sm_G0 nL) A Q = Q (vi r) (sm_G0 nL) A') ∧ (∀ d Q, sm_W (d + 2) 183 0 [vo 11, vi x0, vi x1] [] (sm_G0 nL) B Q = Q (vi r) (sm_G0 nL) B') ∧ Res n A B A' B' := by
  have hJ := hI
  obtain ⟨h_day, h_srv, h_sea, h_thg, h_tel, h_rul, h_num, h_txt, h_wrd, h_way, h_end, h_tap, h_tp3, h_sht, h_edi, h_cop, h_cor, h_act, h_cst, h_set⟩ := hJ
  obtain ⟨r, A', B', g1, g2, h⟩ := p41 h_thg x0 x1 nL
  refine ⟨r, A', B', g1, g2, ?_⟩
  rcases h with ⟨rfl, rfl⟩ | hM
  · exact Res_r hI
  · have e1 := Move_thg hM h_thg h_day
    have e2 := Move_tel hM h_tel h_day (show n < 2 ^ 30 by omega)
    obtain ⟨t, s, i, v, c, rfl, rfl, -⟩ := hM
    exact Res_th hI (Fr_t (fr_aE _ _) (fr_aA _ _ _ _ _ _)) (Fr_t (fr_bE _ _) (fr_aB0 _ _ _ _ _ _)) e1 e2 rfl
theorem q45 {n : Nat} {A B : sm_M} (hI : InvP n A B) (hn : n < 2 ^ 29) (x0 : Int32) (nL : Nat) : ∃ r A' B', (∀ d Q, sm_W (d + 1) 45 0 [vo 10, vi x0, none] [] (sm_G0 nL) A Q = Q (vi r) (sm_G0 nL) A') ∧ (∀ d Q, sm_W (d + 2) 186 0 [vo 11, vi x0] [] (sm_G0 nL) B Q = Q (vi r) (sm_G0 nL) B') ∧ Res n A B A' B' := by
  have hJ := hI
  obtain ⟨h_day, h_srv, h_sea, h_thg, h_tel, h_rul, h_num, h_txt, h_wrd, h_way, h_end, h_tap, h_tp3, h_sht, h_edi, h_cop, h_cor, h_act, h_cst, h_set⟩ := hJ
  obtain ⟨r, A', B', g1, g2, h⟩ := p45 h_thg x0 nL
  refine ⟨r, A', B', g1, g2, ?_⟩
  rcases h with ⟨rfl, rfl⟩ | ⟨t, i, rfl, rfl, et, ht, hi, he⟩
  · exact Res_r hI
  · exact Res_th hI (fr_aE _ _) (fr_bE _ _) (J_thg_end h_thg h_day et ht hi) (J_tel_end h_tel h_day et ht hi he) rfl
theorem q46 {n : Nat} {A B : sm_M} (hI : InvP n A B) (hn : n < 2 ^ 29) (x0 : Int32) (nL : Nat) : ∃ r A' B', (∀ d Q, sm_W (d + 4) 46 0 [vo 10, vi x0, none] [] (sm_G0 nL) A Q = Q (vi r) (sm_G0 nL) A') ∧ (∀ d Q, sm_W (d + 4) 187 0 [vo 11, vi x0] [] (sm_G0 nL) B Q = Q (vi r) (sm_G0 nL) B') ∧ Res n A B A' B' := by
  have hJ := hI
  obtain ⟨h_day, h_srv, h_sea, h_thg, h_tel, h_rul, h_num, h_txt, h_wrd, h_way, h_end, h_tap, h_tp3, h_sht, h_edi, h_cop, h_cor, h_act, h_cst, h_set⟩ := hJ
  obtain ⟨r, g1, g2⟩ := p46 h_day h_srv h_thg h_rul x0 nL
  exact ⟨r, A, B, g1, g2, Res_r hI⟩
theorem q55 {n : Nat} {A B : sm_M} (hI : InvP n A B) (hn : n < 2 ^ 29) (x0 x1 : Int32) (nL : Nat) : ∃ r A' B', (∀ d Q, sm_W (d + 4) 55 0 [vo 10, vi x0, vi x1, none, none] [] (sm_G0 nL) A Q = Q (vi r) (sm_G0 nL) A') ∧ (∀ d Q, sm_W (d + 4) 194 0 [vo 11, vi x0, vi x1] [] (sm_G0 nL) B Q = Q (vi r) (sm_G0 nL) B') ∧ Res n A B A' B' := by
  have hJ := hI
  obtain ⟨h_day, h_srv, h_sea, h_thg, h_tel, h_rul, h_num, h_txt, h_wrd, h_way, h_end, h_tap, h_tp3, h_sht, h_edi, h_cop, h_cor, h_act, h_cst, h_set⟩ := hJ
  obtain ⟨r, A', B', g1, g2, h⟩ := p55 h_day h_srv h_thg h_rul x0 x1 nL
  refine ⟨r, A', B', g1, g2, ?_⟩
  rcases h with ⟨rfl, rfl⟩ | hM
  · exact Res_r hI
  · have e1 := EAdd_thg hM h_thg h_day
    have e2 := EAdd_tel hM h_tel h_day (show n < 2 ^ 30 by omega)
    obtain ⟨t, s, i, k, v, c, ft, rfl, rfl, -⟩ := hM
    exact Res_th hI (Fr_t (fr_aE _ _) (fr_aA _ _ _ _ _ _)) (Fr_t (fr_bE _ _) (fr_aB0 _ _ _ _ _ _)) e1 e2 rfl
theorem q56 {n : Nat} {A B : sm_M} (hI : InvP n A B) (hn : n < 2 ^ 29) (x0 x1 : Int32) (nL : Nat) : ∃ r A' B', (∀ d Q, sm_W (d + 1) 56 0 [vo 10, vi x0, vi x1, none] [] (sm_G0 nL) A Q = Q (vi r) (sm_G0 nL) A') ∧ (∀ d Q, sm_W (d + 2) 195 0 [vo 11, vi x0, vi x1] [] (sm_G0 nL) B Q = Q (vi r) (sm_G0 nL) B') ∧ Res n A B A' B' := by
  have hJ := hI
  obtain ⟨h_day, h_srv, h_sea, h_thg, h_tel, h_rul, h_num, h_txt, h_wrd, h_way, h_end, h_tap, h_tp3, h_sht, h_edi, h_cop, h_cor, h_act, h_cst, h_set⟩ := hJ
  obtain ⟨r, g1, g2⟩ := p56 h_thg x0 x1 nL
  exact ⟨r, A, B, g1, g2, Res_r hI⟩
theorem q57 {n : Nat} {A B : sm_M} (hI : InvP n A B) (hn : n < 2 ^ 29) (x0 x1 : Int32) (nL : Nat) : ∃ r A' B', (∀ d Q, sm_W (d + 1) 57 0 [vo 10, vi x0, vi x1] [] (sm_G0 nL) A Q = Q (vi r) (sm_G0 nL) A') ∧ (∀ d Q, sm_W (d + 1) 196 0 [vo 11, vi x0, vi x1, none] [] (sm_G0 nL) B Q = Q (vi r) (sm_G0 nL) B') ∧ Res n A B A' B' := by
  have hJ := hI
  obtain ⟨h_day, h_srv, h_sea, h_thg, h_tel, h_rul, h_num, h_txt, h_wrd, h_way, h_end, h_tap, h_tp3, h_sht, h_edi, h_cop, h_cor, h_act, h_cst, h_set⟩ := hJ
  obtain ⟨r, A', B', g1, g2, h, fA, fB⟩ := p57 h_txt x0 x1 nL
  exact ⟨r, A', B', g1, g2, InvP_s (inv_tx hI fA fB h), cl_tx fA, rl_tx fB⟩
theorem q59 {n : Nat} {A B : sm_M} (hI : InvP n A B) (hn : n < 2 ^ 29) (x0 : Int32) (nL : Nat) : ∃ r A' B', (∀ d Q, sm_W (d + 6) 59 0 [vo 10, vi x0] [] (sm_G0 nL) A Q = Q (vi r) (sm_G0 nL) A') ∧ (∀ d Q, sm_W (d + 3) 197 0 [vo 11, vi x0, none, none] [] (sm_G0 nL) B Q = Q (vi r) (sm_G0 nL) B') ∧ Res n A B A' B' := by
  have hJ := hI
  obtain ⟨h_day, h_srv, h_sea, h_thg, h_tel, h_rul, h_num, h_txt, h_wrd, h_way, h_end, h_tap, h_tp3, h_sht, h_edi, h_cop, h_cor, h_act, h_cst, h_set⟩ := hJ
  obtain ⟨r, A', B', g1, g2, w1, w2, w3, w4, fA, fB⟩ := p59 h_rul h_num h_txt h_wrd x0 nL
  exact ⟨r, A', B', g1, g2, InvP_s (inv_ru hI fA fB w1 w2 w3), cl_ru fA, rl_ru fB⟩
theorem q74 {n : Nat} {A B : sm_M} (hI : InvP n A B) (hn : n < 2 ^ 29) (x0 x1 : Int32) (nL : Nat) : ∃ r A' B', (∀ d Q, sm_W (d + 1) 74 0 [vo 10, vi x0, vi x1, none] [] (sm_G0 nL) A Q = Q (vi r) (sm_G0 nL) A') ∧ (∀ d Q, sm_W (d + 2) 208 0 [vo 11, vi x0, vi x1] [] (sm_G0 nL) B Q = Q (vi r) (sm_G0 nL) B') ∧ Res n A B A' B' := by
  have hJ := hI
  obtain ⟨h_day, h_srv, h_sea, h_thg, h_tel, h_rul, h_num, h_txt, h_wrd, h_way, h_end, h_tap, h_tp3, h_sht, h_edi, h_cop, h_cor, h_act, h_cst, h_set⟩ := hJ
  obtain ⟨r, g1, g2⟩ := p74 h_rul x0 x1 nL
  exact ⟨r, A, B, g1, g2, Res_r hI⟩
theorem q75 {n : Nat} {A B : sm_M} (hI : InvP n A B) (hn : n < 2 ^ 29) (x0 x1 x2 : Int32) (nL : Nat) : ∃ r A' B', (∀ d Q, sm_W (d + 2) 75 0 [vo 10, vi x0, vi x1, vi x2] [] (sm_G0 nL) A Q = Q (vi r) (sm_G0 nL) A') ∧ (∀ d Q, sm_W (d + 3) 211 0 [vo 11, vi x0, vi x1, vi x2] [] (sm_G0 nL) B Q = Q (vi r) (sm_G0 nL) B') ∧ Res n A B A' B' := by
  have hJ := hI
  obtain ⟨h_day, h_srv, h_sea, h_thg, h_tel, h_rul, h_num, h_txt, h_wrd, h_way, h_end, h_tap, h_tp3, h_sht, h_edi, h_cop, h_cor, h_act, h_cst, h_set⟩ := hJ
  obtain ⟨r, g1, g2⟩ := p75 h_srv h_rul x0 x1 x2 nL
  exact ⟨r, A, B, g1, g2, Res_r hI⟩
theorem q78 {n : Nat} {A B : sm_M} (hI : InvP n A B) (hn : n < 2 ^ 29) (x0 x1 x2 : Int32) (nL : Nat) : ∃ r A' B', (∀ d Q, sm_W (d + 5) 78 0 [vo 10, vi x0, vi x1, vi x2] [] (sm_G0 nL) A Q = Q (vi r) (sm_G0 nL) A') ∧ (∀ d Q, sm_W (d + 5) 214 0 [vo 11, vi x0, vi x1, vi x2] [] (sm_G0 nL) B Q = Q (vi r) (sm_G0 nL) B') ∧ Res n A B A' B' := by
  have hJ := hI
  obtain ⟨h_day, h_srv, h_sea, h_thg, h_tel, h_rul, h_num, h_txt, h_wrd, h_way, h_end, h_tap, h_tp3, h_sht, h_edi, h_cop, h_cor, h_act, h_cst, h_set⟩ := hJ
  obtain ⟨r, A', B', g1, g2, fA, fB⟩ := p78 h_srv h_thg h_rul x0 x1 x2 nL
  have fA' := w_sc (sA2_w fA)
  have fB' := sB2_w fB
  exact ⟨r, A', B', g1, g2, InvP_s (inv_sc hI fA' fB'), cl_sc fA', rl_sc fB'⟩
theorem q90 {n : Nat} {A B : sm_M} (hI : InvP n A B) (hn : n < 2 ^ 29) (x0 x1 x2 x3 : Int32) (nL : Nat) : ∃ r A' B', (∀ d Q, sm_W (d + 1) 90 0 [vo 10, vi x0, vi x1, vi x2, vi x3] [] (sm_G0 nL) A Q = Q (vi r) (sm_G0 nL) A') ∧ (∀ d Q, sm_W (d + 2) 218 0 [vo 11, vi x0, vi x1, vi x2, vi x3] [] (sm_G0 nL) B Q = Q (vi r) (sm_G0 nL) B') ∧ Res n A B A' B' := by
  have hJ := hI
  obtain ⟨h_day, h_srv, h_sea, h_thg, h_tel, h_rul, h_num, h_txt, h_wrd, h_way, h_end, h_tap, h_tp3, h_sht, h_edi, h_cop, h_cor, h_act, h_cst, h_set⟩ := hJ
  obtain ⟨r, A', B', g1, g2, h⟩ := p90 h_sht x0 x1 x2 x3 nL
  refine ⟨r, A', B', g1, g2, ?_⟩
  rcases h with ⟨rfl, rfl⟩ | ⟨fA, fB, hS, S, hS16, s1, s2⟩
  · exact Res_r hI
  · have s3 : A' 10 0 5 = B' 11 0 38 := by
      obtain ⟨S', -, e1, e2, -⟩ := hS
      exact e1.trans e2.symm
    exact ⟨InvP_s (inv_sh hI fA fB hS (J_edi_S (cut_pin fA (fun f k h hp => by simp only [DA_edi, PA_sht, X105, Bool.or_eq_true, Bool.and_eq_true, Nat.beq_eq, Nat.ble_eq] at h hp ⊢; omega)) (cut_pin fB (fun f k h hp => by simp only [DB_edi, PB_sht, X38, Bool.or_eq_true, Bool.and_eq_true, Nat.beq_eq, Nat.ble_eq] at h hp ⊢; omega)) hS16 s1 s2 s3 h_edi)), cl_sh fA, rl_sh fB⟩
theorem q93 {n : Nat} {A B : sm_M} (hI : InvP n A B) (hn : n < 2 ^ 29) (x0 x1 : Int32) (nL : Nat) : ∃ r A' B', (∀ d Q, sm_W (d + 6) 93 0 [vo 10, vi x0, vi x1, none] [] (sm_G0 nL) A Q = Q (vi r) (sm_G0 nL) A') ∧ (∀ d Q, sm_W (d + 7) 219 0 [vo 11, vi x0, vi x1] [] (sm_G0 nL) B Q = Q (vi r) (sm_G0 nL) B') ∧ Res n A B A' B' := by
  have hJ := hI
  obtain ⟨h_day, h_srv, h_sea, h_thg, h_tel, h_rul, h_num, h_txt, h_wrd, h_way, h_end, h_tap, h_tp3, h_sht, h_edi, h_cop, h_cor, h_act, h_cst, h_set⟩ := hJ
  obtain ⟨r, A', B', g1, g2, fA, fB⟩ := p93 h_srv h_thg h_rul h_num h_sht x0 x1 nL
  have fA' := w_sc fA
  have fB' := fB
  exact ⟨r, A', B', g1, g2, InvP_s (inv_sc hI fA' fB'), cl_sc fA', rl_sc fB'⟩
theorem q102 {n : Nat} {A B : sm_M} (hI : InvP n A B) (hn : n < 2 ^ 29) (x0 x1 : Int32) (nL : Nat) : ∃ r A' B', (∀ d Q, sm_W (d + 6) 102 0 [vo 10, vi x0, vi x1, none] [] (sm_G0 nL) A Q = Q (vi r) (sm_G0 nL) A') ∧ (∀ d Q, sm_W (d + 6) 227 0 [vo 11, vi x0, vi x1] [] (sm_G0 nL) B Q = Q (vi r) (sm_G0 nL) B') ∧ Res n A B A' B' := by
  have hJ := hI
  obtain ⟨h_day, h_srv, h_sea, h_thg, h_tel, h_rul, h_num, h_txt, h_wrd, h_way, h_end, h_tap, h_tp3, h_sht, h_edi, h_cop, h_cor, h_act, h_cst, h_set⟩ := hJ
  obtain ⟨r, A', B', g1, g2, fA, fB⟩ := p102 h_day h_srv h_thg h_rul h_num h_sht x0 x1 nL
  have fA' := w_sc fA
  have fB' := fB
  exact ⟨r, A', B', g1, g2, InvP_s (inv_sc hI fA' fB'), cl_sc fA', rl_sc fB'⟩
theorem q103 {n : Nat} {A B : sm_M} (hI : InvP n A B) (hn : n < 2 ^ 29) (x0 : Int32) (nL : Nat) : ∃ r A' B', (∀ d Q, sm_W (d + 6) 103 0 [vo 10, vi x0, none] [] (sm_G0 nL) A Q = Q (vi r) (sm_G0 nL) A') ∧ (∀ d Q, sm_W (d + 7) 228 0 [vo 11, vi x0, none, none, none] [] (sm_G0 nL) B Q = Q (vi r) (sm_G0 nL) B') ∧ Res n A B A' B' := by
  have hJ := hI
  obtain ⟨h_day, h_srv, h_sea, h_thg, h_tel, h_rul, h_num, h_txt, h_wrd, h_way, h_end, h_tap, h_tp3, h_sht, h_edi, h_cop, h_cor, h_act, h_cst, h_set⟩ := hJ
  obtain ⟨r, A', B', g1, g2, h⟩ := p103 h_day h_srv h_thg h_rul h_num h_sht h_tel h_edi hn x0 nL
  refine ⟨r, A', B', g1, g2, ?_⟩
  rcases h with ⟨rfl, rfl⟩ | ⟨fA, fB, e2, hE, E, k, hE60, s1, s2, -, -⟩
  · exact Res_r hI
  · exact ⟨inv_ed (InvP_s hI) fA fB hE (J_tel_C (cut_of fA (djn (fun f k h hp => by simp only [DA_tel, PA_ed, sA2, scA, Bool.or_eq_true, Bool.and_eq_true, Nat.beq_eq, Nat.ble_eq] at h hp; omega))) (cut_pin fB (fun f k h hp => by simp only [DB_tel, PB_ed, sB2, scB, X2, Bool.or_eq_true, Bool.and_eq_true, Nat.beq_eq, Nat.ble_eq] at h hp ⊢; omega)) e2 h_tel) (J_cop_E (cut_of fA (djn (fun f k h hp => by simp only [DA_cop, PA_ed, sA2, scA, Bool.or_eq_true, Bool.and_eq_true, Nat.beq_eq, Nat.ble_eq] at h hp; omega))) (cut_pin fB (fun f k h hp => by simp only [DB_cop, PB_ed, sB2, scB, X44, Bool.or_eq_true, Bool.and_eq_true, Nat.beq_eq, Nat.ble_eq] at h hp ⊢; omega)) hE60 s1 s2 h_cop), cl_ed fA, rl_ed fB⟩
theorem q107 {n : Nat} {A B : sm_M} (hI : InvP n A B) (hn : n < 2 ^ 29) (x0 x1 : Int32) (nL : Nat) : ∃ r A' B', (∀ d Q, sm_W (d + 3) 107 0 [vo 10, vi x0, vi x1, none] [] (sm_G0 nL) A Q = Q (vi r) (sm_G0 nL) A') ∧ (∀ d Q, sm_W (d + 2) 230 0 [vo 11, vi x0, vi x1, none] [] (sm_G0 nL) B Q = Q (vi r) (sm_G0 nL) B') ∧ Res n A B A' B' := by
  have hJ := hI
  obtain ⟨h_day, h_srv, h_sea, h_thg, h_tel, h_rul, h_num, h_txt, h_wrd, h_way, h_end, h_tap, h_tp3, h_sht, h_edi, h_cop, h_cor, h_act, h_cst, h_set⟩ := hJ
  obtain ⟨r, g1, g2⟩ := p107 h_sht h_edi x0 x1 nL
  exact ⟨r, A, B, g1, g2, Res_r hI⟩
theorem q110 {n : Nat} {A B : sm_M} (hI : InvP n A B) (hn : n < 2 ^ 29) (x0 : Int32) (nL : Nat) : ∃ r A' B', (∀ d Q, sm_W (d + 1) 110 0 [vo 10, vi x0, none] [] (sm_G0 nL) A Q = Q (vi r) (sm_G0 nL) A') ∧ (∀ d Q, sm_W (d + 2) 232 0 [vo 11, vi x0] [] (sm_G0 nL) B Q = Q (vi r) (sm_G0 nL) B') ∧ Res n A B A' B' := by
  have hJ := hI
  obtain ⟨h_day, h_srv, h_sea, h_thg, h_tel, h_rul, h_num, h_txt, h_wrd, h_way, h_end, h_tap, h_tp3, h_sht, h_edi, h_cop, h_cor, h_act, h_cst, h_set⟩ := hJ
  obtain ⟨r, g1, g2⟩ := p110 h_edi x0 nL
  exact ⟨r, A, B, g1, g2, Res_r hI⟩
theorem q111 {n : Nat} {A B : sm_M} (hI : InvP n A B) (hn : n < 2 ^ 29) (nL : Nat) : ∃ r A' B', (∀ d Q, sm_W (d + 3) 111 0 [vo 10] [] (sm_G0 nL) A Q = Q (vi r) (sm_G0 nL) A') ∧ (∀ d Q, sm_W (d + 2) 233 0 [vo 11, none, none, none, none] [] (sm_G0 nL) B Q = Q (vi r) (sm_G0 nL) B') ∧ Res n A B A' B' := by
  have hJ := hI
  obtain ⟨h_day, h_srv, h_sea, h_thg, h_tel, h_rul, h_num, h_txt, h_wrd, h_way, h_end, h_tap, h_tp3, h_sht, h_edi, h_cop, h_cor, h_act, h_cst, h_set⟩ := hJ
  obtain ⟨r, A', B', g1, g2, h⟩ := p111 h_day h_thg h_rul h_tel hn nL
  refine ⟨r, A', B', g1, g2, ?_⟩
  rcases h with ⟨rfl, rfl⟩ | ⟨q, C, hq, hC, q1, c1, q2, c2, m1, m2, fA, fB, w1, w2⟩
  · exact Res_r hI
  · exact ⟨inv_nt (InvP_s hI) fA fB w1 w2 (J_edi_q (cut_of fA (djn (fun f k h hp => by simp only [DA_edi, PA_ntc, PA_nt0, Bool.or_eq_true, Bool.and_eq_true, Nat.beq_eq, Nat.ble_eq] at h hp; omega))) (cut_pin fB (fun f k h hp => by simp only [DB_edi, PB_ntc, PB_nt0, Xn, Bool.or_eq_true, Bool.and_eq_true, Nat.beq_eq, Nat.ble_eq] at h hp ⊢; omega)) hq hC (by omega) q1 c1 q2 c2 m1 m2 h_edi), cl_nt fA, rl_nt fB⟩
theorem q114 {n : Nat} {A B : sm_M} (hI : InvP n A B) (hn : n < 2 ^ 29) (x0 x1 : Int32) (nL : Nat) : ∃ r A' B', (∀ d Q, sm_W (d + 2) 114 0 [vo 10, vi x0, vi x1] [] (sm_G0 nL) A Q = Q (vi r) (sm_G0 nL) A') ∧ (∀ d Q, sm_W (d + 2) 236 0 [vo 11, vi x0, vi x1, none, none] [] (sm_G0 nL) B Q = Q (vi r) (sm_G0 nL) B') ∧ Res n A B A' B' := by
  have hJ := hI
  obtain ⟨h_day, h_srv, h_sea, h_thg, h_tel, h_rul, h_num, h_txt, h_wrd, h_way, h_end, h_tap, h_tp3, h_sht, h_edi, h_cop, h_cor, h_act, h_cst, h_set⟩ := hJ
  obtain ⟨r, g1, g2⟩ := p114 h_tel x0 x1 nL
  exact ⟨r, A, B, g1, g2, Res_r hI⟩
theorem q116 {n : Nat} {A B : sm_M} (hI : InvP n A B) (hn : n < 2 ^ 29) (nL : Nat) : ∃ r A' B', (∀ d Q, sm_W (d + 2) 116 0 [vo 10] [] (sm_G0 nL) A Q = Q (vi r) (sm_G0 nL) A') ∧ (∀ d Q, sm_W (d + 2) 238 0 [vo 11, none, none] [] (sm_G0 nL) B Q = Q (vi r) (sm_G0 nL) B') ∧ Res n A B A' B' := by
  have hJ := hI
  obtain ⟨h_day, h_srv, h_sea, h_thg, h_tel, h_rul, h_num, h_txt, h_wrd, h_way, h_end, h_tap, h_tp3, h_sht, h_edi, h_cop, h_cor, h_act, h_cst, h_set⟩ := hJ
  obtain ⟨r, g1, g2⟩ := p116 h_tel h_thg h_rul nL
  exact ⟨r, A, B, g1, g2, Res_r hI⟩
theorem q118 {n : Nat} {A B : sm_M} (hI : InvP n A B) (hn : n < 2 ^ 29) (x0 : Int32) (nL : Nat) : ∃ r A' B', (∀ d Q, sm_W (d + 1) 118 0 [vo 10, vi x0, none] [] (sm_G0 nL) A Q = Q (vi r) (sm_G0 nL) A') ∧ (∀ d Q, sm_W (d + 2) 239 0 [vo 11, vi x0, none] [] (sm_G0 nL) B Q = Q (vi r) (sm_G0 nL) B') ∧ Res n A B A' B' := by
  have hJ := hI
  obtain ⟨h_day, h_srv, h_sea, h_thg, h_tel, h_rul, h_num, h_txt, h_wrd, h_way, h_end, h_tap, h_tp3, h_sht, h_edi, h_cop, h_cor, h_act, h_cst, h_set⟩ := hJ
  obtain ⟨r, A', B', g1, g2, h⟩ := p118 h_day h_edi h_cop x0 nL
  refine ⟨r, A', B', g1, g2, ?_⟩
  rcases h with ⟨rfl, rfl⟩ | ⟨fA, fB, hP⟩
  · exact Res_r hI
  · exact ⟨InvP_s (inv_co hI fA fB hP), cl_co fA, rl_co fB⟩
theorem q120 {n : Nat} {A B : sm_M} (hI : InvP n A B) (hn : n < 2 ^ 29) (x0 x1 : Int32) (nL : Nat) : ∃ r A' B', (∀ d Q, sm_W (d + 1) 120 0 [vo 10, vi x0, vi x1, none] [] (sm_G0 nL) A Q = Q (vi r) (sm_G0 nL) A') ∧ (∀ d Q, sm_W (d + 2) 240 0 [vo 11, vi x0, vi x1] [] (sm_G0 nL) B Q = Q (vi r) (sm_G0 nL) B') ∧ Res n A B A' B' := by
  have hJ := hI
  obtain ⟨h_day, h_srv, h_sea, h_thg, h_tel, h_rul, h_num, h_txt, h_wrd, h_way, h_end, h_tap, h_tp3, h_sht, h_edi, h_cop, h_cor, h_act, h_cst, h_set⟩ := hJ
  obtain ⟨r, A', B', g1, g2, h⟩ := p120 h_day h_tel h_cop h_cor x0 x1 nL
  refine ⟨r, A', B', g1, g2, ?_⟩
  rcases h with ⟨rfl, rfl⟩ | ⟨fA, fB, hP⟩
  · exact Res_r hI
  · exact ⟨InvP_s (inv_cr hI fA fB hP), cl_cr fA, rl_cr fB⟩
theorem q124 {n : Nat} {A B : sm_M} (hI : InvP n A B) (hn : n < 2 ^ 29) (x0 x1 x2 : Int32) (nL : Nat) : ∃ r A' B', (∀ d Q, sm_W (d + 4) 124 0 [vo 10, vi x0, vi x1, vi x2, none] [] (sm_G0 nL) A Q = Q (vi r) (sm_G0 nL) A') ∧ (∀ d Q, sm_W (d + 3) 243 0 [vo 11, vi x0, vi x1, vi x2] [] (sm_G0 nL) B Q = Q (vi r) (sm_G0 nL) B') ∧ Res n A B A' B' := by
  have hJ := hI
  obtain ⟨h_day, h_srv, h_sea, h_thg, h_tel, h_rul, h_num, h_txt, h_wrd, h_way, h_end, h_tap, h_tp3, h_sht, h_edi, h_cop, h_cor, h_act, h_cst, h_set⟩ := hJ
  obtain ⟨r, g1, g2⟩ := p124 h_srv h_thg h_tel h_sht h_edi h_cop h_cor x0 x1 x2 nL
  exact ⟨r, A, B, g1, g2, Res_r hI⟩
theorem q129 {n : Nat} {A B : sm_M} (hI : InvP n A B) (hn : n < 2 ^ 29) (x0 x1 x2 : Int32) (nL : Nat) : ∃ r A' B', (∀ d Q, sm_W (d + 5) 129 0 [vo 10, vi x0, vi x1, vi x2, none, none, none, none, none] [] (sm_G0 nL) A Q = Q (vi r) (sm_G0 nL) A') ∧ (∀ d Q, sm_W (d + 5) 246 0 [vo 11, vi x0, vi x1, vi x2, none, none, none, none] [] (sm_G0 nL) B Q = Q (vi r) (sm_G0 nL) B') ∧ Res n A B A' B' := by
  have hJ := hI
  obtain ⟨h_day, h_srv, h_sea, h_thg, h_tel, h_rul, h_num, h_txt, h_wrd, h_way, h_end, h_tap, h_tp3, h_sht, h_edi, h_cop, h_cor, h_act, h_cst, h_set⟩ := hJ
  obtain ⟨r, A', B', g1, g2, fA, fB⟩ := p129 h_day h_srv h_thg h_rul h_tel h_sht h_edi h_cop h_cor x0 x1 x2 nL
  have fA' := w_sc (sA2_w fA)
  have fB' := sB2_w fB
  exact ⟨r, A', B', g1, g2, InvP_s (inv_sc hI fA' fB'), cl_sc fA', rl_sc fB'⟩
theorem q130 {n : Nat} {A B : sm_M} (hI : InvP n A B) (hn : n < 2 ^ 29) (x0 : Int32) (nL : Nat) : ∃ r A' B', (∀ d Q, sm_W (d + 2) 130 0 [vo 10, vi x0] [] (sm_G0 nL) A Q = Q (vi r) (sm_G0 nL) A') ∧ (∀ d Q, sm_W (d + 2) 247 0 [vo 11, vi x0] [] (sm_G0 nL) B Q = Q (vi r) (sm_G0 nL) B') ∧ Res n A B A' B' := by
  have hJ := hI
  obtain ⟨h_day, h_srv, h_sea, h_thg, h_tel, h_rul, h_num, h_txt, h_wrd, h_way, h_end, h_tap, h_tp3, h_sht, h_edi, h_cop, h_cor, h_act, h_cst, h_set⟩ := hJ
  obtain ⟨r, A', B', g1, g2, h⟩ := p130 h_way x0 nL
  refine ⟨r, A', B', g1, g2, ?_⟩
  rcases h with ⟨rfl, rfl⟩ | ⟨m, c, v, rfl, rfl, hd⟩
  · exact Res_r hI
  · exact ⟨InvP_s (inv_wy hI (Fr_u (Fr_u (Fr_r _ _) rfl) rfl) (Fr_u (Fr_u (Fr_r _ _) rfl) rfl) hd), cl_wy (Fr_u (Fr_u (Fr_r _ _) rfl) rfl), rl_wy (Fr_u (Fr_u (Fr_r _ _) rfl) rfl)⟩
theorem q131 {n : Nat} {A B : sm_M} (hI : InvP n A B) (hn : n < 2 ^ 29) (nL : Nat) : ∃ r A' B', (∀ d Q, sm_W d 131 0 [vo 10, none] [] (sm_G0 nL) A Q = Q (vi r) (sm_G0 nL) A') ∧ (∀ d Q, sm_W d 248 0 [vo 11, none] [] (sm_G0 nL) B Q = Q (vi r) (sm_G0 nL) B') ∧ Res n A B A' B' := by
  have hJ := hI
  obtain ⟨h_day, h_srv, h_sea, h_thg, h_tel, h_rul, h_num, h_txt, h_wrd, h_way, h_end, h_tap, h_tp3, h_sht, h_edi, h_cop, h_cor, h_act, h_cst, h_set⟩ := hJ
  obtain ⟨r, A', B', g1, g2, ea, eb, hd⟩ := p131 h_way nL
  have fA : Fr PA_wy A A' := by rw [ea]; exact (Fr_u (Fr_r _ _) rfl)
  have fB : Fr PB_wy B B' := by rw [eb]; exact (Fr_u (Fr_r _ _) rfl)
  exact ⟨r, A', B', g1, g2, InvP_s (inv_wy hI fA fB hd), cl_wy fA, rl_wy fB⟩
theorem q132 {n : Nat} {A B : sm_M} (hI : InvP n A B) (hn : n < 2 ^ 29) (x0 x1 x2 x3 : Int32) (nL : Nat) : ∃ r A' B', (∀ d Q, sm_W (d + 5) 132 0 [vo 10, vi x0, vi x1, vi x2, vi x3, none] [] (sm_G0 nL) A Q = Q (vi r) (sm_G0 nL) A') ∧ (∀ d Q, sm_W (d + 4) 249 0 [vo 11, vi x0, vi x1, vi x2, vi x3, none, none, none, none, none, none] [] (sm_G0 nL) B Q = Q (vi r) (sm_G0 nL) B') ∧ Res n A B A' B' := by
  have hJ := hI
  obtain ⟨h_day, h_srv, h_sea, h_thg, h_tel, h_rul, h_num, h_txt, h_wrd, h_way, h_end, h_tap, h_tp3, h_sht, h_edi, h_cop, h_cor, h_act, h_cst, h_set⟩ := hJ
  obtain ⟨r, g1, g2⟩ := p132 h_day h_sea h_srv h_thg h_tel h_sht h_edi h_cop h_cor h_way x0 x1 x2 x3 nL
  exact ⟨r, A, B, g1, g2, Res_r hI⟩
theorem q136 {n : Nat} {A B : sm_M} (hI : InvP n A B) (hn : n < 2 ^ 29) (x0 x1 : Int32) (nL : Nat) : ∃ r A' B', (∀ d Q, sm_W (d + 5) 136 0 [vo 10, vi x0, vi x1] [] (sm_G0 nL) A Q = Q (vi r) (sm_G0 nL) A') ∧ (∀ d Q, sm_W (d + 5) 251 0 [vo 11, vi x0, vi x1] [] (sm_G0 nL) B Q = Q (vi r) (sm_G0 nL) B') ∧ Res n A B A' B' := by
  have hJ := hI
  obtain ⟨h_day, h_srv, h_sea, h_thg, h_tel, h_rul, h_num, h_txt, h_wrd, h_way, h_end, h_tap, h_tp3, h_sht, h_edi, h_cop, h_cor, h_act, h_cst, h_set⟩ := hJ
  obtain ⟨r, B', g1, g2, fB⟩ := p136 h_day h_sea h_srv h_thg h_rul x0 x1 nL
  have fA' : Fr PA_sc A A := Fr_r _ _
  exact ⟨r, A, B', g1, g2, InvP_s (inv_sc hI fA' fB), cl_sc fA', rl_sc fB⟩
theorem q143 {n : Nat} {A B : sm_M} (hI : InvP n A B) (hn : n < 2 ^ 29) (x0 x1 : Int32) (nL : Nat) : ∃ r A' B', (∀ d Q, sm_W (d + 6) 143 0 [vo 10, vi x0, vi x1, none] [] (sm_G0 nL) A Q = Q (vi r) (sm_G0 nL) A') ∧ (∀ d Q, sm_W (d + 5) 253 0 [vo 11, vi x0, vi x1, none, none, none, none, none, none, none] [] (sm_G0 nL) B Q = Q (vi r) (sm_G0 nL) B') ∧ Res n A B A' B' := by
  have hJ := hI
  obtain ⟨h_day, h_srv, h_sea, h_thg, h_tel, h_rul, h_num, h_txt, h_wrd, h_way, h_end, h_tap, h_tp3, h_sht, h_edi, h_cop, h_cor, h_act, h_cst, h_set⟩ := hJ
  obtain ⟨r, A', B', g1, g2, fA, fB⟩ := p143 h_day h_sea h_srv h_thg h_rul h_set x0 x1 nL
  have fA' := w_pl fA
  have fB' := fB
  exact ⟨r, A', B', g1, g2, InvP_s (inv_sc hI fA' fB'), cl_sc fA', rl_sc fB'⟩
theorem q146 {n : Nat} {A B : sm_M} (hI : InvP n A B) (hn : n < 2 ^ 29) (x0 x1 x2 : Int32) (nL : Nat) : ∃ r A' B', (∀ d Q, sm_W (d + 10) 146 0 [vo 10, vi x0, vi x1, vi x2] [] (sm_G0 nL) A Q = Q (vi r) (sm_G0 nL) A') ∧ (∀ d Q, sm_W (d + 9) 254 0 [vo 11, vi x0, vi x1, vi x2] [] (sm_G0 nL) B Q = Q (vi r) (sm_G0 nL) B') ∧ Res n A B A' B' := by
  have hJ := hI
  obtain ⟨h_day, h_srv, h_sea, h_thg, h_tel, h_rul, h_num, h_txt, h_wrd, h_way, h_end, h_tap, h_tp3, h_sht, h_edi, h_cop, h_cor, h_act, h_cst, h_set⟩ := hJ
  obtain ⟨r, l, hl, g1, g2⟩ := p146 h_thg h_cst x0 x1 x2 nL
  exact ⟨r, mA A l, mB B l, g1, g2, InvP_s (inv_ac hI (mA_fr A l) (mB_fr B l) (J_act_m A B l hl)), cl_ac (mA_fr A l), rl_ac (mB_fr B l)⟩
theorem q152 {n : Nat} {A B : sm_M} (hI : InvP n A B) (hn : n < 2 ^ 29) (x0 : Int32) (nL : Nat) : ∃ r A' B', (∀ d Q, sm_W (d + 1) 152 0 [vo 10, vi x0] [] (sm_G0 nL) A Q = Q (vi r) (sm_G0 nL) A') ∧ (∀ d Q, sm_W d 267 0 [vo 11, vi x0] [] (sm_G0 nL) B Q = Q (vi r) (sm_G0 nL) B') ∧ Res n A B A' B' := by
  have hJ := hI
  obtain ⟨h_day, h_srv, h_sea, h_thg, h_tel, h_rul, h_num, h_txt, h_wrd, h_way, h_end, h_tap, h_tp3, h_sht, h_edi, h_cop, h_cor, h_act, h_cst, h_set⟩ := hJ
  obtain ⟨r, g1, g2⟩ := p152 h_act x0 nL
  exact ⟨r, A, B, g1, g2, Res_r hI⟩
theorem q154 {n : Nat} {A B : sm_M} (hI : InvP n A B) (hn : n < 2 ^ 29) (x0 x1 : Int32) (nL : Nat) : ∃ r A' B', (∀ d Q, sm_W (d + 2) 154 0 [vo 10, vi x0, vi x1, none] [] (sm_G0 nL) A Q = Q (vi r) (sm_G0 nL) A') ∧ (∀ d Q, sm_W (d + 2) 268 0 [vo 11, vi x0, vi x1] [] (sm_G0 nL) B Q = Q (vi r) (sm_G0 nL) B') ∧ Res n A B A' B' := by
  have hJ := hI
  obtain ⟨h_day, h_srv, h_sea, h_thg, h_tel, h_rul, h_num, h_txt, h_wrd, h_way, h_end, h_tap, h_tp3, h_sht, h_edi, h_cop, h_cor, h_act, h_cst, h_set⟩ := hJ
  obtain ⟨r, g1, g2⟩ := p154 h_thg h_cst x0 x1 nL
  exact ⟨r, A, B, g1, g2, Res_r hI⟩
theorem q156 {n : Nat} {A B : sm_M} (hI : InvP n A B) (hn : n < 2 ^ 29) (x0 : Int32) (nL : Nat) : ∃ r A' B', (∀ d Q, sm_W d 156 0 [vo 10, vi x0] [] (sm_G0 nL) A Q = Q (vi r) (sm_G0 nL) A') ∧ (∀ d Q, sm_W d 269 0 [vo 11, vi x0] [] (sm_G0 nL) B Q = Q (vi r) (sm_G0 nL) B') ∧ Res n A B A' B' := by
  have hJ := hI
  obtain ⟨h_day, h_srv, h_sea, h_thg, h_tel, h_rul, h_num, h_txt, h_wrd, h_way, h_end, h_tap, h_tp3, h_sht, h_edi, h_cop, h_cor, h_act, h_cst, h_set⟩ := hJ
  obtain ⟨t, s, -, -, t1, t2, -⟩ := h_thg
  obtain ⟨u1, -, r1, r2, -⟩ := h_rul
  obtain ⟨u2, -, s1, s2, -⟩ := h_sht
  obtain ⟨u3, u4, u5, u6, -, -, -, -, e1, e2, -⟩ := h_edi
  obtain ⟨u7, u8, u9, v0, -, -, -, -, -, n1, n2, -⟩ := h_tel
  obtain ⟨v1, v2, -, c1, c2, -⟩ := h_cop
  obtain ⟨v3, -, k1, k2, -⟩ := h_cor
  obtain ⟨v4, -, x1, x2, -⟩ := h_txt
  obtain ⟨v5, -, w1, w2, -⟩ := h_way
  obtain ⟨v6, -, a1, a2, -⟩ := h_act
  obtain ⟨r, g1, g2⟩ := p156 h_day.1 h_srv.1 (t1.trans t2.symm) (r1.trans r2.symm) (s1.trans s2.symm) (e1.trans e2.symm) (n1.trans n2.symm) (c1.trans c2.symm) (k1.trans k2.symm) (x1.trans x2.symm) (w1.trans w2.symm) (a1.trans a2.symm) x0 nL
  exact ⟨r, A, B, g1, g2, Res_r hI⟩
theorem fr_tA (A : sm_M) (t : Nat) (k m : Int32) : Fr PA_tp A (tA A t k m) := fun f i k' hk => by
  unfold tA zA
  rw [if_neg (fun h => by rw [h.1] at hk; exact Bool.noConfusion (show true = false from hk))]
  exact (Fr_u (Fr_u (Fr_r _ _) rfl) rfl : Fr PA_tp A (sm_u (sm_u A 26 t 0 k) 26 t 1 m)) f i k' hk
theorem fr_tB (B : sm_M) (t : Nat) (k m : Int32) : Fr PB_tp B (tB B t k m) := fun f i k' hk => by
  unfold tB zB
  rw [if_neg (fun h => by rcases h.1 with e | e <;> (rw [e] at hk; exact Bool.noConfusion (show true = false from hk)))]
  exact (Fr_u (Fr_u (Fr_r _ _) rfl) rfl : Fr PB_tp B (sm_u (sm_u B 96 0 t k) 97 0 t m)) f i k' hk
theorem fr_cp (A : sm_M) (t a t2 b c : Nat) : Fr PA_tp A (sm_cp A 49 t a 49 t2 b c) := fun f i k hk => if_neg (fun h => by rw [h.1] at hk; exact Bool.noConfusion (show true = false from hk))
theorem fr_sh (B : sm_M) (p r c : Nat) : Fr PB_tp B (shB B p r c) := fun f i k hk => by
  unfold shB s2 s1
  rw [if_neg (fun h => by rw [h.1] at hk; exact Bool.noConfusion (show true = false from hk)), if_neg (fun h => by rw [h.1] at hk; exact Bool.noConfusion (show true = false from hk)), if_neg (fun h => by rw [h.1] at hk; exact Bool.noConfusion (show true = false from hk)), if_neg (fun h => by rw [h.1] at hk; exact Bool.noConfusion (show true = false from hk))]
theorem q157 {n : Nat} {A B : sm_M} (hI : InvP n A B) (hn : n < 2 ^ 29) (x0 x1 x2 : Int32) (nL : Nat) : ∃ r A' B', (∀ d Q, sm_W (d + 1) 157 0 [vo 10, vi x0, vi x1, vi x2, none] [] (sm_G0 nL) A Q = Q (vi r) (sm_G0 nL) A') ∧ (∀ d Q, sm_W (d + 2) 270 0 [vo 11, vi x0, vi x1, vi x2, none] [] (sm_G0 nL) B Q = Q (vi r) (sm_G0 nL) B') ∧ Res n A B A' B' := by
  have hJ := hI
  obtain ⟨h_day, h_srv, h_sea, h_thg, h_tel, h_rul, h_num, h_txt, h_wrd, h_way, h_end, h_tap, h_tp3, h_sht, h_edi, h_cop, h_cor, h_act, h_cst, h_set⟩ := hJ
  obtain ⟨r, A', B', g1, g2, h⟩ := p157 h_tap x0 x1 x2 nL
  refine ⟨r, A', B', g1, g2, ?_⟩
  rcases h with ⟨rfl, rfl⟩ | ⟨t, k, m, rfl, rfl, hd⟩
  · exact Res_r hI
  · exact ⟨InvP_s (inv_tp hI (fr_tA _ _ _ _) (fr_tB _ _ _ _) hd (J_tp3_t h_tp3)), cl_tp (fr_tA _ _ _ _), rl_tp (fr_tB _ _ _ _)⟩
theorem q159x {n : Nat} {A B : sm_M} (hI : InvP n A B) (hn : n < 2 ^ 29) (x0 x1 x2 : Int32) (nL : Nat) : ∃ r A' B', (∀ d Q, sm_W (d + 2) 159 0 [vo 10, vi x0, vi x1, vi x2, none] [] (sm_G0 nL) A Q = Q (vi r) (sm_G0 nL) A') ∧ (∀ d Q, sm_W (d + 2) 272 0 [vo 11, vi x0, vi x1, vi x2] [] (sm_G0 nL) B Q = Q (vi r) (sm_G0 nL) B') ∧ Res n A B A' B' := by
  have hJ := hI
  obtain ⟨h_day, h_srv, h_sea, h_thg, h_tel, h_rul, h_num, h_txt, h_wrd, h_way, h_end, h_tap, h_tp3, h_sht, h_edi, h_cop, h_cor, h_act, h_cst, h_set⟩ := hJ
  obtain ⟨r, A', B', g1, g2, h⟩ := p159x h_tap x0 x1 x2 nL
  refine ⟨r, A', B', g1, g2, ?_⟩
  rcases h with ⟨rfl, rfl⟩ | ⟨t, i, v, rfl, rfl, hd, ht, hi, hv⟩
  · exact Res_r hI
  · exact ⟨InvP_s (inv_tp hI (Fr_u (Fr_r _ _) rfl) (Fr_u (Fr_u (Fr_r _ _) rfl) rfl) hd (J_tp3_i h_tp3 hi hv)), cl_tp (Fr_u (Fr_r _ _) rfl), rl_tp (Fr_u (Fr_u (Fr_r _ _) rfl) rfl)⟩
theorem q161 {n : Nat} {A B : sm_M} (hI : InvP n A B) (hn : n < 2 ^ 29) (x0 x1 : Int32) (nL : Nat) : ∃ r A' B', (∀ d Q, sm_W (d + 1) 161 0 [vo 10, vi x0, vi x1, none] [] (sm_G0 nL) A Q = Q (vi r) (sm_G0 nL) A') ∧ (∀ d Q, sm_W (d + 2) 273 0 [vo 11, vi x0, vi x1] [] (sm_G0 nL) B Q = Q (vi r) (sm_G0 nL) B') ∧ Res n A B A' B' := by
  have hJ := hI
  obtain ⟨h_day, h_srv, h_sea, h_thg, h_tel, h_rul, h_num, h_txt, h_wrd, h_way, h_end, h_tap, h_tp3, h_sht, h_edi, h_cop, h_cor, h_act, h_cst, h_set⟩ := hJ
  obtain ⟨r, g1, g2⟩ := p161 h_tap x0 x1 nL
  exact ⟨r, A, B, g1, g2, Res_r hI⟩
theorem q162 {n : Nat} {A B : sm_M} (hI : InvP n A B) (hn : n < 2 ^ 29) (x0 x1 : Int32) (nL : Nat) : ∃ r A' B', (∀ d Q, sm_W (d + 1) 162 0 [vo 10, vi x0, vi x1, none] [] (sm_G0 nL) A Q = Q (vi r) (sm_G0 nL) A') ∧ (∀ d Q, sm_W (d + 2) 274 0 [vo 11, vi x0, vi x1] [] (sm_G0 nL) B Q = Q (vi r) (sm_G0 nL) B') ∧ Res n A B A' B' := by
  have hJ := hI
  obtain ⟨h_day, h_srv, h_sea, h_thg, h_tel, h_rul, h_num, h_txt, h_wrd, h_way, h_end, h_tap, h_tp3, h_sht, h_edi, h_cop, h_cor, h_act, h_cst, h_set⟩ := hJ
  obtain ⟨r, A', B', g1, g2, h⟩ := p162 h_tap x0 x1 nL
  refine ⟨r, A', B', g1, g2, ?_⟩
  rcases h with ⟨rfl, rfl⟩ | ⟨t, i, rfl, rfl, hd⟩
  · exact Res_r hI
  · exact ⟨InvP_s (inv_tp hI (Fr_u (Fr_r _ _) rfl) (Fr_u (Fr_r _ _) rfl) hd (J_tp3_b h_tp3)), cl_tp (Fr_u (Fr_r _ _) rfl), rl_tp (Fr_u (Fr_r _ _) rfl)⟩
theorem q163 {n : Nat} {A B : sm_M} (hI : InvP n A B) (hn : n < 2 ^ 29) (x0 x1 x2 x3 x4 : Int32) (nL : Nat) : ∃ r A' B', (∀ d Q, sm_W (d + 1) 163 0 [vo 10, vi x0, vi x1, vi x2, vi x3, vi x4, none, none] [] (sm_G0 nL) A Q = Q (vi r) (sm_G0 nL) A') ∧ (∀ d Q, sm_W (d + 2) 275 0 [vo 11, vi x0, vi x1, vi x2, vi x3, vi x4, none] [] (sm_G0 nL) B Q = Q (vi r) (sm_G0 nL) B') ∧ Res n A B A' B' := by
  have hJ := hI
  obtain ⟨h_day, h_srv, h_sea, h_thg, h_tel, h_rul, h_num, h_txt, h_wrd, h_way, h_end, h_tap, h_tp3, h_sht, h_edi, h_cop, h_cor, h_act, h_cst, h_set⟩ := hJ
  obtain ⟨r, A', B', g1, g2, h⟩ := p163 h_tap x0 x1 x2 x3 x4 nL
  refine ⟨r, A', B', g1, g2, ?_⟩
  rcases h with ⟨rfl, rfl⟩ | ⟨t, t2, a, b, c, rfl, rfl, ht, ht2, ha, hb, hs, hd⟩
  · exact Res_r hI
  · exact ⟨InvP_s (inv_tp hI (fr_cp _ _ _ _ _ _) (fr_sh _ _ _ _) hd (J_tp3_s h_tp3 ht ht2 ha hb hs)), cl_tp (fr_cp _ _ _ _ _ _), rl_tp (fr_sh _ _ _ _)⟩
