/-! the law, from its entry to its end -/
theorem lp_new {nL a b nx : Nat} {z : Int32} {L : sm_L} {S : sm_S} {w : sl_G} {M0 : sm_M} {V : sl_X Int32} (h10 : Nat.ble 10 a = true) : sm_t49 a b nx z L S (sl_g nL w) (sl_m M0 V) = sm_ck (Nat.ble 10 a && Nat.ble (sm_fc a) 99) nx L (.inr (.inr (some (a, sl_c w.2.2.1 a))) :: S) (sl_g nL (w.1 + 1, w.2.1 + sm_nf (sm_fc a), (a, sl_c w.2.2.1 a + 1) :: w.2.2.1, (a, sl_c w.2.2.1 a, none) :: w.2.2.2)) (sl_m M0 ((a, sl_c w.2.2.1 a, none) :: V)) := by
  unfold sm_t49
  rw [sl_make nL w h10, sl_c10 (Nat.le_of_ble_eq_true h10), sl_mz]
abbrev wG1 : sl_G := (1, 18, [(10, 1)], [(10, 0, none)])
abbrev wG2 : sl_G := (390, 16668, cCa ++ [(10, 1)], cRa ++ [(10, 0, none)])
abbrev wG3 : sl_G := (391, 16741, (11, 1) :: (cCa ++ [(10, 1)]), (11, 0, none) :: (cRa ++ [(10, 0, none)]))
abbrev wV2 : sl_X Int32 := cVa ++ [(10, 0, none)]
abbrev wV3 : sl_X Int32 := (11, 0, none) :: wV2
theorem wcnt11 : sl_c (cCa ++ [(10, 1)]) 11 = 0 := by decide +kernel
theorem lp_0 (nL : Nat) (M0 : sm_M) : sm_nx 0 0 [vo 0, none, none, none] [] (sl_g nL (0, 0, [], [])) (sl_m M0 []) = sm_ck true 3 [vo 0, none, none, none] [.inr (.inr (some (10, 0)))] (sl_g nL wG1) (sl_m M0 [(10, 0, none)]) := by
  show sm_t49 10 0 3 0 [vo 0, none, none, none] [] (sl_g nL (0, 0, [], [])) (sl_m M0 []) = _
  rw [lp_new rfl]
  rfl
theorem lp_3 (nL : Nat) (M0 : sm_M) : sm_nx 0 3 [vo 0, none, none, none] [.inr (.inr (some (10, 0)))] (sl_g nL wG1) (sl_m M0 [(10, 0, none)]) = sm_ck true 4 [vo 0, none, none, none] [.inr (.inr (some (10, 0))), .inr (.inr (some (10, 0)))] (sl_g nL wG1) (sl_m M0 [(10, 0, none)]) := rfl
theorem lp_4 (nL : Nat) (M0 : sm_M) : sm_nx 0 4 [vo 0, none, none, none] [.inr (.inr (some (10, 0))), .inr (.inr (some (10, 0)))] (sl_g nL wG1) (sl_m M0 [(10, 0, none)]) = sm_ca true 1 [vo 10, none] 7 [vo 0, none, none, none] [.inr (.inr (some (10, 0)))] := rfl
theorem lp_7 (nL : Nat) (M0 : sm_M) (w : sl_G) (V : sl_X Int32) : sm_nx 0 7 [vo 0, none, none, none] [.inr (.inr (some (10, 0)))] (sl_g nL w) (sl_m M0 V) = sm_go 8 [vo 0, vo 10, none, none] [] (sl_g nL w) (sl_m M0 V) := rfl
theorem lp_8 (nL : Nat) (M0 : sm_M) : sm_nx 0 8 [vo 0, vo 10, none, none] [] (sl_g nL wG2) (sl_m M0 wV2) = sm_ck true 11 [vo 0, vo 10, none, none] [.inr (.inr (some (11, 0)))] (sl_g nL wG3) (sl_m M0 wV3) := by
  show sm_t49 11 0 11 0 [vo 0, vo 10, none, none] [] (sl_g nL wG2) (sl_m M0 wV2) = _
  rw [lp_new rfl]
  show sm_ck _ _ _ (.inr (.inr (some (11, sl_c (cCa ++ [(10, 1)]) 11))) :: _) (sl_g nL (_, _, (11, sl_c (cCa ++ [(10, 1)]) 11 + 1) :: _, (11, sl_c (cCa ++ [(10, 1)]) 11, none) :: _)) (sl_m M0 ((11, sl_c (cCa ++ [(10, 1)]) 11, none) :: _)) = _
  rw [wcnt11]
  rfl
theorem lp_11 (nL : Nat) (M0 : sm_M) (w : sl_G) (V : sl_X Int32) : sm_nx 0 11 [vo 0, vo 10, none, none] [.inr (.inr (some (11, 0)))] (sl_g nL w) (sl_m M0 V) = sm_ck true 12 [vo 0, vo 10, none, none] [.inr (.inr (some (11, 0))), .inr (.inr (some (11, 0)))] (sl_g nL w) (sl_m M0 V) := rfl
theorem lp_12 (nL : Nat) (M0 : sm_M) (w : sl_G) (V : sl_X Int32) : sm_nx 0 12 [vo 0, vo 10, none, none] [.inr (.inr (some (11, 0))), .inr (.inr (some (11, 0)))] (sl_g nL w) (sl_m M0 V) = sm_ca true 164 [vo 11, none] 15 [vo 0, vo 10, none, none] [.inr (.inr (some (11, 0)))] := rfl
theorem lp_15 (nL : Nat) (M0 : sm_M) (w : sl_G) (V : sl_X Int32) : sm_nx 0 15 [vo 0, vo 10, none, none] [.inr (.inr (some (11, 0)))] (sl_g nL w) (sl_m M0 V) = sm_go 16 [vo 0, vo 10, vo 11, none] [] (sl_g nL w) (sl_m M0 V) := rfl
theorem lp_16 (nL : Nat) (M0 : sm_M) (w : sl_G) (V : sl_X Int32) : sm_nx 0 16 [vo 0, vo 10, vo 11, none] [] (sl_g nL w) (sl_m M0 V) = sm_go 17 [vo 0, vo 10, vo 11, none] [.inl 0] (sl_g nL w) (sl_m M0 V) := rfl
theorem lp_17 (nL : Nat) (M0 : sm_M) (w : sl_G) (V : sl_X Int32) : sm_nx 0 17 [vo 0, vo 10, vo 11, none] [.inl 0] (sl_g nL w) (sl_m M0 V) = sm_go 18 [vo 0, vo 10, vo 11, vi 0] [] (sl_g nL w) (sl_m M0 V) := rfl
theorem whole_start {p : Program} {e : Env} {s : State} {m : MethodId} {below : List Frame} {meth : Method} {c : Code} (l : Launch) (hflags : l.flags = flags0) {b L : Nat} {xs : Nat → Int32} (hL : L ≤ 4096) (C0 : lw_At p s m meth c b L xs) : W p l e room_1 s m #[Value.ref b] below meth c s.heap [] 0 0 (lw_Z below #[Value.ref b] s) (entryFrame m ([Value.ref b] : List Value).toArray 4) := by
  obtain ⟨hx, hb, hret, hml, hown, hts, hX0, hbl, hlk, hgv⟩ := C0
  obtain ⟨Z, hZ1, hZ2, hR0⟩ := lw_rel hts hX0 hbl hgv
  have hC : sq_C p room_1 s m #[Value.ref b] meth c 0 21 := ⟨hx, hb, hml, hown, fun w hw => hts w (List.mem_filter.mp hw).1, fun h => absurd h (by decide +kernel), by show 21 + 12 ≤ 2048; decide, by show 60 * 21 + 300 ≤ 84000; decide⟩
  rw [lg_entry_eq]
  have hE := sq_entry (ad := fun f _ => Z.2.1 f) (G := sl_g L (0, 0, [], [])) (k := 0) (As := [.inr (.inr (some (0, 0)))]) (fun v hv => by rw [List.mem_singleton.mp hv]; rfl) (fun v hv => by rw [List.mem_singleton.mp hv]; exact Or.inl ⟨by decide, rfl⟩) (by decide +kernel)
  have hb0 : [Value.ref (Z.2.1 0)] = [Value.ref b] := by rw [hZ2]
  have hE : sq_Lk (fun f _ => Z.2.1 f) (sl_g L (0, 0, [], [])) 0 [vo 0, none, none, none] (lg_sl [Value.ref (Z.2.1 0)] ++ List.replicate (4 - (lg_sl [Value.ref (Z.2.1 0)]).length) Slot.unset).toArray := hE
  rw [hb0] at hE
  have hX : sq_XZ Z (fun f _ => Z.2.1 f) (sl_g L (0, 0, [], [])) (sl_m (lw_M xs) []) s s.heap 0 [vo 0, none, none, none] [] (lg_sl [Value.ref b] ++ List.replicate (4 - (lg_sl [Value.ref b]).length) Slot.unset).toArray [] := ⟨hR0, hE, fun v hv => absurd hv List.not_mem_nil, fun q hq => absurd hq List.not_mem_nil⟩
  generalize (lg_sl [Value.ref b] ++ List.replicate (4 - (lg_sl [Value.ref b]).length) Slot.unset).toArray = ls0 at hX
  have n0 := sq_one (l := l) (e := e) (below := below) (cells := 0) (slots := 0) (pc := 0) hC hX (by decide)
  rw [lp_0] at n0
  refine (n0 rfl) (Nat.le_of_ble_eq_true rfl) (Nat.le_of_ble_eq_true rfl) _ (fun ad1 H1 locs1 ls1 c1 s1 hX _ hc hs => ?_)
  have hc : c1 = 1 := hc
  have hs : s1 = 18 := hs
  subst hc; subst hs
  have n3 := sq_one (l := l) (e := e) (below := below) (cells := 1) (slots := 18) (pc := 3) hC hX (by decide)
  rw [lp_3] at n3
  refine (n3 rfl) (Nat.le_of_ble_eq_true rfl) (Nat.le_of_ble_eq_true rfl) _ (fun ad2 H2 locs2 ls2 c2 s2 hX _ hc hs => ?_)
  have hc : c2 + 1 = 1 + 1 := hc
  have hc : c2 = 1 := by omega
  have hs : s2 + 18 = 18 + 18 := hs
  have hs : s2 = 18 := by omega
  subst hc; subst hs
  have n4 := sq_one (l := l) (e := e) (below := below) (cells := 1) (slots := 18) (pc := 4) hC hX (by decide)
  rw [lp_4] at n4
  refine ((n4 rfl).2 20 none _ _ rfl (sq_met Z l 20 3000 1 _ _ _ none _ _ (by decide) (by decide) (sl_run_ok L (lw_M xs) 3000 20 1 0 _ _ wG1 [(10, 0, none)] _ _ (sl_same_ok cr_a)))) (Nat.le_of_ble_eq_true rfl) (Nat.le_of_ble_eq_true rfl) _ (fun ad3 H3 locs3 ls3 c3 s3 hX _ hc hs => ?_)
  have hc : c3 + 1 = 1 + 390 := hc
  have hc : c3 = 390 := by omega
  have hs : s3 + 18 = 18 + 16668 := hs
  have hs : s3 = 16668 := by omega
  subst hc; subst hs
  have n7 := sq_one (l := l) (e := e) (below := below) (cells := 390) (slots := 16668) (pc := 7) hC hX (by decide)
  rw [sm_push_n, lp_7] at n7
  refine n7 (Nat.le_of_ble_eq_true rfl) (Nat.le_of_ble_eq_true rfl) _ (fun ad4 H4 locs4 ls4 c4 s4 hX _ hc hs => ?_)
  have hc : c4 + 390 = 390 + 390 := hc
  have hc : c4 = 390 := by omega
  have hs : s4 + 16668 = 16668 + 16668 := hs
  have hs : s4 = 16668 := by omega
  subst hc; subst hs
  have n8 := sq_one (l := l) (e := e) (below := below) (cells := 390) (slots := 16668) (pc := 8) hC hX (by decide)
  rw [lp_8] at n8
  refine (n8 rfl) (Nat.le_of_ble_eq_true rfl) (Nat.le_of_ble_eq_true rfl) _ (fun ad5 H5 locs5 ls5 c5 s5 hX _ hc hs => ?_)
  have hc : c5 + 390 = 390 + 391 := hc
  have hc : c5 = 391 := by omega
  have hs : s5 + 16668 = 16668 + 16741 := hs
  have hs : s5 = 16741 := by omega
  subst hc; subst hs
  have n11 := sq_one (l := l) (e := e) (below := below) (cells := 391) (slots := 16741) (pc := 11) hC hX (by decide)
  rw [lp_11] at n11
  refine (n11 rfl) (Nat.le_of_ble_eq_true rfl) (Nat.le_of_ble_eq_true rfl) _ (fun ad6 H6 locs6 ls6 c6 s6 hX _ hc hs => ?_)
  have hc : c6 + 391 = 391 + 391 := hc
  have hc : c6 = 391 := by omega
  have hs : s6 + 16741 = 16741 + 16741 := hs
  have hs : s6 = 16741 := by omega
  subst hc; subst hs
  have n12 := sq_one (l := l) (e := e) (below := below) (cells := 391) (slots := 16741) (pc := 12) hC hX (by decide)
  rw [lp_12] at n12
  refine ((n12 rfl).2 20 none _ _ rfl (sq_met Z l 20 3000 164 _ _ _ none _ _ (by decide) (by decide) (sl_run_ok L (lw_M xs) 3000 20 164 0 _ _ wG3 wV3 _ _ (sl_same_ok cr_b)))) (Nat.le_of_ble_eq_true rfl) (Nat.le_of_ble_eq_true rfl) _ (fun ad7 H7 locs7 ls7 c7 s7 hX _ hc hs => ?_)
  have hc : c7 + 391 = 391 + 443 := hc
  have hc : c7 = 443 := by omega
  have hs : s7 + 16741 = 16741 + 20415 := hs
  have hs : s7 = 20415 := by omega
  subst hc; subst hs
  have hX : sq_XZ Z ad7 (sl_g L (443, 20415, cC, cR)) (sl_m (lw_M xs) cV) s H7 0 [vo 0, vo 10, none, none] [.inr (.inr (some (11, 0)))] ls7 locs7 := hX
  have n15 := sq_one (l := l) (e := e) (below := below) (cells := 443) (slots := 20415) (pc := 15) hC hX (by decide)
  rw [lp_15] at n15
  refine n15 (Nat.le_of_ble_eq_true rfl) (Nat.le_of_ble_eq_true rfl) _ (fun ad8 H8 locs8 ls8 c8 s8 hX _ hc hs => ?_)
  have hc : c8 + 443 = 443 + 443 := hc
  have hc : c8 = 443 := by omega
  have hs : s8 + 20415 = 20415 + 20415 := hs
  have hs : s8 = 20415 := by omega
  subst hc; subst hs
  have n16 := sq_one (l := l) (e := e) (below := below) (cells := 443) (slots := 20415) (pc := 16) hC hX (by decide)
  rw [lp_16] at n16
  refine n16 (Nat.le_of_ble_eq_true rfl) (Nat.le_of_ble_eq_true rfl) _ (fun ad9 H9 locs9 ls9 c9 s9 hX _ hc hs => ?_)
  have hc : c9 + 443 = 443 + 443 := hc
  have hc : c9 = 443 := by omega
  have hs : s9 + 20415 = 20415 + 20415 := hs
  have hs : s9 = 20415 := by omega
  subst hc; subst hs
  have n17 := sq_one (l := l) (e := e) (below := below) (cells := 443) (slots := 20415) (pc := 17) hC hX (by decide)
  rw [lp_17] at n17
  refine n17 (Nat.le_of_ble_eq_true rfl) (Nat.le_of_ble_eq_true rfl) _ (fun adA HA locsA lsA cA sA hX _ hc hs => ?_)
  have hc : cA + 443 = 443 + 443 := hc
  have hc : cA = 443 := by omega
  have hs : sA + 20415 = 20415 + 20415 := hs
  have hs : sA = 20415 := by omega
  subst hc; subst hs
  have hR := sq_ctor hX.1 (fun k => cV_low (lw_M xs) (by decide) 0 k) (fun f k _ h4 => cV_low (lw_M xs) (by omega) 0 k)
  have hX' : sq_XZ Z adA (sm_G0 L) (mI (lw_M xs)) s HA 0 [vo 0, vo 10, vo 11, vi (nI (8 * 0))] [] lsA locsA := ⟨hR, hX.2.1.ag (fun v hv => ⟨rfl, sq_okv_cnt (cC_G0 L) hv⟩), fun v hv => absurd hv List.not_mem_nil, hX.2.2.2⟩
  have hI : InvP 0 (mI (lw_M xs)) (mI (lw_M xs)) := InvP_0 (fun f k a _ _ => by
    show cond (Nat.beq f 0) (xs k) (sq_tb f k) = sq_tb f k
    have : Nat.beq f 0 = false := by rw [sl_beq]; exact decide_eq_false (by omega)
    rw [this]; rfl)
  obtain ⟨M', hl⟩ := law_loop (nL := L) (by omega) (L / 8) 0 (mI (lw_M xs)) (by omega) (by decide) hI
  have hw := (hl 10 (fun r G M => r = vi 1 ∧ G = sm_G0 L ∧ M = M')).mpr ⟨rfl, rfl, rfl⟩
  obtain ⟨n, r, G', M'', hrun, rfl, rfl, rfl⟩ := hw
  refine sq_frame (Z := Z) (l := l) (d := 21) (fun d' _ n k L0 G M r G1 M1 h0 hk hr => sq_met Z l d' n k L0 G M r G1 M1 h0 hk hr) n hrun (by decide) hC hX' (by show 443 + 443 ≤ 600000 + 443; decide) (by show 20415 + 20415 ≤ 7302250 + 20415; decide) (fun ad1 H1 locs1 ls1 c1 s1 pc1 S1 hR1 _ _ hl1 hc hs hE => ?_)
  have hc : c1 + 443 = 443 + 443 := hc
  have hc : c1 = 443 := by omega
  have hs : s1 + 20415 = 20415 + 20415 := hs
  have hs : s1 = 20415 := by omega
  subst hc; subst hs
  rw [hZ1] at hl1
  rcases hE with ⟨hd, x, rfl, hx1, _⟩ | ⟨_, q, _, hq, _⟩ | ⟨_, _, hq, _⟩
  · have hx1 : (1 : Int32) = x := Sum.inl.inj (Option.some.inj hx1)
    subst hx1
    exact va_forget hl1 (W.widen (by decide) (by decide) (lw_ret hx hb hret hlk hd))
  · cases Option.some.inj hq
  · cases hq
