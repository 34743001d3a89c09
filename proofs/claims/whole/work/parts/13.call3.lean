/-! ONE INSTRUCTION: calls and ends -/
/-- arguments fit the places for locals -/
theorem ck_na : sm_upto 276 (fun k => Nat.ble (sm_na k + (cond (sm_st k) 0 1)) (sm_ml k)) = true := by decide +kernel
theorem sm_na_ml (k : Nat) (hk : k < 276) : sm_na k + (cond (sm_st k) 0 1) ≤ sm_ml k := Nat.le_of_ble_eq_true (sm_upto_ok ck_na k hk)
section
variable {Z : sq_Z} {p : Program} {l : Launch} {e : Env} {R : Room} {s : State} {m : MethodId} {args : Array Value} {below : List Frame} {meth : Method} {c : Code} {k d : Nat} {ad : Nat → Nat → Nat} {G : sm_G} {M : sm_M} {H : Heap} {locs : List Loc} {cells slots : Nat} {ls : Array Slot} {pc : Nat} {L : sm_L} {S : sm_S}
theorem sq_blind (Z : sq_Z) (ad : Nat → Nat → Nat) (G : sm_G) (M : sm_M) (As : List sm_V) : FrameBlind (fun v U => v = (As.map (sq_v ad)).toArray ∧ sq_RZ Z ad G M U U.heap) := by
  intro a U g mk h
  have hR : sq_R _ _ _ _ _ _ _ ad G M U U.heap := h.2
  exact ⟨h.1, sq_R_vm (U' := U.calling g mk a) hR (sq_K.moved (u := U) (U := U.calling g mk a) (Vm.Alike.refl U.vm) hR.2.2.2.2.2.2.1) (sq_O.same (u := U) (U := U.calling g mk a) rfl hR.2.2.2.2.2.2.2)⟩
theorem sq_preS (hR : sq_RZ Z ad G M s H) (As : List sm_V) : PreS s H (fun v U => v = (As.map (sq_v ad)).toArray ∧ sq_RZ Z ad G M U U.heap) (As.map (sq_v ad)) := by
  refine ⟨sq_blind Z ad G M As, fun U hU hW => ⟨rfl, ?_⟩⟩
  have hR : sq_R _ _ _ _ _ _ _ ad G M s H := hR
  rw [hU]
  exact sq_R_vm (U' := U) hR (sq_K.moved hW.alike hR.2.2.2.2.2.2.1) (sq_O.warm hW hR.2.2.2.2.2.2.2)
/-- behind a call that came back -/
theorem sq_back (hX : sq_XZ Z ad G M s H k L S ls locs) {a d' : Nat} {L0 : sm_L} {r : Option sm_V} {G1 : sm_G} {M1 : sm_M} {pc1 : Nat} {S1 : sm_S} {As : List sm_V} (hS1 : ∀ v ∈ S1, sq_okv G v) (hmon : G.1 ≤ G1.1 ∧ G.2.1 ≤ G1.2.1 ∧ ∀ f, G.2.2.1 f ≤ G1.2.2.1 f) {Q : State → Prop} (hpc : pc1 = pc + 3)
    (hrun : va_Run p l e R s m args below meth c H locs cells slots (G1.1 - G.1) (G1.2.1 - G.2.1) (F0 m pc ls (S.map (sq_v ad))) (S1.map (sq_v ad)) (fun _ oc t => ∃ ad1, sq_ag G ad ad1 ∧ sq_RZ Z ad1 G1 M1 t t.heap ∧ oc = .returned (r.map (sq_v ad1)) ∧ sq_okr G1 r) (fun q => Z.1.size ≤ q))
    (kk : ∀ ad1 H1 locs1 ls1 c1 s1, sq_XZ Z ad1 G1 M1 s H1 k L (sm_push r S1) ls1 locs1 → sq_ag G ad ad1 → c1 + G.1 = cells + G1.1 → s1 + G.2.1 = slots + G1.2.1 → W p l e R s m args below meth c H1 locs1 c1 s1 Q (F0 m pc1 ls1 ((sm_push r S1).map (sq_v ad1)))) :
    W p l e R s m args below meth c H locs cells slots Q (F0 m pc ls (S.map (sq_v ad))) := by
  intro T hT X
  obtain ⟨v, st0, t, T', Ls, -, X', hL, eh, ev, ⟨ad1, hag, hR1, hv, hokr⟩, hgo⟩ := hrun T hT X
  have hR : sq_R _ _ _ _ _ _ _ ad G M s H := hX.1
  have hR1 : sq_R _ _ _ _ _ _ _ ad1 G1 M1 t t.heap := hR1
  have hal : t.vm.Alike s.vm := by rw [← ev]; exact X'.warmed.alike.symm
  have hRs : sq_R _ _ _ _ _ _ _ ad1 G1 M1 s t.heap := sq_R_vm (U' := s) hR1 (sq_K.moved hal hR1.2.2.2.2.2.2.1) hR.2.2.2.2.2.2.2
  have okm : ∀ v, sq_okv G v → sq_okv G1 v := by
    intro v hv
    rcases v with x | y | r
    · trivial
    · trivial
    · cases r with
      | none => trivial
      | some q =>
        obtain ⟨f, i⟩ := q
        rcases hv with h | ⟨h1, h2⟩
        · exact Or.inl h
        · exact Or.inr ⟨h1, Nat.lt_of_lt_of_le h2 (hmon.2.2 f)⟩
  have hv := Outcome.returned.inj hv
  have hmap : (sm_push r S1).map (sq_v ad1) = v.toList ++ S1.map (sq_v ad) := by
    rw [hv, ← sq_map_ag hR hR1 hag hS1]
    cases r <;> rfl
  have hk1 := kk ad1 t.heap (locs ++ Ls) ls (cells + (G1.1 - G.1)) (slots + (G1.2.1 - G.2.1)) ⟨hRs, hX.2.1.ag (fun v hv => ⟨sq_v_ag hR hR1 hag hv, okm v hv⟩), fun v hv => ?_, fun q hq => ?_⟩ hag (by omega) (by omega)
  · rw [hmap] at hk1
    obtain ⟨tt, a1, b1⟩ := hk1 T' eh X'
    refine ⟨tt, hgo tt ?_, b1⟩
    subst hpc
    exact a1
  · cases r with
    | none => exact okm v (hS1 v hv)
    | some w =>
      rcases List.mem_cons.mp hv with rfl | hv
      · exact hokr
      · exact okm v (hS1 v hv)
  · rcases List.mem_append.mp hq with h | h
    · exact hX.2.2.2 q h
    · exact hL q h
theorem sq_args {b : Nat} (hbl : b ≤ S.length) : S = ((S.take b).reverse).reverse ++ S.drop b := by rw [List.reverse_reverse, List.take_append_drop]
theorem sq_argsM (ad : Nat → Nat → Nat) {b : Nat} (hbl : b ≤ S.length) : S.map (sq_v ad) = (((S.take b).reverse).map (sq_v ad)).reverse ++ (S.drop b).map (sq_v ad) := by
  rw [← List.map_reverse, List.reverse_reverse, ← List.map_append, List.take_append_drop]
theorem sm_rcv_spec {c : Nat} {l : List sm_V} (hc : c ≠ 200) (h : sm_rcv c (l.map some) = true) : ∃ f i r, l = .inr (.inr (some (f, i))) :: r ∧ sm_fc f = c := by
  unfold sm_rcv at h
  split at h
  · exact absurd rfl hc
  · rcases l with _ | ⟨x | x | _ | ⟨f, i⟩, r⟩
    · simp at h
    · simp at h
    · simp at h
    · simp at h
    · exact ⟨f, i, r, rfl, Nat.eq_of_beq_eq_true h⟩
/-- a call of method a: words, room, arguments -/
theorem sq_call (hC : sq_C p R s m args meth c k d) (hX : sq_XZ Z ad G M s H k L S ls locs) (hk : k < 276) {a b idx : Nat} (hkl : ci_k (sm_oc k * 2048) idx a = true)
    (hb3 : (decode (sm_mb k) pc = .ok (.invokevirtual idx, 3) ∧ b = sm_na a + 1 ∧ sm_st a = false ∧ (sm_my a).name ≠ "<init>") ∨ (decode (sm_mb k) pc = .ok (.invokespecial idx, 3) ∧ b = sm_na a + 1 ∧ sm_st a = false ∧ (sm_my a).name = "<init>" ∧ sm_mr a = none) ∨ (decode (sm_mb k) pc = .ok (.invokestatic idx, 3) ∧ b = sm_na a ∧ sm_st a = true)) :
    sq_N Z p l e R s m args below meth c k d ad G M H locs cells slots ls pc S (sm_t53 a b (pc + 3) 0 L S G M) := by
  obtain ⟨hx, hb, hml, hown, hts, hini, hfr, hlo⟩ := hC
  obtain ⟨ha, ha0, hlink⟩ := kl_ok hkl (oc_lt k hk)
  obtain ⟨ms1, ms2, mcls, mdesc, -, mmh, mvh, mml⟩ := m_ok a ha0 ha
  intro hck
  simp only [Bool.and_eq_true] at hck
  obtain ⟨⟨⟨c1, c2⟩, c3⟩, c4⟩ := hck
  refine ⟨⟨ha0, ha⟩, ?_⟩
  have c1 := Nat.le_of_ble_eq_true c1
  have c2 := Nat.le_of_ble_eq_true c2
  rw [sm_dr_eq] at c2
  rw [sm_tk_eq b S [] c1, List.append_nil] at c4
  intro d' r G1 M1 hd hM hcell hslot Q kk
  rw [sm_tk_eq b S [] c1, List.append_nil] at hM
  rw [sm_dr_eq] at kk
  have hR : sq_R _ _ _ _ _ _ _ ad G M s H := hX.1
  generalize hAs : (S.take b).reverse = As at c4 hM
  have hAlen : As.length = b := by rw [← hAs, List.length_reverse, List.length_take]; omega
  have hAS : ∀ v ∈ As, v ∈ S := fun v hv => by rw [← hAs, List.mem_reverse] at hv; exact List.mem_of_mem_take hv
  have hsub := hM.1
  have hmaxl : As.length ≤ sm_ml a := by
    rw [hAlen]
    have hna := sm_na_ml a ha
    rcases hb3 with h | h | h
    · have := hna; rw [h.2.1]; simpa [h.2.2.1] using this
    · have := hna; rw [h.2.1]; simpa [h.2.2.1] using this
    · have := hna; rw [h.2.1]; simpa [h.2.2] using this
  have hMet := hM.2 As rfl hmaxl (fun v hv => sm_all1_mem c3 v (hAS v hv)) (fun v hv => hX.2.2.1 v (hAS v hv)) ad
  have hrest : ∀ v ∈ S.drop b, sq_okv G v := fun v hv => hX.2.2.1 v (List.mem_of_mem_drop hv)
  have hsum : (((S.drop b).map (sq_v ad)).map fun v => v.category).sum ≤ 8 := sq_cats (fun v hv => sm_all1_mem c3 v (List.mem_of_mem_drop hv)) c2
  have hG := gi_ok a ha0 ha
  have hinit : (Cond.initialized (sm_my a).cls).before args s = true := by
    rw [mcls]; exact hts _ (ini_ok (oc_lt a ha))
  have hroom : d' + 12 + 1 ≤ R.frames ∧ 8 + (sm_ml a + 11) + (60 * d' + 300) ≤ R.locals := by omega
  have hSm : S.map (sq_v ad) = (As.map (sq_v ad)).reverse ++ (S.drop b).map (sq_v ad) := by rw [← hAs]; exact sq_argsM ad c1
  have hsize : ls.size = sm_ml k := hX.2.1.1.2.1
  have hfit : cells + (G1.1 - G.1) ≤ R.cells ∧ slots + (G1.2.1 - G.2.1) ≤ R.slots := by omega
  refine sq_back hX (As := As) (r := r) (S1 := S.drop b) (L0 := []) (a := a) (d' := d') hrest hsub rfl ?_ kk
  have hfix : CallFix p m c (sm_mb k) (sm_ml k) s args sm_ts (sm_on (sm_oc k)) := ⟨hx, hb, hml, hown, hts⟩
  rcases hb3 with ⟨hdec, hbn, hst, hnm⟩ | ⟨hdec, hbn, hst, hnm, hret⟩ | ⟨hdec, hbn, hst⟩
  · obtain ⟨i1, i2, i3⟩ := ms2 hst
    have hrk : sm_rk a ≠ 200 := by have := oc_lt a ha; omega
    obtain ⟨f, i, As', hAs', hfc⟩ := sm_rcv_spec hrk c4
    subst hAs'
    have hoc := oc_lt a ha
    have hfv := sm_fc_vals f
    obtain ⟨-, -, cell, q1, q2, q3, -⟩ := hR.obj (hX.2.2.1 _ (hAS _ List.mem_cons_self)) hfc (by omega)
    have hcls := (hR.2.2.2.2.2.2.1.1 (sm_rk a) (by omega)).2.1
    have hsel : (Cond.selects (sm_my a).cls (sm_my a) (sm_my a)).before args s = true := by
      rcases i2 with i2 | i2
      · exact absurd i2 hnm
      · exact hts _ i2
    have hrecv : ∃ cellB : Cell, H[ad f i]? = some cellB ∧ cellB.vm.isStatics = false ∧ s.vm.findClass (sm_my a).cls = some cellB.cls := ⟨cell, q1, by rw [q3]; rfl, by rw [mcls, q2, ← i3]; exact hcls⟩
    have hpre : PreV s H (sm_my a).cls (ad f i) (fun v U => v = ((.inr (.inr (some (f, i))) :: As').map (sq_v ad)).toArray ∧ sq_RZ Z ad G M U U.heap) (As'.map (sq_v ad)) := ⟨sq_blind Z ad G M _, hrecv, (sq_preS hX.1 (.inr (.inr (some (f, i))) :: As')).2⟩
    have hstk : S.map (sq_v ad) = (As'.map (sq_v ad)).reverse ++ .ref (ad f i) :: (S.drop b).map (sq_v ad) := by
      rw [hSm, List.map_cons, List.reverse_cons, List.append_assoc]; rfl
    have hlen : (As'.map (sq_v ad)).length = sm_na a := by
      rw [List.length_map]
      simp at hAlen
      omega
    rcases hlink with hl | hl
    · exact va_runV hfix hMet ⟨callB_of (sm_na a) hts hG rfl rfl rfl hinit (hts _ hl) ⟨mmh, mvh, mdesc⟩ hroom, hts _ i1, hsel⟩ hpre rfl hlen hsize hstk (lv_room hsum) hdec hfit
    · exact va_runVN hfix hMet ⟨va_cnB (sm_na a) hts hG rfl rfl rfl (hR.2.2.2.2.2.2.2.2.2.2.2.1 _ _ _ _ hl) hinit ⟨mmh, mvh, mdesc⟩ hroom, hts _ i1, hsel⟩ hpre rfl hlen hsize hstk (lv_room hsum) hdec hfit
  · obtain ⟨i1, i2, i3⟩ := ms2 hst
    have hrk : sm_rk a ≠ 200 := by have := oc_lt a ha; omega
    obtain ⟨f, i, As', hAs', hfc⟩ := sm_rcv_spec hrk c4
    subst hAs'
    have hpre : PreS s H (fun v U => v = ((.inr (.inr (some (f, i))) :: As').map (sq_v ad)).toArray ∧ sq_RZ Z ad G M U U.heap) (.ref (ad f i) :: As'.map (sq_v ad)) := sq_preS hX.1 (.inr (.inr (some (f, i))) :: As')
    have hstk : S.map (sq_v ad) = (As'.map (sq_v ad)).reverse ++ .ref (ad f i) :: (S.drop b).map (sq_v ad) := by
      rw [hSm, List.map_cons, List.reverse_cons, List.append_assoc]; rfl
    have hlen : (As'.map (sq_v ad)).length = sm_na a := by
      rw [List.length_map]
      simp at hAlen
      omega
    rw [hret] at hMet hG
    rcases hlink with hl | hl
    · exact va_runI hfix hMet ⟨callB_of (sm_na a) hts hG rfl rfl rfl hinit (hts _ hl) ⟨mmh, mvh, mdesc⟩ hroom, hnm, hts _ i1⟩ hpre rfl hlen hsize hstk (lv_room hsum) hdec hfit
    · exact va_runIN hfix hMet ⟨va_cnB (sm_na a) hts hG rfl rfl rfl (hR.2.2.2.2.2.2.2.2.2.2.2.1 _ _ _ _ hl) hinit ⟨mmh, mvh, mdesc⟩ hroom, hnm, hts _ i1⟩ hpre rfl hlen hsize hstk (lv_room hsum) hdec hfit
  · obtain ⟨i1, -⟩ := ms1 hst
    have hlen : (As.map (sq_v ad)).length = sm_na a := by rw [List.length_map]; omega
    rcases hlink with hl | hl
    · exact va_runS hfix hMet ⟨callB_of (sm_na a) hts hG rfl rfl rfl hinit (hts _ hl) ⟨mmh, mvh, mdesc⟩ hroom, hts _ i1⟩ (sq_preS hX.1 As) rfl hlen hsize hSm (lv_room hsum) hdec hfit
    · exact va_runSN hfix hMet ⟨va_cnB (sm_na a) hts hG rfl rfl rfl (hR.2.2.2.2.2.2.2.2.2.2.2.1 _ _ _ _ hl) hinit ⟨mmh, mvh, mdesc⟩ hroom, hts _ i1, trivial⟩ (sq_preS hX.1 As) rfl hlen hsize hSm (lv_room hsum) hdec hfit
theorem sx_objInit (hC : sq_C p R s m args meth c k d) (hX : sq_XZ Z ad G M s H k L S ls locs) (hk : k < 276) {a b : Nat} {z : Int32} {idx : Nat} (hi : idx < 2048) (hol : sm_ol (sm_oc k * 2048 + idx) ≠ 0) (hd : decode (sm_mb k) pc = .ok (.invokespecial idx, 3)) : sq_N Z p l e R s m args below meth c k d ad G M H locs cells slots ls pc S (sm_t72 a b (pc + 3) z L S G M) := by
  obtain ⟨hx, hb, hml, hown, hts, hini, hfr, hlo⟩ := hC
  rcases S with _ | ⟨x | x | _ | ⟨f, i⟩, S⟩
  all_goals try trivial
  intro hck
  rw [Bool.and_eq_true] at hck
  have hl := Nat.le_of_ble_eq_true hck.1
  have hlink : Cond.methodLink (sm_on (sm_oc k)) idx Lib.objectInit ∈ sm_ts := by
    have hc := sm_upto_ok ck_ol _ (cp_lt hi (oc_lt k hk))
    unfold cf_ol at hc
    rw [cp_div hi, cp_mod hi] at hc
    rcases (Bool.or_eq_true _ _).mp hc with h6 | h6
    · exact absurd (Nat.eq_of_beq_eq_true h6) hol
    · exact sm_w_ts h6
  have hoi := ck_oi
  rw [Bool.and_eq_true] at hoi
  have hsum : (((S).map (sq_v ad)).map fun v => v.category).sum ≤ 8 := sq_cats (fun v hv => sm_all1_mem hck.2 v hv) hl
  refine sq_pure hX (S1 := S) (fun v hv => hX.2.2.1 v (List.mem_cons_of_mem _ hv)) (fun Q kk => W.objInit hx hb hown (hts _ hlink) (hts _ (sm_w_ts hoi.1)) (hts _ (sm_w_ts hoi.2)) rfl (by rw [hml]; exact hX.2.1.1.2.1) rfl hd (by omega) ?_ kk)
  have := lv_room (m := m) (pc := pc) (ls := ls) (rest := (.inr (.inr (some (f, i))) :: S).map (sq_v ad)) hsum
  omega
end
