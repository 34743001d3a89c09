/-! ONE INSTRUCTION: arrays made, statics, switches, calls, ends -/
theorem sq_sw_ok {pc sd : Nat} (x : Int32) : ∀ {os : List Int} {t : List (Int32 × Nat)} {lo : Int}, ci_sw pc lo os t = true →
    ((x.toInt < lo ∨ lo + os.length ≤ x.toInt) → sm_swt x t sd = sd) ∧ (∀ j, j < os.length → x.toInt = lo + j → ∃ off, os[j]? = some off ∧ (pc : Int) + off = (sm_swt x t sd : Nat))
  | [], [], lo, _ => ⟨fun _ => rfl, fun j hj => by simp at hj⟩
  | [], _ :: _, lo, h => by simp [ci_sw] at h
  | _ :: _, [], lo, h => by simp [ci_sw] at h
  | o :: os, (c, t) :: r, lo, h => by
    simp only [ci_sw, Bool.and_eq_true, decide_eq_true_eq] at h
    obtain ⟨⟨⟨h1, h2⟩, h3⟩, h4⟩ := h
    obtain ⟨ih1, ih2⟩ := sq_sw_ok (sd := sd) x h4
    constructor
    · intro hx
      have hne : ¬ x = c := fun e => by
        subst e
        simp at hx
        omega
      rw [sm_swt, if_neg hne]
      refine ih1 ?_
      simp at hx
      rcases hx with hx | hx
      · exact Or.inl (by omega)
      · exact Or.inr (by omega)
    · intro j hj hx
      cases j with
      | zero =>
        have : x = c := Int32.toInt_inj.mp (by rw [h2, hx]; simp)
        refine ⟨o, rfl, ?_⟩
        rw [sm_swt, if_pos this]
        exact h3
      | succ j =>
        have hne : ¬ x = c := fun e => by
          subst e
          rw [h2] at hx
          push_cast at hx
          omega
        obtain ⟨off, g1, g2⟩ := ih2 j (by simpa using hj) (by push_cast at hx; omega)
        refine ⟨off, g1, ?_⟩
        rw [sm_swt, if_neg hne]
        exact g2
theorem sq_lk_ok {pc sd : Nat} {dflt : Int} (hd : (pc : Int) + dflt = (sd : Int)) (x : Int32) : ∀ {os : List (Int × Int)} {t : List (Int32 × Nat)}, ci_lk pc os t = true → (pc : Int) + Op.lookupswitch.offset os dflt x.toInt = (sm_swt x t sd : Nat)
  | [], [], _ => hd
  | [], _ :: _, h => by simp [ci_lk] at h
  | _ :: _, [], h => by simp [ci_lk] at h
  | (v, o) :: os, (c, t) :: r, h => by
    simp only [ci_lk, Bool.and_eq_true, decide_eq_true_eq] at h
    obtain ⟨⟨h1, h2⟩, h3⟩ := h
    have ih := sq_lk_ok hd x h3
    by_cases hx : x = c
    · subst hx
      rw [sm_swt, if_pos rfl, ← h2]
      congr 1
      simp [Op.lookupswitch.offset, h1]
    · have hne : ¬ v = x.toInt := fun q => hx (Int32.toInt_inj.mp (by rw [h1, q]))
      have hne' : ¬ x.toInt = v := fun q => hne q.symm
      rw [sm_swt, if_neg hx, ← ih]
      congr 1
      simp [Op.lookupswitch.offset, hne, hne']
theorem zl_ok {oc idx a : Nat} (hi : idx < 2048) (h : (sm_zl (oc * 2048 + idx)).1 = a) (ha : a < 99) (ho : oc < 16) : Cond.fieldLink (sm_on oc) idx (sq_sn a).1 (sq_sn a).2 "[I" ∈ sm_ts := by
  have hc := sm_upto_ok ck_zl _ (cp_lt hi ho)
  unfold cf_zl at hc
  rw [cp_div hi, cp_mod hi, h] at hc
  rcases (Bool.or_eq_true _ _).mp hc with h6 | h6
  · exact absurd (Nat.eq_of_beq_eq_true h6) (by omega)
  · exact sm_w_ts h6
section
variable {Z : sq_Z} {p : Program} {l : Launch} {e : Env} {R : Room} {s : State} {m : MethodId} {args : Array Value} {below : List Frame} {meth : Method} {c : Code} {k d : Nat} {ad : Nat → Nat → Nat} {G : sm_G} {M : sm_M} {H : Heap} {locs : List Loc} {cells slots : Nat} {ls : Array Slot} {pc : Nat} {L : sm_L} {S : sm_S}
theorem sq_newrow (hX : sq_XZ Z ad G M s H k L S ls locs) {a nc ns : Nat} {cA : ClassId} {H1 : Heap} {v0 : Value} (h99 : 99 < sm_fc a) (hcA : Z.2.2.2.2.2.2 (sm_fc a) = cA) (e1 : H1[H.size]? = some (arrV cA (sm_ln a) (fun _ => v0))) (hv : ∀ (ad' : Nat → Nat → Nat) (j : Nat), v0 = cond (sm_tr (sm_fc a) j) (sq_rv ad' none) (.int 0)) (ad' : Nat → Nat → Nat) (had : ad' a (G.2.2.1 a) = H.size) : sq_cell Z.2.2.2.2.2.1 Z.2.2.2.2.2.2 ad' (nc, ns, sm_cu G.2.2.1 a (G.2.2.1 a + 1), sm_zr G.2.2.2 a (G.2.2.1 a)) (sm_z M a (G.2.2.1 a)) a (G.2.2.1 a) H1 := by
  refine ⟨fun h => by omega, fun _ => ?_⟩
  rw [had, e1, hcA]
  congr 1
  refine congrArg _ (funext fun j => ?_)
  unfold sq_sl
  have m1 : sm_z M a (G.2.2.1 a) a (G.2.2.1 a) j = 0 := if_pos ⟨rfl, rfl⟩
  have m2 : sm_zr G.2.2.2 a (G.2.2.1 a) a (G.2.2.1 a) j = none := if_pos ⟨rfl, rfl⟩
  show v0 = cond (sm_tr (sm_fc a) j) (sq_rv ad' (sm_zr G.2.2.2 a (G.2.2.1 a) a (G.2.2.1 a) j)) (.int (sm_z M a (G.2.2.1 a) a (G.2.2.1 a) j))
  rw [m1, m2]
  exact hv ad' j
theorem ci_at_ft {t : ArrayType} (h : 100 ≤ ci_at t) : sq_ft (ci_at t) = newarray.typeOf t ∧ componentBytes (newarray.typeOf t) ≤ 8 ∧ (Cond.arrayClass (newarray.typeOf t)) ∈ sm_ts ∧ (∀ j, sm_tr (ci_at t) j = false) ∧ defaultValue (newarray.typeOf t) = .int 0 := by
  have hw := ck_ac
  simp only [Bool.and_eq_true] at hw
  cases t <;> simp only [ci_at] at h <;> first | omega | skip
  · exact ⟨rfl, by decide, sm_w_ts hw.2, fun _ => rfl, rfl⟩
  · exact ⟨rfl, by decide, sm_w_ts hw.1.2, fun _ => rfl, rfl⟩
  · exact ⟨rfl, by decide, sm_w_ts hw.1.1, fun _ => rfl, rfl⟩
theorem sx_newarray (hC : sq_C p R s m args meth c k d) (hX : sq_XZ Z ad G M s H k L S ls locs) {tag a b len : Nat} {z : Int32} {t : ArrayType} (hd : decode (sm_mb k) pc = .ok (.newarray t, len)) (hci : ci_i k (sm_oc k * 2048) pc tag a b len z (.newarray t) = true) : sq_N Z p l e R s m args below meth c k d ad G M H locs cells slots ls pc S (sm_dis tag a b (pc + len) z L S G M) := by
  obtain ⟨hx, hb, hml, hown, hts, hini, hfr, hlo⟩ := hC
  simp only [ci_i, Bool.and_eq_true] at hci
  obtain ⟨⟨⟨⟨h1, hat⟩, h100⟩, h2⟩, h5000⟩ := hci
  have h1 := Nat.eq_of_beq_eq_true h1
  have h2 := Nat.eq_of_beq_eq_true h2
  have hat := Nat.eq_of_beq_eq_true hat
  have h100 := Nat.le_of_ble_eq_true h100
  have h5000 := Nat.le_of_ble_eq_true h5000
  subst h1; subst h2
  rcases S with _ | ⟨x | x, S⟩
  all_goals try trivial
  intro hck
  rw [Bool.and_eq_true, Bool.and_eq_true] at hck
  obtain ⟨⟨ha, -⟩, hxn⟩ := hck
  have ha := Nat.le_of_ble_eq_true ha
  have hxn : x = nI (sm_ln a) := of_decide_eq_true hxn
  obtain ⟨t1, t2, t3, t4, t5⟩ := ci_at_ft (t := t) (by omega)
  have hR : sq_R _ _ _ _ _ _ _ ad G M s H := hX.1
  have hS1 : ∀ v ∈ S, sq_okv G v := fun v hv => hX.2.2.1 v (List.mem_cons_of_mem _ hv)
  refine sq_made hX ha rfl (fun Q hc hs kk => ?_) (Nat.le_add_right _ _)
  refine va_newaK hx hb (hts _ t3) rfl hd (n := x) (N := sm_ln a) rfl (by rw [hxn]; exact nI_pos (by omega)) (by rw [hxn]; exact nI_clamp (by omega)) (Nat.le_trans (Nat.mul_le_mul h5000 t2) (by decide)) (by omega) (by omega) rfl fun H1 cA e1 z1 o1 hAr hNm => ?_
  have hcA : Z.2.2.2.2.2.2 (sm_fc a) = cA := by
    rw [hR.2.2.2.2.2.2.1.2.1 (sm_fc a)]
    unfold sq_an
    rw [← hat, t1, hNm]; rfl
  obtain ⟨ad1, b1, b2, b3, b4⟩ := sq_born (nc := G.1 + 1) (ns := G.2.1 + sm_ln a) (S1 := S) hX ha hS1 z1 o1 (fun h => by rw [hcA, ← hat, t1]; exact ⟨hAr, by cases t <;> first | exact hNm | (simp only [ci_at] at hat; omega)⟩) (sq_newrow hX (by omega) hcA e1 (fun ad' j => by rw [← hat, t4, t5]; rfl))
  have := kk ad1 H1 b1 b2 b3 b4
  rw [show G.2.1 + sm_ln a - G.2.1 = sm_ln a by omega] at this
  exact this
theorem sx_anewarray (hC : sq_C p R s m args meth c k d) (hX : sq_XZ Z ad G M s H k L S ls locs) (hk : k < 276) {tag a b len : Nat} {z : Int32} {idx : Nat} (hd : decode (sm_mb k) pc = .ok (.anewarray idx, len)) (hci : ci_i k (sm_oc k * 2048) pc tag a b len z (.anewarray idx) = true) : sq_N Z p l e R s m args below meth c k d ad G M H locs cells slots ls pc S (sm_dis tag a b (pc + len) z L S G M) := by
  obtain ⟨hx, hb, hml, hown, hts, hini, hfr, hlo⟩ := hC
  simp only [ci_i, Bool.and_eq_true] at hci
  obtain ⟨⟨⟨⟨⟨⟨h1, hi⟩, hcl⟩, h13⟩, h2⟩, h5000⟩, hap⟩ := hci
  have h1 := Nat.eq_of_beq_eq_true h1
  have h2 := Nat.eq_of_beq_eq_true h2
  have hi : idx < 2048 := Nat.blt_eq ▸ hi
  have hcl := Nat.eq_of_beq_eq_true hcl
  have h13 : (sm_cl (sm_oc k * 2048 + idx)).1 < 13 := Nat.blt_eq ▸ h13
  have h5000 := Nat.le_of_ble_eq_true h5000
  generalize hcv : (sm_cl (sm_oc k * 2048 + idx)).1 = cv at *
  subst h1; subst h2
  rcases S with _ | ⟨x | x, S⟩
  all_goals try trivial
  intro hck
  rw [Bool.and_eq_true, Bool.and_eq_true] at hck
  obtain ⟨⟨ha, -⟩, hxn⟩ := hck
  have ha := Nat.le_of_ble_eq_true ha
  have hxn : x = nI (sm_ln a) := of_decide_eq_true hxn
  have hR : sq_R _ _ _ _ _ _ _ ad G M s H := hX.1
  have hS1 : ∀ v ∈ S, sq_okv G v := fun v hv => hX.2.2.1 v (List.mem_cons_of_mem _ hv)
  have hAO := hR.2.2.2.2.2.2.2.2.2.2.2.2.1 _ (sm_wt_in hap)
  have hft : sq_ft (sm_fc a) = .object (sm_on cv) := by
    rw [sq_ft110 (by omega), ← hcl, show 110 + cv - 110 = cv by omega]
  have hxc : x.toNatClampNeg = sm_ln a := by rw [hxn]; exact nI_clamp (by omega)
  refine sq_made hX ha rfl (fun Q hc hs kk => ?_) (Nat.le_add_right _ _)
  refine W.anew hx hb hown (hts _ (cl_ok hi hcv h13 (oc_lt k hk))) (va_AO.use hAO) rfl hd rfl (by rw [hxn]; exact nI_pos (by omega)) (by rw [hxc]; omega) (by omega) (by rw [hxc]; omega) fun cA kA comp f1 f2 f3 f4 => ?_
  rw [hxc]
  generalize hH1 : H.push ({ cls := cA, slots := Array.replicate (sm_ln a) .null, vm := .none } : Cell) = H1
  have z1 : H1.size = H.size + 1 := by rw [← hH1, Array.size_push]
  have e1 : H1[H.size]? = some (arrV cA (sm_ln a) (fun _ => .null)) := by rw [← hH1, Array.getElem?_push_size, ← arrV_new]
  have o1 : ∀ q : Nat, q < H.size → H1[q]? = H[q]? := fun q hq => by rw [← hH1, Array.getElem?_push, if_neg (Nat.ne_of_lt hq)]
  have hAr : ArrOfT s cA (.object (sm_on cv)) := fun N z => ⟨(fun k h => by cases h), kA, f2, comp, f3⟩
  have hcA : Z.2.2.2.2.2.2 (sm_fc a) = cA := by
    rw [hR.2.2.2.2.2.2.1.2.1 (sm_fc a)]
    unfold sq_an
    rw [hft, f1]; rfl
  obtain ⟨ad1, b1, b2, b3, b4⟩ := sq_born (nc := G.1 + 1) (ns := G.2.1 + sm_ln a) (S1 := S) hX ha hS1 z1 o1 (fun h => by rw [hcA, hft]; exact ⟨hAr, kA, comp, f2, f3, f4, f1⟩) (sq_newrow hX (by omega) hcA e1 (fun ad' j => by rw [sm_tr110 (by omega)]; rfl))
  have := kk ad1 H1 b1 b2 b3 b4
  rw [show G.2.1 + sm_ln a - G.2.1 = sm_ln a by omega] at this
  exact this
theorem sx_getstatic (hC : sq_C p R s m args meth c k d) (hX : sq_XZ Z ad G M s H k L S ls locs) (hk : k < 276) {tag a b len : Nat} {z : Int32} {idx : Nat} (hd : decode (sm_mb k) pc = .ok (.getstatic idx, len)) (hci : ci_i k (sm_oc k * 2048) pc tag a b len z (.getstatic idx) = true) : sq_N Z p l e R s m args below meth c k d ad G M H locs cells slots ls pc S (sm_dis tag a b (pc + len) z L S G M) := by
  obtain ⟨hx, hb, hml, hown, hts, hini, hfr, hlo⟩ := hC
  simp only [ci_i, Bool.and_eq_true] at hci
  obtain ⟨⟨⟨⟨⟨h1, hi⟩, hz⟩, ha1⟩, ha4⟩, h2⟩ := hci
  have h1 := Nat.eq_of_beq_eq_true h1
  have h2 := Nat.eq_of_beq_eq_true h2
  have hi : idx < 2048 := Nat.blt_eq ▸ hi
  have hz := Nat.eq_of_beq_eq_true hz
  have ha1 := Nat.le_of_ble_eq_true ha1
  have ha4 := Nat.le_of_ble_eq_true ha4
  subst h1; subst h2
  intro _
  have hR : sq_R _ _ _ _ _ _ _ ad G M s H := hX.1
  obtain ⟨-, -, cf, kf, fi, f, a1, cell, g1, g2, g3, g4, g5, g6, g7, g8⟩ := hR.2.2.2.2.2.2.2.2.1 a ha1 ha4
  have hlt : a1 < Z.1.size := Nat.not_le.mp g8
  refine sq_pure hX (S1 := .inr (.inr (some (a, 0))) :: S) (fun v hv => by
    rcases List.mem_cons.mp hv with rfl | hv
    · exact Or.inl ⟨by omega, rfl⟩
    · exact hX.2.2.1 v hv) (fun Q kk => W.gets hx hb hown (hts _ (zl_ok hi hz (by omega) (oc_lt k hk))) g1 g2 g3 g4 (by rw [hR.1.2 a1 hlt]; exact g5) (fun q => by rw [q] at g6; cases g6) g7 rfl hd ?_)
  have : ad a 0 = Z.2.1 a := hR.2.2.2.2.1 a (by omega)
  rw [← this]
  exact kk
theorem sx_lookupswitch (hC : sq_C p R s m args meth c k d) (hX : sq_XZ Z ad G M s H k L S ls locs) {tag a b len : Nat} {z : Int32} {dflt : Int} {ps : Array (Int × Int)} (hd : decode (sm_mb k) pc = .ok (.lookupswitch dflt ps, len)) (hci : ci_i k (sm_oc k * 2048) pc tag a b len z (.lookupswitch dflt ps) = true) : sq_N Z p l e R s m args below meth c k d ad G M H locs cells slots ls pc S (sm_dis tag a b (pc + len) z L S G M) := by
  obtain ⟨hx, hb, hml, hown, hts, hini, hfr, hlo⟩ := hC
  simp only [ci_i, Bool.and_eq_true] at hci
  obtain ⟨⟨⟨h1, h3⟩, h4⟩, h5⟩ := hci
  have h1 := Nat.eq_of_beq_eq_true h1
  have h3 := of_decide_eq_true h3
  subst h1
  rcases S with _ | ⟨x | x, S⟩
  all_goals try trivial
  exact sq_pure hX (S1 := S) (fun v hv => hX.2.2.1 v (List.mem_cons_of_mem _ hv)) (fun Q kk => lv_lookup hx hb hd h5 rfl (sq_lk_ok h3 x h4) kk)
theorem sx_tableswitch (hC : sq_C p R s m args meth c k d) (hX : sq_XZ Z ad G M s H k L S ls locs) {tag a b len : Nat} {z : Int32} {dflt lo hi : Int} {offs : Array Int} (hd : decode (sm_mb k) pc = .ok (.tableswitch dflt lo hi offs, len)) (hci : ci_i k (sm_oc k * 2048) pc tag a b len z (.tableswitch dflt lo hi offs) = true) : sq_N Z p l e R s m args below meth c k d ad G M H locs cells slots ls pc S (sm_dis tag a b (pc + len) z L S G M) := by
  obtain ⟨hx, hb, hml, hown, hts, hini, hfr, hlo⟩ := hC
  simp only [ci_i, Bool.and_eq_true] at hci
  obtain ⟨⟨⟨h1, h3⟩, h4⟩, h5⟩ := hci
  have h1 := Nat.eq_of_beq_eq_true h1
  have h3 := of_decide_eq_true h3
  have h5 := of_decide_eq_true h5
  subst h1
  rcases S with _ | ⟨x | x, S⟩
  all_goals try trivial
  obtain ⟨w1, w2⟩ := sq_sw_ok (sd := sm_sd a) x h4
  refine sq_pure hX (S1 := S) (fun v hv => hX.2.2.1 v (List.mem_cons_of_mem _ hv)) (fun Q kk => ?_)
  rw [Array.length_toList] at w1 w2
  by_cases ho : x.toInt < lo ∨ hi < x.toInt
  · rw [w1 (by omega)] at kk
    exact lv_tableOut hx hb hd ho h3 kk
  · obtain ⟨off, g1, g2⟩ := w2 (x.toInt - lo).toNat (by omega) (by omega)
    exact lv_tableIn hx hb hd (by omega) (by omega) (by rw [← Array.getElem?_toList]; exact g1) g2 kk
end
