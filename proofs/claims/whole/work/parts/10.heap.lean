/-! ONE INSTRUCTION: fields, rows, making -/
theorem sq_ft110 {c : Nat} (h : 110 ≤ c) : sq_ft c = .object (sm_on (c - 110)) := by
  unfold sq_ft
  split
  · omega
  · omega
  · omega
  · rfl
theorem sq_clamp {x : Int32} {n : Nat} (h : sm_in x n = true) : x.toNatClampNeg < n := by
  have := sm_in_iff.mp h
  omega
section
variable {Z : sq_Z} {p : Program} {l : Launch} {e : Env} {R : Room} {s : State} {m : MethodId} {args : Array Value} {below : List Frame} {meth : Method} {c : Code} {k d : Nat} {ad : Nat → Nat → Nat} {G : sm_G} {M : sm_M} {H : Heap} {locs : List Loc} {cells slots : Nat} {ls : Array Slot} {pc : Nat} {L : sm_L} {S : sm_S}
theorem sx_getfield (hC : sq_C p R s m args meth c k d) (hX : sq_XZ Z ad G M s H k L S ls locs) (hk : k < 276) {tag a b len : Nat} {z : Int32} {idx : Nat} (hd : decode (sm_mb k) pc = .ok (.getfield idx, len)) (hci : ci_i k (sm_oc k * 2048) pc tag a b len z (.getfield idx) = true) : sq_N Z p l e R s m args below meth c k d ad G M H locs cells slots ls pc S (sm_dis tag a b (pc + len) z L S G M) := by
  obtain ⟨hx, hb, hml, hown, hts, hini, hfr, hlo⟩ := hC
  simp only [ci_i, Bool.and_eq_true, Bool.or_eq_true] at hci
  obtain ⟨⟨hcf, hor⟩, h2⟩ := hci
  have h2 := Nat.eq_of_beq_eq_true h2
  subst h2
  obtain ⟨hb1, ha13, hlink⟩ := fl_ok hcf (oc_lt k hk)
  have hR : sq_R _ _ _ _ _ _ _ ad G M s H := hX.1
  obtain ⟨hS, hfc', kC, hkC, hkind⟩ := hR.2.2.2.2.2.2.1.1 a ha13
  obtain ⟨cf, kf, fi, fd, hfi, hsl⟩ := hS b hb1
  have hst := (u_facts hfc' hkC (u_lays hts (lay_ok ha13) hb1) hfi).1
  rcases hor with ⟨h1, htr⟩ | ⟨h1, htr⟩
  · have h1 := Nat.eq_of_beq_eq_true h1
    subst h1
    rcases S with _ | ⟨x | x | _ | ⟨f, i⟩, S⟩
    all_goals try trivial
    intro hfc
    have hfc := Nat.eq_of_beq_eq_true hfc
    obtain ⟨h10, hi, cell, q1, q2, q3, q4⟩ := hR.obj (hX.2.2.1 _ List.mem_cons_self) hfc (by omega)
    refine sq_pure hX (S1 := .inl (M f i b) :: S) (fun v hv => by
      rcases List.mem_cons.mp hv with rfl | hv
      · trivial
      · exact hX.2.2.1 v (List.mem_cons_of_mem _ hv)) (fun Q kk => W.getf hx hb hown (hts _ hlink) hfi hst q1 (by rw [q3]; exact fun h => by cases h) (v := .int (M f i b)) ?_ rfl rfl hd kk)
    rw [hsl, q4 b hb1]
    unfold sq_sl
    rw [hfc, show sm_tr a b = false by simpa using htr]; rfl
  · have h1 := Nat.eq_of_beq_eq_true h1
    subst h1
    rcases S with _ | ⟨x | x | _ | ⟨f, i⟩, S⟩
    all_goals try trivial
    intro hfc
    have hfc := Nat.eq_of_beq_eq_true hfc
    obtain ⟨h10, hi, cell, q1, q2, q3, q4⟩ := hR.obj (hX.2.2.1 _ List.mem_cons_self) hfc (by omega)
    refine sq_pure hX (S1 := .inr (.inr (G.2.2.2 f i b)) :: S) (fun v hv => by
      rcases List.mem_cons.mp hv with rfl | hv
      · exact hR.2.2.2.1 f i b h10 hi (fun h => by omega)
      · exact hX.2.2.1 v (List.mem_cons_of_mem _ hv)) (fun Q kk => W.getf hx hb hown (hts _ hlink) hfi hst q1 (by rw [q3]; exact fun h => by cases h) (v := sq_rv ad (G.2.2.2 f i b)) ?_ rfl rfl hd kk)
    rw [hsl, q4 b hb1]
    unfold sq_sl
    rw [hfc, htr]; rfl
theorem sq_put (hC : sq_C p R s m args meth c k d) (hR : sq_RZ Z ad G M s H) (hlocs : ∀ q ∈ locs, Z.1.size ≤ q.base) (hk : k < 276) {a b idx f i : Nat} (hcf : ci_f (sm_oc k * 2048) idx a b = true) (hok : sq_ok G (some (f, i))) (hfc : sm_fc f = a) (hd : decode (sm_mb k) pc = .ok (.putfield idx, 3)) (hfin : ci_fin k a b = true) {v : Value} (hn : narrow (sm_ty a b) v = v) (hfit : fits (sm_ty a b) v = true) {G' : sm_G} {M' : sm_M} (hcnt : G'.2.2.1 = G.2.2.1)
    (hM : ∀ g j k, ¬ (g = f ∧ j = i) → M' g j k = M g j k) (hG : ∀ g j k, ¬ (g = f ∧ j = i) → G'.2.2.2 g j k = G.2.2.2 g j k) (hv : ∀ j, sq_sl ad G' M' f i j = updV (sq_sl ad G M f i) b v j) (href : ∀ k, sq_ok G (G'.2.2.2 f i k)) {rest : List Value} {Q : State → Prop}
    (kk : ∀ H1 locs1, sq_RZ Z ad G' M' s H1 → (∀ q ∈ locs1, Z.1.size ≤ q.base) → W p l e R s m args below meth c H1 locs1 cells slots Q (F0 m (pc + 3) ls rest)) : W p l e R s m args below meth c H locs cells slots Q (F0 m pc ls (v :: .ref (ad f i) :: rest)) := by
  obtain ⟨hx, hb, hml, hown, hts, hini, hfr, hlo⟩ := hC
  obtain ⟨hb1, ha13, hlink⟩ := fl_ok hcf (oc_lt k hk)
  have hR : sq_R _ _ _ _ _ _ _ ad G M s H := hR
  obtain ⟨hS, hfc', kC, hkC, hkind⟩ := hR.2.2.2.2.2.2.1.1 a ha13
  obtain ⟨cf, kf, fi, fd, hfi, hsl⟩ := hS b hb1
  have hst := (u_facts hfc' hkC (u_lays hts (lay_ok ha13) hb1) hfi).1
  obtain ⟨h10, hi, cell, q1, q2, q3, q4⟩ := hR.obj hok hfc (by omega)
  have hap : ∀ x y, x < sm_nf a → y < sm_nf a → x ≠ y → (Z.2.2.2.2.2.1).2 a x ≠ (Z.2.2.2.2.2.1).2 a y := by
    intro x y hx hy hne
    obtain ⟨_, _, _, fa, hia, ea⟩ := hS x hx
    obtain ⟨_, _, _, fb, hib, eb⟩ := hS y hy
    rw [← ea, ← eb]
    refine u_apart (u_lays hts (lay_ok ha13) hx) (u_lays hts (lay_ok ha13) hy) hia hib ?_
    rw [(State.fieldFound?_type hia (ty_ok ha13 hx)).1, (State.fieldFound?_type hib (ty_ok ha13 hy)).1]
    exact nm_ok ha13 x hx y hy hne
  have hend : ∀ H' : Heap, H'[ad f i]? = some (cell.setSlot fd.slot v) → H'.size = H.size → (∀ q, q ≠ ad f i → H'[q]? = H[q]?) → W p l e R s m args below meth c H' (locs ++ [⟨ad f i, fd.slot⟩]) cells slots Q (F0 m (pc + 3) ls rest) := by
    intro H' e1 e2 e3
    rw [hsl] at e1
    refine kk H' _ (sq_R.upd hR h10 hi hcnt e2 e3 hM hG ⟨fun hlt => ?_, fun hgt => by omega⟩ (fun k _ => href k)) (sq_loc_end hlocs (hR.2.1 f i h10 hi).1)
    rw [hfc]
    exact ⟨_, e1, q2, q3, fun j hj => by rw [hv j]; exact t_set q4 hap hb1 v j hj⟩
  have hlt : fd.slot < cell.slots.size := by rw [hsl]; exact k2_hasslot (q4 b hb1)
  have hlay := hts _ (lay_ok ha13 _ (u_in_lay hb1))
  unfold u_lay at hlay
  by_cases hF : (sm_ct a b).2.2.2 = true
  · rw [if_pos hF] at hlay
    unfold ci_fin at hfin
    rw [hF] at hfin
    simp only [Bool.not_true, Bool.false_or, Bool.and_eq_true, decide_eq_true_eq] at hfin
    obtain ⟨hi1, hi2⟩ := hfin
    have hcf' : m.cls = cf := by
      obtain ⟨_, _, c', _, _, _, -, -, hf', -, -, -, hown2, -⟩ := Cond.laysFinal_spec hlay
      have e1 : c' = cf := by have := hfi.symm.trans hf'; simp at this; exact this.1.symm
      rw [hi2] at hown2
      rw [← e1]; exact Option.some.inj (hown.symm.trans hown2)
    have h6 := u_fits hfc' hkC hkind (Or.inr hlay) hfi (ty_ok ha13 hb1) hn hfit
    exact W.putFinK hx hb hown (hts _ hlink) hfi hst hcf' (hini hi1) (by rw [q2]; exact h6) q1 q3 hlt rfl rfl hd hend
  · rw [if_neg hF] at hlay
    have h6 := u_store hfc' hkC hkind hlay hfi (ty_ok ha13 hb1) hn hfit
    exact W.putK hx hb (f := fd) ⟨hown, hts _ hlink, ⟨_, _, _, hfi⟩, hst⟩ (by rw [q2]; exact h6) q1 q3 hlt rfl rfl hd hend
theorem sx_putfield (hC : sq_C p R s m args meth c k d) (hX : sq_XZ Z ad G M s H k L S ls locs) (hk : k < 276) {tag a b len : Nat} {z : Int32} {idx : Nat} (hd : decode (sm_mb k) pc = .ok (.putfield idx, len)) (hci : ci_i k (sm_oc k * 2048) pc tag a b len z (.putfield idx) = true) : sq_N Z p l e R s m args below meth c k d ad G M H locs cells slots ls pc S (sm_dis tag a b (pc + len) z L S G M) := by
  simp only [ci_i, Bool.and_eq_true, Bool.or_eq_true] at hci
  obtain ⟨⟨⟨hcf, hor⟩, h2⟩, hfin⟩ := hci
  have h2 := Nat.eq_of_beq_eq_true h2
  subst h2
  rcases hor with ⟨⟨h1, htr⟩, hty⟩ | ⟨⟨h1, htr⟩, hty⟩
  · have h1 := Nat.eq_of_beq_eq_true h1
    have hty := of_decide_eq_true hty
    have htr : sm_tr a b = false := by simpa using htr
    subst h1
    rcases S with _ | ⟨x | x, _ | ⟨y | y | _ | ⟨f, i⟩, S⟩⟩
    all_goals try trivial
    intro hfc
    have hfc := Nat.eq_of_beq_eq_true hfc
    refine sq_heap hX (S1 := S) (G1 := G) (M1 := sm_u M f i b x) rfl rfl rfl (fun v hv => hX.2.2.1 v (List.mem_cons_of_mem _ (List.mem_cons_of_mem _ hv))) (fun Q kk => ?_)
    refine sq_put hC hX.1 hX.2.2.2 hk hcf (hX.2.2.1 _ (List.mem_cons_of_mem _ List.mem_cons_self)) hfc hd hfin (v := .int x) (by rw [hty]; rfl) (by rw [hty]; rfl) rfl (fun g j k h => ?_) (fun _ _ _ _ => rfl) (fun j => ?_) (fun kx => ?_) kk
    · exact if_neg (fun q => h ⟨q.1, q.2.1⟩)
    · unfold sq_sl updV
      rw [hfc]
      by_cases e : j = b
      · subst e
        rw [htr, if_pos rfl]
        show Value.int (sm_u M f i j x f i j) = _
        simp [sm_u]
      · rw [if_neg e]
        have : sm_u M f i b x f i j = M f i j := if_neg (fun q => e q.2.2)
        rw [this]
    · have hR : sq_R _ _ _ _ _ _ _ ad G M s H := hX.1
      have hok := hX.2.2.1 _ (List.mem_cons_of_mem _ List.mem_cons_self)
      obtain ⟨hb1, ha13, -⟩ := fl_ok hcf (oc_lt k hk)
      obtain ⟨h10, hi, -⟩ := hR.obj hok hfc (by omega)
      exact hR.2.2.2.1 f i kx h10 hi (fun h => by omega)
  · have h1 := Nat.eq_of_beq_eq_true h1
    subst h1
    rcases S with _ | ⟨x | x | x, _ | ⟨y | y | _ | ⟨f, i⟩, S⟩⟩
    all_goals try trivial
    intro hfc
    have hfc := Nat.eq_of_beq_eq_true hfc
    refine sq_heap hX (S1 := S) (G1 := (G.1, G.2.1, G.2.2.1, sm_ur G.2.2.2 f i b x)) (M1 := M) rfl rfl rfl (fun v hv => hX.2.2.1 v (List.mem_cons_of_mem _ (List.mem_cons_of_mem _ hv))) (fun Q kk => ?_)
    have hvr : fits (sm_ty a b) (sq_rv ad x) = true ∧ narrow (sm_ty a b) (sq_rv ad x) = sq_rv ad x := by
      generalize sm_ty a b = ty at hty
      cases ty <;> simp [ci_ref] at hty <;> cases x <;> exact ⟨rfl, rfl⟩
    refine sq_put hC hX.1 hX.2.2.2 hk hcf (hX.2.2.1 _ (List.mem_cons_of_mem _ List.mem_cons_self)) hfc hd hfin (v := sq_rv ad x) hvr.2 hvr.1 (G' := (G.1, G.2.1, G.2.2.1, sm_ur G.2.2.2 f i b x)) (M' := M) rfl (fun _ _ _ _ => rfl) (fun g j k h => ?_) (fun j => ?_) (fun kx => ?_) kk
    · exact if_neg (fun q => h ⟨q.1, q.2.1⟩)
    · unfold sq_sl updV
      rw [hfc]
      by_cases e : j = b
      · subst e
        rw [htr, if_pos rfl]
        show sq_rv ad (sm_ur G.2.2.2 f i j x f i j) = _
        simp [sm_ur]
      · rw [if_neg e]
        have : sm_ur G.2.2.2 f i b x f i j = G.2.2.2 f i j := if_neg (fun q => e q.2.2)
        show cond (sm_tr a j) (sq_rv ad (sm_ur G.2.2.2 f i b x f i j)) _ = _
        rw [this]
    · have hR : sq_R _ _ _ _ _ _ _ ad G M s H := hX.1
      have hok := hX.2.2.1 _ (List.mem_cons_of_mem _ List.mem_cons_self)
      obtain ⟨hb1, ha13, -⟩ := fl_ok hcf (oc_lt k hk)
      obtain ⟨h10, hi, -⟩ := hR.obj hok hfc (by omega)
      show sq_ok G (sm_ur G.2.2.2 f i b x f i kx)
      by_cases e : kx = b
      · subst e
        have : sm_ur G.2.2.2 f i kx x f i kx = x := by simp [sm_ur]
        rw [this]; exact hX.2.2.1 _ List.mem_cons_self
      · have : sm_ur G.2.2.2 f i b x f i kx = G.2.2.2 f i kx := if_neg (fun q => e q.2.2)
        rw [this]; exact hR.2.2.2.1 f i kx h10 hi (fun h => by omega)
theorem sx_iaload (hC : sq_C p R s m args meth c k d) (hX : sq_XZ Z ad G M s H k L S ls locs) {tag a b len : Nat} {z : Int32} (hd : decode (sm_mb k) pc = .ok (.iaload, len)) (hci : ci_i k (sm_oc k * 2048) pc tag a b len z .iaload = true) : sq_N Z p l e R s m args below meth c k d ad G M H locs cells slots ls pc S (sm_dis tag a b (pc + len) z L S G M) := by
  obtain ⟨hx, hb, hml, hown, hts, hini, hfr, hlo⟩ := hC
  simp only [ci_i, Bool.and_eq_true] at hci
  obtain ⟨h1, h2⟩ := hci
  have h1 := Nat.eq_of_beq_eq_true h1
  have h2 := Nat.eq_of_beq_eq_true h2
  subst h1; subst h2
  rcases S with _ | ⟨x | x, _ | ⟨y | y | _ | ⟨f, i⟩, S⟩⟩
  all_goals try trivial
  intro hck
  rw [Bool.and_eq_true] at hck
  have hR : sq_R _ _ _ _ _ _ _ ad G M s H := hX.1
  obtain ⟨cell, q1, q2, q3, q4, q5, q6⟩ := hR.arr (hX.2.2.1 _ (List.mem_cons_of_mem _ List.mem_cons_self)) (Nat.eq_of_beq_eq_true hck.1)
  have hin := sm_in_iff.mp hck.2
  exact sq_pure hX (S1 := .inl (M f i x.toNatClampNeg) :: S) (fun v hv => by
    rcases List.mem_cons.mp hv with rfl | hv
    · trivial
    · exact hX.2.2.1 v (List.mem_cons_of_mem _ (List.mem_cons_of_mem _ hv))) (fun Q kk => W.iald (v := .int (M f i x.toNatClampNeg)) hx hb q1 q2 q3 (fun h => h.elim (fun h => hin (Or.inl h)) (fun h => by have := sq_clamp hck.2; omega)) (q6 _ (sq_clamp hck.2)) rfl rfl hd kk)
theorem sq_row (hR : sq_RZ Z ad G M s H) {f i : Nat} (hok : sq_ok G (some (f, i))) (h : 100 < sm_fc f) : 10 ≤ f ∧ i < G.2.2.1 f ∧ H[ad f i]? = some (arrV (Z.2.2.2.2.2.2 (sm_fc f)) (sm_ln f) (sq_sl ad G M f i)) ∧ ArrOfT s (Z.2.2.2.2.2.2 (sm_fc f)) (sq_ft (sm_fc f)) ∧ va_RA s (Z.2.2.2.2.2.2 (sm_fc f)) (sq_ft (sm_fc f)) ∧ sm_len G f = sm_ln f := by
  have hR : sq_R _ _ _ _ _ _ _ ad G M s H := hR
  rcases hok with ⟨h8, -⟩ | ⟨h10, hi⟩
  · have : ∀ f, f < 8 → sm_fc f ≤ 100 := by decide
    have := this f h8
    omega
  · have hK := hR.2.2.2.2.2.2.1.2.2 f h10 (by omega) (by omega)
    exact ⟨h10, hi, (hR.2.1 f i h10 hi).2.2 (by omega), hK.1, hK.2, sm_len_ne (by omega)⟩
theorem sx_baload (hC : sq_C p R s m args meth c k d) (hX : sq_XZ Z ad G M s H k L S ls locs) {tag a b len : Nat} {z : Int32} (hd : decode (sm_mb k) pc = .ok (.baload, len)) (hci : ci_i k (sm_oc k * 2048) pc tag a b len z .baload = true) : sq_N Z p l e R s m args below meth c k d ad G M H locs cells slots ls pc S (sm_dis tag a b (pc + len) z L S G M) := by
  obtain ⟨hx, hb, hml, hown, hts, hini, hfr, hlo⟩ := hC
  simp only [ci_i, Bool.and_eq_true] at hci
  obtain ⟨h1, h2⟩ := hci
  have h1 := Nat.eq_of_beq_eq_true h1
  have h2 := Nat.eq_of_beq_eq_true h2
  subst h1; subst h2
  rcases S with _ | ⟨x | x, _ | ⟨y | y | _ | ⟨f, i⟩, S⟩⟩
  all_goals try trivial
  intro hck
  rw [Bool.and_eq_true, Bool.or_eq_true] at hck
  have hfc : sm_fc f = 101 ∨ sm_fc f = 102 := hck.1.imp Nat.eq_of_beq_eq_true Nat.eq_of_beq_eq_true
  obtain ⟨h10, hi, q1, q2, -, q3⟩ := sq_row hX.1 (hX.2.2.1 _ (List.mem_cons_of_mem _ List.mem_cons_self)) (by omega)
  have hlt := sq_clamp hck.2
  have hin := sm_in_iff.mp hck.2
  rw [q3] at hlt hin
  refine sq_pure hX (S1 := .inl (M f i x.toNatClampNeg) :: S) (fun v hv => by
    rcases List.mem_cons.mp hv with rfl | hv
    · trivial
    · exact hX.2.2.1 v (List.mem_cons_of_mem _ (List.mem_cons_of_mem _ hv))) (fun Q kk => ?_)
  rcases hfc with hfc | hfc
  · rw [hfc] at q1 q2
    exact W.bald (v := .int (M f i x.toNatClampNeg)) hx hb q1 (q2 _ _) (fun q => by cases q) (by rw [arrV_size]; exact hin) (by rw [arrV_read _ _ hlt]; unfold sq_sl; rw [hfc, sm_tr101]; rfl) rfl rfl hd kk
  · rw [hfc] at q1 q2
    exact W.zald (v := .int (M f i x.toNatClampNeg)) hx hb q1 (q2 _ _) (fun q => by cases q) (by rw [arrV_size]; exact hin) (by rw [arrV_read _ _ hlt]; unfold sq_sl; rw [hfc, sm_tr102]; rfl) rfl rfl hd kk
theorem sx_aaload (hC : sq_C p R s m args meth c k d) (hX : sq_XZ Z ad G M s H k L S ls locs) {tag a b len : Nat} {z : Int32} (hd : decode (sm_mb k) pc = .ok (.aaload, len)) (hci : ci_i k (sm_oc k * 2048) pc tag a b len z .aaload = true) : sq_N Z p l e R s m args below meth c k d ad G M H locs cells slots ls pc S (sm_dis tag a b (pc + len) z L S G M) := by
  obtain ⟨hx, hb, hml, hown, hts, hini, hfr, hlo⟩ := hC
  simp only [ci_i, Bool.and_eq_true] at hci
  obtain ⟨h1, h2⟩ := hci
  have h1 := Nat.eq_of_beq_eq_true h1
  have h2 := Nat.eq_of_beq_eq_true h2
  subst h1; subst h2
  rcases S with _ | ⟨x | x, _ | ⟨y | y | _ | ⟨f, i⟩, S⟩⟩
  all_goals try trivial
  intro hck
  rw [Bool.and_eq_true] at hck
  have hfc := Nat.le_of_ble_eq_true hck.1
  have hR : sq_R _ _ _ _ _ _ _ ad G M s H := hX.1
  obtain ⟨h10, hi, q1, q2, -, q3⟩ := sq_row hX.1 (hX.2.2.1 _ (List.mem_cons_of_mem _ List.mem_cons_self)) (by omega)
  have hlt := sq_clamp hck.2
  have hin := sm_in_iff.mp hck.2
  rw [q3] at hlt hin
  refine sq_pure hX (S1 := .inr (.inr (G.2.2.2 f i x.toNatClampNeg)) :: S) (fun v hv => by
    rcases List.mem_cons.mp hv with rfl | hv
    · exact hR.2.2.2.1 f i _ h10 hi (fun _ => hlt)
    · exact hX.2.2.1 v (List.mem_cons_of_mem _ (List.mem_cons_of_mem _ hv))) (fun Q kk => ?_)
  rw [sq_ft110 hfc] at q2
  exact W.aald (v := sq_rv ad (G.2.2.2 f i x.toNatClampNeg)) (ty := .object (sm_on (sm_fc f - 110))) hx hb q1 (q2 _ _) rfl (fun q => by cases q) (by rw [arrV_size]; exact hin) (by rw [arrV_read _ _ hlt]; unfold sq_sl; rw [sm_tr110 hfc]; rfl) rfl rfl hd kk
theorem sx_arraylength (hC : sq_C p R s m args meth c k d) (hX : sq_XZ Z ad G M s H k L S ls locs) {tag a b len : Nat} {z : Int32} (hd : decode (sm_mb k) pc = .ok (.arraylength, len)) (hci : ci_i k (sm_oc k * 2048) pc tag a b len z .arraylength = true) : sq_N Z p l e R s m args below meth c k d ad G M H locs cells slots ls pc S (sm_dis tag a b (pc + len) z L S G M) := by
  obtain ⟨hx, hb, hml, hown, hts, hini, hfr, hlo⟩ := hC
  simp only [ci_i, Bool.and_eq_true] at hci
  obtain ⟨h1, h2⟩ := hci
  have h1 := Nat.eq_of_beq_eq_true h1
  have h2 := Nat.eq_of_beq_eq_true h2
  subst h1; subst h2
  rcases S with _ | ⟨y | y | _ | ⟨f, i⟩, S⟩
  all_goals try trivial
  intro hck
  have hfc := Nat.le_of_ble_eq_true hck
  have hR : sq_R _ _ _ _ _ _ _ ad G M s H := hX.1
  refine sq_pure hX (S1 := .inl (Int32.ofNat (sm_len G f)) :: S) (fun v hv => by
    rcases List.mem_cons.mp hv with rfl | hv
    · trivial
    · exact hX.2.2.1 v (List.mem_cons_of_mem _ hv)) (fun Q kk => ?_)
  by_cases h100 : sm_fc f = 100
  · obtain ⟨cell, q1, q2, q3, q4, q5, q6⟩ := hR.arr (hX.2.2.1 _ List.mem_cons_self) h100
    exact W.alen hx hb q1 q2 q5 rfl rfl hd kk
  · obtain ⟨h10, hi, q1, q2, -, q3⟩ := sq_row hX.1 (hX.2.2.1 _ List.mem_cons_self) (by omega)
    exact W.alen hx hb q1 (q2 _ _) (by rw [arrV_size, q3] <;> rfl) rfl rfl hd kk
theorem sq_rowput (hR : sq_RZ Z ad G M s H) {f i j : Nat} (h10 : 10 ≤ f) (hi : i < G.2.2.1 f) {v : Value} {G' : sm_G} {M' : sm_M} (hcnt : G'.2.2.1 = G.2.2.1) {H' : Heap} {cA : ClassId} (hcA : cA = Z.2.2.2.2.2.2 (sm_fc f)) (hfc : 99 < sm_fc f) (e1 : H'[ad f i]? = some ((arrV cA (sm_ln f) (sq_sl ad G M f i)).setSlot j v)) (e2 : H'.size = H.size) (e3 : ∀ q, q ≠ ad f i → H'[q]? = H[q]?)
    (hM : ∀ g j k, ¬ (g = f ∧ j = i) → M' g j k = M g j k) (hG : ∀ g j k, ¬ (g = f ∧ j = i) → G'.2.2.2 g j k = G.2.2.2 g j k) (hv : ∀ q, sq_sl ad G' M' f i q = updV (sq_sl ad G M f i) j v q) (href : ∀ k, k < sm_ln f → sq_ok G (G'.2.2.2 f i k)) : sq_RZ Z ad G' M' s H' := by
  have hR : sq_R _ _ _ _ _ _ _ ad G M s H := hR
  refine sq_R.upd hR h10 hi hcnt e2 e3 hM hG ⟨fun hlt => by omega, fun _ => ?_⟩ (fun k hk => href k (hk hfc))
  rw [e1, arrV_store, hcA]
  congr 1
  exact congrArg _ (funext fun q => (hv q).symm)
theorem sx_iastore (hC : sq_C p R s m args meth c k d) (hX : sq_XZ Z ad G M s H k L S ls locs) {tag a b len : Nat} {z : Int32} (hd : decode (sm_mb k) pc = .ok (.iastore, len)) (hci : ci_i k (sm_oc k * 2048) pc tag a b len z .iastore = true) : sq_N Z p l e R s m args below meth c k d ad G M H locs cells slots ls pc S (sm_dis tag a b (pc + len) z L S G M) := by
  obtain ⟨hx, hb, hml, hown, hts, hini, hfr, hlo⟩ := hC
  simp only [ci_i, Bool.and_eq_true] at hci
  obtain ⟨h1, h2⟩ := hci
  have h1 := Nat.eq_of_beq_eq_true h1
  have h2 := Nat.eq_of_beq_eq_true h2
  subst h1; subst h2
  rcases S with _ | ⟨w | w, _ | ⟨x | x, _ | ⟨y | y | _ | ⟨f, i⟩, S⟩⟩⟩
  all_goals try trivial
  intro hck
  rw [Bool.and_eq_true, Bool.and_eq_true] at hck
  obtain ⟨⟨hfc, h10⟩, hin⟩ := hck
  have hfc := Nat.eq_of_beq_eq_true hfc
  have h10 := Nat.le_of_ble_eq_true h10
  have hR : sq_R _ _ _ _ _ _ _ ad G M s H := hX.1
  have hi : i < G.2.2.1 f := by
    rcases hX.2.2.1 _ (List.mem_cons_of_mem _ (List.mem_cons_of_mem _ List.mem_cons_self)) with ⟨h8, -⟩ | ⟨-, h⟩
    · omega
    · exact h
  have q1 := (hR.2.1 f i h10 hi).2.2 (by omega)
  have q2 := (hR.2.2.2.2.2.2.1.2.2 f h10 (by omega) (by omega)).1
  rw [hfc] at q1 q2
  rw [sm_len_ne (by omega)] at hin
  have hlt := sq_clamp hin
  have hin := sm_in_iff.mp hin
  refine sq_heap hX (S1 := S) (G1 := G) (M1 := sm_u M f i x.toNatClampNeg w) rfl rfl rfl (fun v hv => hX.2.2.1 v (List.mem_cons_of_mem _ (List.mem_cons_of_mem _ (List.mem_cons_of_mem _ hv)))) (fun Q kk => ?_)
  refine W.iast hx hb q1 (q2 _ _) (fun q => by cases q) (by rw [arrV_size]; exact hin) rfl rfl hd fun H1 e1 e2 e3 => ?_
  refine kk H1 _ (sq_rowput hX.1 h10 hi rfl (by rw [hfc]) (by omega) e1 e2 e3 (fun g j k h => if_neg (fun q => h ⟨q.1, q.2.1⟩)) (fun _ _ _ _ => rfl) (fun q => ?_) (fun kx hkx => hR.2.2.2.1 f i kx h10 hi (fun _ => hkx))) (sq_loc_end hX.2.2.2 (hR.2.1 f i h10 hi).1)
  unfold sq_sl updV
  rw [hfc, sm_tr100]
  by_cases e : q = x.toNatClampNeg
  · subst e
    rw [if_pos rfl]
    show Value.int (sm_u M f i x.toNatClampNeg w f i x.toNatClampNeg) = _
    simp [sm_u]
  · rw [if_neg e]
    have : sm_u M f i x.toNatClampNeg w f i q = M f i q := if_neg (fun q => e q.2.2)
    rw [this]
    rfl
theorem sx_bastore (hC : sq_C p R s m args meth c k d) (hX : sq_XZ Z ad G M s H k L S ls locs) {tag a b len : Nat} {z : Int32} (hd : decode (sm_mb k) pc = .ok (.bastore, len)) (hci : ci_i k (sm_oc k * 2048) pc tag a b len z .bastore = true) : sq_N Z p l e R s m args below meth c k d ad G M H locs cells slots ls pc S (sm_dis tag a b (pc + len) z L S G M) := by
  obtain ⟨hx, hb, hml, hown, hts, hini, hfr, hlo⟩ := hC
  simp only [ci_i, Bool.and_eq_true] at hci
  obtain ⟨h1, h2⟩ := hci
  have h1 := Nat.eq_of_beq_eq_true h1
  have h2 := Nat.eq_of_beq_eq_true h2
  subst h1; subst h2
  rcases S with _ | ⟨w | w, _ | ⟨x | x, _ | ⟨y | y | _ | ⟨f, i⟩, S⟩⟩⟩
  all_goals try trivial
  intro hck
  rw [Bool.and_eq_true, Bool.and_eq_true, Bool.or_eq_true] at hck
  obtain ⟨⟨hfc, h10⟩, hin⟩ := hck
  have hfc : sm_fc f = 101 ∨ sm_fc f = 102 := hfc.imp Nat.eq_of_beq_eq_true Nat.eq_of_beq_eq_true
  have hR : sq_R _ _ _ _ _ _ _ ad G M s H := hX.1
  obtain ⟨h10, hi, q1, q2, -, q3⟩ := sq_row hX.1 (hX.2.2.1 _ (List.mem_cons_of_mem _ (List.mem_cons_of_mem _ List.mem_cons_self))) (by omega)
  rw [q3] at hin
  have hlt := sq_clamp hin
  have hin := sm_in_iff.mp hin
  refine sq_heap hX (S1 := S) (G1 := G) (M1 := sm_u M f i x.toNatClampNeg (sm_nar (sm_fc f) w)) rfl rfl rfl (fun v hv => hX.2.2.1 v (List.mem_cons_of_mem _ (List.mem_cons_of_mem _ (List.mem_cons_of_mem _ hv)))) (fun Q kk => ?_)
  have fin : ∀ (ty : FieldType), (∀ kx, sm_tr (sm_fc f) kx = false) → narrow ty (.int w) = .int (sm_nar (sm_fc f) w) → ∀ H1 : Heap, H1[ad f i]? = some ((arrV (Z.2.2.2.2.2.2 (sm_fc f)) (sm_ln f) (sq_sl ad G M f i)).setSlot x.toNatClampNeg (narrow ty (.int w))) → H1.size = H.size → (∀ q, q ≠ ad f i → H1[q]? = H[q]?) → W p l e R s m args below meth c H1 (locs ++ [⟨ad f i, x.toNatClampNeg⟩]) cells slots Q (F0 m (pc + 1) ls (S.map (sq_v ad))) := by
    intro ty htr hnar H1 e1 e2 e3
    rw [hnar] at e1
    refine kk H1 _ (sq_rowput hX.1 h10 hi rfl rfl (by omega) e1 e2 e3 (fun g j k h => if_neg (fun q => h ⟨q.1, q.2.1⟩)) (fun _ _ _ _ => rfl) (fun q => ?_) (fun kx hkx => hR.2.2.2.1 f i kx h10 hi (fun _ => hkx))) (sq_loc_end hX.2.2.2 (hR.2.1 f i h10 hi).1)
    unfold sq_sl updV
    rw [htr]
    by_cases e : q = x.toNatClampNeg
    · subst e
      rw [if_pos rfl]
      show Value.int (sm_u M f i x.toNatClampNeg (sm_nar (sm_fc f) w) f i x.toNatClampNeg) = _
      simp [sm_u]
    · rw [if_neg e]
      have : sm_u M f i x.toNatClampNeg (sm_nar (sm_fc f) w) f i q = M f i q := if_neg (fun q => e q.2.2)
      rw [this]
      show _ = cond (sm_tr (sm_fc f) q) _ _
      rw [htr]
  rcases hfc with hfc | hfc
  · have := fin .byte (fun kx => by rw [hfc]; rfl) (by rw [hfc]; rfl)
    have q2 : ArrOfT s (Z.2.2.2.2.2.2 (sm_fc f)) .byte := by rw [hfc] at q2 ⊢; exact q2
    exact W.bast hx hb q1 (q2 _ _) (fun q => by cases q) (by rw [arrV_size]; exact hin) rfl rfl hd this
  · have := fin .boolean (fun kx => by rw [hfc]; rfl) (by rw [hfc]; rfl)
    have q2 : ArrOfT s (Z.2.2.2.2.2.2 (sm_fc f)) .boolean := by rw [hfc] at q2 ⊢; exact q2
    exact W.zast hx hb q1 (q2 _ _) (fun q => by cases q) (by rw [arrV_size]; exact hin) rfl rfl hd this
end
