/-! EVERY METHOD -/
theorem sq_sl1 {ad : Nat → Nat → Nat} : ∀ {As : List sm_V}, (∀ v ∈ As, sm_c1 v = true) → lg_sl (As.map (sq_v ad)) = As.map (fun v => Slot.val (sq_v ad v))
  | [], _ => rfl
  | v :: r, h => by
    have h1 : (sq_v ad v).category = 1 := sq_cat1 (h v List.mem_cons_self)
    have ih := sq_sl1 (ad := ad) (As := r) (fun v hv => h v (List.mem_cons_of_mem _ hv))
    have e : ∀ (x : Value) (t : List Value), lg_sl (x :: t) = (if x.category = 2 then [Slot.val x, Slot.second] else [Slot.val x]) ++ lg_sl t := fun _ _ => rfl
    rw [List.map_cons, e, if_neg (by omega), ih]
    rfl
theorem sm_pad_len : ∀ (n : Nat) (l : sm_L), l.length ≤ n → (sm_pad n l).length = n
  | 0, l, h => by simpa [sm_pad] using h
  | n + 1, [], h => by simp [sm_pad, sm_pad_len n []]
  | n + 1, v :: r, h => by simp [sm_pad, sm_pad_len n r (by simpa using h)]
theorem sm_pad_at : ∀ (n : Nat) (As : List sm_V) (j : Nat) (v : sm_V), sm_at (sm_pad n (As.map some)) j = some v → As[j]? = some v
  | 0, [], j, v, h => by simp [sm_pad, sm_at] at h
  | 0, x :: r, 0, v, h => by simpa [sm_pad, sm_at] using h
  | 0, x :: r, j + 1, v, h => by
    have := sm_pad_at 0 r j v (by simpa [sm_pad, sm_at] using h)
    simpa using this
  | n + 1, [], 0, v, h => by simp [sm_pad, sm_at] at h
  | n + 1, [], j + 1, v, h => by
    have := sm_pad_at n [] j v (by simpa [sm_pad, sm_at] using h)
    simp at this
  | n + 1, x :: r, 0, v, h => by simpa [sm_pad, sm_at] using h
  | n + 1, x :: r, j + 1, v, h => by
    have := sm_pad_at n r j v (by simpa [sm_pad, sm_at] using h)
    simpa using this
/-- the locals at an entry -/
theorem sq_entry {ad : Nat → Nat → Nat} {G : sm_G} {k : Nat} {As : List sm_V} (hc1 : ∀ v ∈ As, sm_c1 v = true) (hok : ∀ v ∈ As, sq_okv G v) (hl : As.length ≤ sm_ml k) : sq_Lk ad G k (sm_pad (sm_ml k) (As.map some)) (lg_sl (As.map (sq_v ad)) ++ List.replicate (sm_ml k - (lg_sl (As.map (sq_v ad))).length) Slot.unset).toArray := by
  have hlen : (lg_sl (As.map (sq_v ad))).length = As.length := by rw [sq_sl1 hc1, List.length_map]
  have hE := lv_entry (As.map (sq_v ad)) (n := sm_ml k) (by omega)
  refine ⟨⟨sm_pad_len _ _ (by simpa using hl), hE.1, hE.2.1, fun j v hj => ?_⟩, fun j y hj => ?_⟩
  · have hv := sm_pad_at _ _ _ _ hj
    have hm : v ∈ As := List.mem_of_getElem? hv
    have hlt : j < As.length := (List.getElem?_eq_some_iff.mp hv).1
    refine ⟨?_, hok v hm⟩
    rw [List.getElem?_toArray, List.getElem?_append_left (by omega), sq_sl1 hc1, List.getElem?_map, hv]
    rfl
  · have hv := sm_pad_at _ _ _ _ hj
    have := hc1 _ (List.mem_of_getElem? hv)
    simp [sm_c1] at this
theorem sq_met1 {Z : sq_Z} {l : Launch} {d : Nat} (IH : ∀ d', d = d' + 1 → ∀ (n k : Nat) (L0 : sm_L) (G : sm_G) (M : sm_M) (r : Option sm_V) (G1 : sm_G) (M1 : sm_M), 0 < k → k < 276 → sm_run n d' k 0 L0 [] G M = some (r, G1, M1) → sq_Met Z l d' k L0 G M r G1 M1) {n k : Nat} {L0 : sm_L} {G : sm_G} {M : sm_M} {r : Option sm_V} {G1 : sm_G} {M1 : sm_M} (h0 : 0 < k) (hk : k < 276) (hrun : sm_run n d k 0 L0 [] G M = some (r, G1, M1)) : sq_Met Z l d k L0 G M r G1 M1 := by
  have hmon := sm_run_mon n hrun
  refine ⟨hmon, fun As hL0 hlen hc1 hok ad => ?_⟩
  obtain ⟨-, -, mcls, -, mpl, -, -, -⟩ := m_ok k h0 hk
  refine Met.ofWF (cc := sm_mb k) (maxL := sm_ml k) (ret := sm_mr k) mpl rfl ?_
  intro p e s m args below meth c s₁ B hml hv
  obtain ⟨rfl, hR⟩ := hv
  have hts0 := atoms_spec (ws := Cond.code (sm_my k) (sm_mb k) (sm_ml k) (sm_mr k) :: sm_ts) B.pre
  have hown : s.vm.findClass (sm_on (sm_oc k)) = some m.cls := by rw [← mcls]; exact findClass_of_methodNamed B.named
  have hname := (name_of_methodNamed B.named B.method).1
  have hlocks := B.notSynchronized
  have hr := B.returns
  have hC : sq_C p (headSpec (Cond.code (sm_my k) (sm_mb k) (sm_ml k) (sm_mr k) :: sm_ts) { frames := d + 12, cells := G1.1 - G.1, slots := G1.2.1 - G.2.1, locals := 60 * d + 300 }).room s m (As.map (sq_v ad)).toArray meth c k d :=
    ⟨B.exec, B.bytes, hml, hown, fun w hw => hts0 w (List.mem_cons_of_mem _ hw), fun h => hname.trans h, Nat.le_refl _, Nat.le_refl _⟩
  rw [lg_entry_eq]
  subst hL0
  have hX : sq_XZ Z ad G M s s.heap k (sm_pad (sm_ml k) (As.map some)) [] (lg_sl (As.map (sq_v ad)) ++ List.replicate (sm_ml k - (lg_sl (As.map (sq_v ad))).length) Slot.unset).toArray [] := ⟨hR, sq_entry hc1 hok hlen, fun v hv => absurd hv List.not_mem_nil, fun q hq => absurd hq List.not_mem_nil⟩
  have g1 := hmon.1
  have g2 := hmon.2.1
  refine sq_frame IH n hrun hk hC hX (by show 0 + G1.1 ≤ (G1.1 - G.1) + G.1; omega) (by show 0 + G1.2.1 ≤ (G1.2.1 - G.2.1) + G.2.1; omega) (fun ad1 H1 locs1 ls1 c1 s1 pc1 S1 hR1 hag hok1 hl1 e1 e2 hE => ?_)
  have hc1' : c1 = G1.1 - G.1 := by omega
  have hs1' : s1 = G1.2.1 - G.2.1 := by omega
  subst hc1'; subst hs1'
  have hR1 : sq_R _ _ _ _ _ _ _ ad1 G1 M1 s H1 := hR1
  have fin : ∀ (w : Option Value), w = r.map (sq_v ad1) → sq_okr G1 r → ∀ t : State, t.heap = H1 → s.WarmedH t.vm → (∃ ad1, sq_ag G ad ad1 ∧ sq_RZ Z ad1 G1 M1 t t.heap ∧ Outcome.returned w = .returned (r.map (sq_v ad1)) ∧ sq_okr G1 r) := by
    intro w hw hokr t ht hW
    refine ⟨ad1, hag, ?_, by rw [hw], hokr⟩
    rw [ht]
    exact sq_R_vm (U' := t) hR1 (sq_K.moved hW.alike hR1.2.2.2.2.2.2.1) (sq_O.warm hW hR1.2.2.2.2.2.2.2)
  rcases hE with ⟨hd, x, rfl, rfl, hty⟩ | ⟨hd, q, rfl, rfl, t, hty, href⟩ | ⟨hd, rfl, rfl, hty⟩
  · rcases hty with hty | ⟨hty, hx⟩
    · exact W.iret (v := x) B.exec B.bytes (hr.trans hty) (fun t ht hW => fin (some (.int x)) rfl trivial t ht hW) hl1 hd hlocks
    · exact W.zret (v := x) B.exec B.bytes (hr.trans hty) (by rcases hx with rfl | rfl <;> rfl) (fun t ht hW => fin (some (.int x)) rfl trivial t ht hW) hl1 hd hlocks
  · refine W.aret (v := sq_rv ad1 q) (rt := t) B.exec B.bytes (hr.trans hty) ?_ ?_ (fun t ht hW => fin (some (sq_rv ad1 q)) rfl (hok1 _ List.mem_cons_self) t ht hW) hl1 hd hlocks
    · cases t <;> simp [ci_ref] at href
      · exact Or.inl ⟨_, rfl⟩
      · exact Or.inr ⟨_, rfl⟩
    · cases q with
      | none => exact Or.inl rfl
      | some q => exact Or.inr ⟨_, rfl⟩
  · exact W.vret B.exec B.bytes (hr.trans hty) (fun t ht hW => fin none rfl trivial t ht hW) hl1 hd hlocks
theorem sq_met (Z : sq_Z) (l : Launch) : ∀ (d n k : Nat) (L0 : sm_L) (G : sm_G) (M : sm_M) (r : Option sm_V) (G1 : sm_G) (M1 : sm_M), 0 < k → k < 276 → sm_run n d k 0 L0 [] G M = some (r, G1, M1) → sq_Met Z l d k L0 G M r G1 M1 := by
  intro d
  induction d with
  | zero =>
    intro n k L0 G M r G1 M1 h0 hk hrun
    exact sq_met1 (fun d' h => by cases h) h0 hk hrun
  | succ d ihd =>
    intro n k L0 G M r G1 M1 h0 hk hrun
    refine sq_met1 (fun d' h => ?_) h0 hk hrun
    have : d = d' := by omega
    subst this
    exact ihd
