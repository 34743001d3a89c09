/-! ONE INSTRUCTION: rows of objects, making, statics, switches, calls, ends -/
theorem sm_tk_eq : ∀ (n : Nat) (S : sm_S) (acc : sm_L), n ≤ S.length → sm_tk n S acc = (S.take n).reverse.map some ++ acc
  | 0, S, acc, _ => by simp [sm_tk]
  | n + 1, [], acc, h => by simp at h
  | n + 1, v :: r, acc, h => by
    rw [sm_tk, sm_tk_eq n r (some v :: acc) (by simpa using h)]
    simp
theorem sm_dr_eq : ∀ (n : Nat) (S : sm_S), sm_dr n S = S.drop n
  | 0, S => rfl
  | n + 1, [] => rfl
  | n + 1, v :: r => by rw [sm_dr, sm_dr_eq n r]; rfl
theorem sm_all1_mem : ∀ {S : sm_S}, sm_all1 S = true → ∀ v ∈ S, sm_c1 v = true
  | [], _, v, hv => by cases hv
  | x :: r, h, v, hv => by
    rw [sm_all1, Bool.and_eq_true] at h
    rcases List.mem_cons.mp hv with rfl | hv
    · exact h.1
    · exact sm_all1_mem h.2 v hv
theorem sq_cats {ad : Nat → Nat → Nat} : ∀ {S : sm_S} {n : Nat}, (∀ v ∈ S, sm_c1 v = true) → S.length ≤ n → ((S.map (sq_v ad)).map fun v => v.category).sum ≤ n
  | [], n, _, _ => by simp
  | v :: r, n, h, hl => by
    have h1 : (sq_v ad v).category = 1 := sq_cat1 (h v List.mem_cons_self)
    have h2 := sq_cats (ad := ad) (S := r) (n := n - 1) (fun v hv => h v (List.mem_cons_of_mem _ hv)) (by simp at hl; omega)
    simp only [List.map_cons, List.sum_cons, h1]
    simp at hl
    omega
theorem sq_R_vm {H0 : Heap} {ad0 : Nat → Nat} {L0 : Nat} {xs : Nat → Int32} {adV : Nat → Nat} {D : va_G} {cA : Nat → ClassId} {ad : Nat → Nat → Nat} {G : sm_G} {M : sm_M} {U U' : State} {H : Heap} (hR : sq_R H0 ad0 L0 xs adV D cA ad G M U H) (hK : sq_K D cA G U') (hO : sq_O H0 ad0 L0 xs adV U') : sq_R H0 ad0 L0 xs adV D cA ad G M U' H := by
  obtain ⟨h1, h2, h3, h4, h5, h6, -, -⟩ := hR
  exact ⟨h1, h2, h3, h4, h5, h6, hK, hO⟩
def ck_df (c k : Nat) : Bool := cond (sm_tr c k) (decide (defaultValue (sm_ty c k) = .null)) (decide (defaultValue (sm_ty c k) = .int 0))
theorem ck_dfl : sm_upto 13 (fun c => sm_upto (sm_nf c) (ck_df c)) = true := by decide +kernel
theorem sq_dflt {c j : Nat} (h : c < 13) (hj : j < sm_nf c) (ad' : Nat → Nat → Nat) : defaultValue (sm_ty c j) = cond (sm_tr c j) (sq_rv ad' none) (.int 0) := by
  have := sm_upto_ok (sm_upto_ok ck_dfl c h) j hj
  unfold ck_df at this
  cases ht : sm_tr c j with
  | true => rw [ht] at this; exact of_decide_eq_true this
  | false => rw [ht] at this; exact of_decide_eq_true this
section
variable {Z : sq_Z} {p : Program} {l : Launch} {e : Env} {R : Room} {s : State} {m : MethodId} {args : Array Value} {below : List Frame} {meth : Method} {c : Code} {k d : Nat} {ad : Nat → Nat → Nat} {G : sm_G} {M : sm_M} {H : Heap} {locs : List Loc} {cells slots : Nat} {ls : Array Slot} {pc : Nat} {L : sm_L} {S : sm_S}
theorem sx_aastore (hC : sq_C p R s m args meth c k d) (hX : sq_XZ Z ad G M s H k L S ls locs) {tag a b len : Nat} {z : Int32} (hd : decode (sm_mb k) pc = .ok (.aastore, len)) (hci : ci_i k (sm_oc k * 2048) pc tag a b len z .aastore = true) : sq_N Z p l e R s m args below meth c k d ad G M H locs cells slots ls pc S (sm_dis tag a b (pc + len) z L S G M) := by
  obtain ⟨hx, hb, hml, hown, hts, hini, hfr, hlo⟩ := hC
  simp only [ci_i, Bool.and_eq_true] at hci
  obtain ⟨h1, h2⟩ := hci
  have h1 := Nat.eq_of_beq_eq_true h1
  have h2 := Nat.eq_of_beq_eq_true h2
  subst h1; subst h2
  rcases S with _ | ⟨w | w | _ | ⟨g, j⟩, _ | ⟨x | x, _ | ⟨y | y | _ | ⟨f, i⟩, S⟩⟩⟩
  all_goals try trivial
  intro hck
  rw [Bool.and_eq_true, Bool.and_eq_true, Bool.and_eq_true] at hck
  obtain ⟨⟨⟨hfc, h10⟩, hg10⟩, hin⟩ := hck
  have hfc := Nat.eq_of_beq_eq_true hfc
  have h10 := Nat.le_of_ble_eq_true h10
  have hg10 := Nat.le_of_ble_eq_true hg10
  have hR : sq_R _ _ _ _ _ _ _ ad G M s H := hX.1
  have hgk : sq_ok G (some (g, j)) := hX.2.2.1 _ List.mem_cons_self
  obtain ⟨-, hi, q1, q2, q4, q3⟩ := sq_row hX.1 (hX.2.2.1 _ (List.mem_cons_of_mem _ (List.mem_cons_of_mem _ List.mem_cons_self))) (by omega)
  have hfv := sm_fc_vals f
  have hgv := sm_fc_vals g
  have hg13 : sm_fc g < 13 := by omega
  obtain ⟨-, hj, cell, g1, g2, g3, -⟩ := hR.obj hgk rfl (by omega)
  have hcls := (hR.2.2.2.2.2.2.1.1 (sm_fc g) hg13).2
  rw [q3] at hin
  have hlt := sq_clamp hin
  have hin := sm_in_iff.mp hin
  have hft : sq_ft (sm_fc f) = .object (sm_on (sm_fc g)) := by
    rw [sq_ft110 (by omega), hfc, show 110 + sm_fc g - 110 = sm_fc g by omega]
  rw [hft] at q2 q4
  obtain ⟨kA, comp, k1, k2, k3, -⟩ := q4
  have hcomp : comp = (Z.2.2.2.2.2.1).1 (sm_fc g) := Option.some.inj (k3.symm.trans hcls.1)
  subst hcomp
  obtain ⟨kC, hkC, -⟩ := hcls.2
  refine sq_heap hX (S1 := S) (G1 := (G.1, G.2.1, G.2.2.1, sm_ur G.2.2.2 f i x.toNatClampNeg (some (g, j)))) (M1 := M) rfl rfl rfl (fun v hv => hX.2.2.1 v (List.mem_cons_of_mem _ (List.mem_cons_of_mem _ (List.mem_cons_of_mem _ hv)))) (fun Q kk => ?_)
  refine W.aast hx hb q1 (fun q h => by cases h) (fun h => by cases h) k1 k2 rfl hkC ⟨fun q => hin (Or.inl q), by rw [arrV_size]; exact hlt⟩ g1 (fun q h => by rw [g3] at h; cases h) (by rw [g2]; exact hkC) (by rw [g2]; exact va_assign hcls) rfl rfl hd fun H1 e1 e2 e3 => ?_
  refine kk H1 _ (sq_rowput (G' := (G.1, G.2.1, G.2.2.1, sm_ur G.2.2.2 f i x.toNatClampNeg (some (g, j)))) (M' := M) hX.1 h10 hi rfl rfl (by omega) e1 e2 e3 (fun _ _ _ _ => rfl) (fun g j k h => if_neg (fun q => h ⟨q.1, q.2.1⟩)) (fun q => ?_) (fun kx hkx => ?_)) (sq_loc_end hX.2.2.2 (hR.2.1 f i h10 hi).1)
  · unfold sq_sl updV
    rw [sm_tr110 (by omega)]
    by_cases e : q = x.toNatClampNeg
    · subst e
      rw [if_pos rfl]
      show sq_rv ad (sm_ur G.2.2.2 f i x.toNatClampNeg (some (g, j)) f i x.toNatClampNeg) = _
      simp [sm_ur, sq_rv]
    · rw [if_neg e]
      have : sm_ur G.2.2.2 f i x.toNatClampNeg (some (g, j)) f i q = G.2.2.2 f i q := if_neg (fun q => e q.2.2)
      show sq_rv ad (sm_ur G.2.2.2 f i x.toNatClampNeg (some (g, j)) f i q) = _
      rw [this]
      show _ = cond (sm_tr (sm_fc f) q) _ _
      rw [sm_tr110 (by omega)]; rfl
  · show sq_ok G (sm_ur G.2.2.2 f i x.toNatClampNeg (some (g, j)) f i kx)
    by_cases e : kx = x.toNatClampNeg
    · subst e
      have : sm_ur G.2.2.2 f i x.toNatClampNeg (some (g, j)) f i x.toNatClampNeg = some (g, j) := by simp [sm_ur]
      rw [this]; exact hgk
    · have : sm_ur G.2.2.2 f i x.toNatClampNeg (some (g, j)) f i kx = G.2.2.2 f i kx := if_neg (fun q => e q.2.2)
      rw [this]; exact hR.2.2.2.1 f i kx h10 hi (fun _ => hkx)
/-- behind a making -/
theorem sq_made (hX : sq_XZ Z ad G M s H k L S ls locs) {a nc ns pc1 : Nat} {S1 : sm_S} (ha : 10 ≤ a) (hnc : nc = G.1 + 1) (hw : ∀ Q : State → Prop, cells + nc ≤ R.cells + G.1 → slots + ns ≤ R.slots + G.2.1 → (∀ ad1 H1, sq_XZ Z ad1 (nc, ns, sm_cu G.2.2.1 a (G.2.2.1 a + 1), sm_zr G.2.2.2 a (G.2.2.1 a)) (sm_z M a (G.2.2.1 a)) s H1 k L (.inr (.inr (some (a, G.2.2.1 a))) :: S1) ls locs → sq_ag G ad ad1 → ad1 a (G.2.2.1 a) = H.size → S1.map (sq_v ad1) = S1.map (sq_v ad) → W p l e R s m args below meth c H1 locs (cells + 1) (slots + (ns - G.2.1)) Q (F0 m pc1 ls (.ref H.size :: S1.map (sq_v ad)))) → W p l e R s m args below meth c H locs cells slots Q (F0 m pc ls (S.map (sq_v ad)))) (hns : G.2.1 ≤ ns) : sq_S Z p l e R s m args below meth c k ad G H locs cells slots ls pc S pc1 L (.inr (.inr (some (a, G.2.2.1 a))) :: S1) (nc, ns, sm_cu G.2.2.1 a (G.2.2.1 a + 1), sm_zr G.2.2.2 a (G.2.2.1 a)) (sm_z M a (G.2.2.1 a)) := by
  intro hc hs Q kk
  refine hw Q hc hs (fun ad1 H1 hX1 hag had hmap => ?_)
  have := kk ad1 H1 locs ls (cells + 1) (slots + (ns - G.2.1)) hX1 hag (by show cells + 1 + G.1 = cells + nc; omega) (by show slots + (ns - G.2.1) + G.2.1 = slots + ns; omega)
  rw [List.map_cons, hmap] at this
  show W p l e R s m args below meth c H1 locs (cells + 1) (slots + (ns - G.2.1)) Q (F0 m pc1 ls (.ref H.size :: S1.map (sq_v ad)))
  rw [← had]
  exact this
theorem sq_born (hX : sq_XZ Z ad G M s H k L S ls locs) {a nc ns : Nat} {S1 : sm_S} (ha : 10 ≤ a) (hS1 : ∀ v ∈ S1, sq_okv G v) {H1 : Heap} (hz : H1.size = H.size + 1) (ho : ∀ q, q < H.size → H1[q]? = H[q]?)
    (hK : 99 < sm_fc a → ArrOfT s (Z.2.2.2.2.2.2 (sm_fc a)) (sq_ft (sm_fc a)) ∧ va_RA s (Z.2.2.2.2.2.2 (sm_fc a)) (sq_ft (sm_fc a)))
    (hnew : ∀ ad' : Nat → Nat → Nat, ad' a (G.2.2.1 a) = H.size → sq_cell Z.2.2.2.2.2.1 Z.2.2.2.2.2.2 ad' (nc, ns, sm_cu G.2.2.1 a (G.2.2.1 a + 1), sm_zr G.2.2.2 a (G.2.2.1 a)) (sm_z M a (G.2.2.1 a)) a (G.2.2.1 a) H1) :
    ∃ ad1, sq_XZ Z ad1 (nc, ns, sm_cu G.2.2.1 a (G.2.2.1 a + 1), sm_zr G.2.2.2 a (G.2.2.1 a)) (sm_z M a (G.2.2.1 a)) s H1 k L (.inr (.inr (some (a, G.2.2.1 a))) :: S1) ls locs ∧ sq_ag G ad ad1 ∧ ad1 a (G.2.2.1 a) = H.size ∧ S1.map (sq_v ad1) = S1.map (sq_v ad) := by
  have hR : sq_R _ _ _ _ _ _ _ ad G M s H := hX.1
  obtain ⟨ad1, e1, e2, e3, hR1⟩ := sq_R.new (nc := nc) (ns := ns) hR ha hz ho hR.lt' hK hnew
  have okm : ∀ v, sq_okv G v → sq_okv (nc, ns, sm_cu G.2.2.1 a (G.2.2.1 a + 1), sm_zr G.2.2.2 a (G.2.2.1 a)) v := by
    intro v hv
    rcases v with x | y | r
    · trivial
    · trivial
    · cases r with
      | none => trivial
      | some q =>
        obtain ⟨f, i⟩ := q
        rcases hv with h | ⟨h1, h2⟩
        · exact Or.inl h
        · refine Or.inr ⟨h1, ?_⟩
          show i < sm_cu G.2.2.1 a (G.2.2.1 a + 1) f
          unfold sm_cu
          split
          · rename_i e; subst e; omega
          · exact h2
  refine ⟨ad1, ⟨hR1, hX.2.1.ag (fun v hv => ⟨sq_v_ag hR hR1 e2 hv, okm v hv⟩), fun v hv => ?_, hX.2.2.2⟩, e2, e1, sq_map_ag hR hR1 e2 hS1⟩
  rcases List.mem_cons.mp hv with rfl | hv
  · refine Or.inr ⟨ha, ?_⟩
    show G.2.2.1 a < sm_cu G.2.2.1 a (G.2.2.1 a + 1) a
    simp [sm_cu]
  · exact okm v (hS1 v hv)
theorem sx_new (hC : sq_C p R s m args meth c k d) (hX : sq_XZ Z ad G M s H k L S ls locs) (hk : k < 276) {tag a b len : Nat} {z : Int32} {idx : Nat} (hd : decode (sm_mb k) pc = .ok (.new idx, len)) (hci : ci_i k (sm_oc k * 2048) pc tag a b len z (.new idx) = true) : sq_N Z p l e R s m args below meth c k d ad G M H locs cells slots ls pc S (sm_dis tag a b (pc + len) z L S G M) := by
  obtain ⟨hx, hb, hml, hown, hts, hini, hfr, hlo⟩ := hC
  simp only [ci_i, Bool.and_eq_true] at hci
  obtain ⟨⟨⟨⟨h1, hi⟩, hcl⟩, h13⟩, h2⟩ := hci
  have h1 := Nat.eq_of_beq_eq_true h1
  have h2 := Nat.eq_of_beq_eq_true h2
  have hi : idx < 2048 := Nat.blt_eq ▸ hi
  have hcl := Nat.eq_of_beq_eq_true hcl
  have h13 : sm_fc a < 13 := Nat.blt_eq ▸ h13
  subst h1; subst h2
  intro hck
  rw [Bool.and_eq_true] at hck
  have ha := Nat.le_of_ble_eq_true hck.1
  have hR : sq_R _ _ _ _ _ _ _ ad G M s H := hX.1
  have hKn := hR.2.2.2.2.2.2.1.1 (sm_fc a) h13
  refine sq_made hX ha rfl (fun Q hc hs kk => ?_) (Nat.le_add_right _ _)
  refine W.newcK hx hb hown (hts _ (cl_ok hi hcl h13 (oc_lt k hk))) (hts _ (inst_ok h13)) (hts _ (ini_ok (by omega))) rfl hd (by omega) (by omega) hKn.2.1 rfl fun H1 kC hkC e1 z1 o1 => ?_
  have hnw : ∀ ad' : Nat → Nat → Nat, ad' a (G.2.2.1 a) = H.size → sq_cell Z.2.2.2.2.2.1 Z.2.2.2.2.2.2 ad' (G.1 + 1, G.2.1 + sm_nf (sm_fc a), sm_cu G.2.2.1 a (G.2.2.1 a + 1), sm_zr G.2.2.2 a (G.2.2.1 a)) (sm_z M a (G.2.2.1 a)) a (G.2.2.1 a) H1 := by
    intro ad' had
    refine ⟨fun _ => ?_, fun h => by omega⟩
    rw [had]
    refine (u_born (sm_ty (sm_fc a)) hts (lay_ok h13) hKn hkC e1 (fun k hk => ty_ok h13 hk)).to (fun j hj => ?_)
    unfold sq_sl
    have m1 : sm_z M a (G.2.2.1 a) a (G.2.2.1 a) j = 0 := if_pos ⟨rfl, rfl⟩
    have m2 : sm_zr G.2.2.2 a (G.2.2.1 a) a (G.2.2.1 a) j = none := if_pos ⟨rfl, rfl⟩
    show defaultValue (sm_ty (sm_fc a) j) = cond (sm_tr (sm_fc a) j) (sq_rv ad' (sm_zr G.2.2.2 a (G.2.2.1 a) a (G.2.2.1 a) j)) (.int (sm_z M a (G.2.2.1 a) a (G.2.2.1 a) j))
    rw [m1, m2]
    exact sq_dflt h13 hj ad'
  obtain ⟨ad1, b1, b2, b3, b4⟩ := sq_born (nc := G.1 + 1) (ns := G.2.1 + sm_nf (sm_fc a)) (S1 := S) hX ha hX.2.2.1 z1 o1 (fun h => by omega) hnw
  have := kk ad1 H1 b1 b2 b3 b4
  rw [show G.2.1 + sm_nf (sm_fc a) - G.2.1 = sm_nf (sm_fc a) by omega] at this
  exact this
end
