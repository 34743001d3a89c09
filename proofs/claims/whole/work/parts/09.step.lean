/-! ONE INSTRUCTION -/
abbrev sq_Z : Type := Heap × (Nat → Nat) × Nat × (Nat → Int32) × (Nat → Nat) × va_G × (Nat → ClassId)
def sq_RZ (Z : sq_Z) (ad : Nat → Nat → Nat) (G : sm_G) (M : sm_M) (U : State) (H : Heap) : Prop := sq_R Z.1 Z.2.1 Z.2.2.1 Z.2.2.2.1 Z.2.2.2.2.1 Z.2.2.2.2.2.1 Z.2.2.2.2.2.2 ad G M U H
def sq_XZ (Z : sq_Z) (ad : Nat → Nat → Nat) (G : sm_G) (M : sm_M) (U : State) (H : Heap) (k : Nat) (L : sm_L) (S : sm_S) (ls : Array Slot) (locs : List Loc) : Prop :=
  sq_RZ Z ad G M U H ∧ sq_Lk ad G k L ls ∧ (∀ v ∈ S, sq_okv G v) ∧ ∀ q ∈ locs, Z.1.size ≤ q.base
def sq_C (p : Program) (R : Room) (s : State) (m : MethodId) (args : Array Value) (meth : Method) (c : Code) (k d : Nat) : Prop :=
  p.tables.exec = Jvm.exec ∧ c.code = sm_mb k ∧ c.maxLocals = sm_ml k ∧ s.vm.findClass (sm_on (sm_oc k)) = some m.cls ∧ (∀ w ∈ sm_ts, w.before args s = true) ∧ ((sm_my k).name = "<init>" → meth.name = "<init>") ∧ d + 12 ≤ R.frames ∧ 60 * d + 300 ≤ R.locals
def sq_okr (G : sm_G) (r : Option sm_V) : Prop := match r with
  | none => True
  | some v => sq_okv G v
/-- a call of method k with what the small machine says of it -/
def sq_Met (Z : sq_Z) (l : Launch) (d k : Nat) (L0 : sm_L) (G : sm_G) (M : sm_M) (r : Option sm_V) (G1 : sm_G) (M1 : sm_M) : Prop :=
  (G.1 ≤ G1.1 ∧ G.2.1 ≤ G1.2.1 ∧ ∀ f, G.2.2.1 f ≤ G1.2.2.1 f) ∧
  ∀ As : List sm_V, L0 = sm_pad (sm_ml k) (As.map some) → As.length ≤ sm_ml k → (∀ v ∈ As, sm_c1 v = true) → (∀ v ∈ As, sq_okv G v) → ∀ ad : Nat → Nat → Nat,
    Met l (sm_my k) (Cond.code (sm_my k) (sm_mb k) (sm_ml k) (sm_mr k) :: sm_ts) { frames := d + 12, cells := G1.1 - G.1, slots := G1.2.1 - G.2.1, locals := 60 * d + 300 }
      (fun v U => v = (As.map (sq_v ad)).toArray ∧ sq_RZ Z ad G M U U.heap)
      (fun _ _ oc t => ∃ ad1, sq_ag G ad ad1 ∧ sq_RZ Z ad1 G1 M1 t t.heap ∧ oc = .returned (r.map (sq_v ad1)) ∧ sq_okr G1 r) (G1.1 - G.1) (G1.2.1 - G.2.1) (fun q => Z.1.size ≤ q)
/-- the method's end -/
def sq_E (k pc : Nat) (S : sm_S) (r : Option sm_V) : Prop :=
  (decode (sm_mb k) pc = .ok (.ireturn, 1) ∧ ∃ x, S = [.inl x] ∧ r = some (.inl x) ∧ (sm_mr k = some .int ∨ (sm_mr k = some .boolean ∧ (x = 0 ∨ x = 1)))) ∨
  (decode (sm_mb k) pc = .ok (.areturn, 1) ∧ ∃ q, S = [.inr (.inr q)] ∧ r = some (.inr (.inr q)) ∧ ∃ t, sm_mr k = some t ∧ ci_ref t = true) ∨
  (decode (sm_mb k) pc = .ok (.return_, 1) ∧ S = [] ∧ r = none ∧ sm_mr k = none)
def sq_S (Z : sq_Z) (p : Program) (l : Launch) (e : Env) (R : Room) (s : State) (m : MethodId) (args : Array Value) (below : List Frame) (meth : Method) (c : Code) (k : Nat) (ad : Nat → Nat → Nat) (G : sm_G) (H : Heap) (locs : List Loc) (cells slots : Nat) (ls : Array Slot) (pc : Nat) (S : sm_S) (pc1 : Nat) (L1 : sm_L) (S1 : sm_S) (G1 : sm_G) (M1 : sm_M) : Prop :=
  cells + G1.1 ≤ R.cells + G.1 → slots + G1.2.1 ≤ R.slots + G.2.1 → ∀ Q : State → Prop,
    (∀ ad1 H1 locs1 ls1 c1 s1, sq_XZ Z ad1 G1 M1 s H1 k L1 S1 ls1 locs1 → sq_ag G ad ad1 → c1 + G.1 = cells + G1.1 → s1 + G.2.1 = slots + G1.2.1 → W p l e R s m args below meth c H1 locs1 c1 s1 Q (F0 m pc1 ls1 (S1.map (sq_v ad1)))) →
    W p l e R s m args below meth c H locs cells slots Q (F0 m pc ls (S.map (sq_v ad)))
def sq_N (Z : sq_Z) (p : Program) (l : Launch) (e : Env) (R : Room) (s : State) (m : MethodId) (args : Array Value) (below : List Frame) (meth : Method) (c : Code) (k d : Nat) (ad : Nat → Nat → Nat) (G : sm_G) (M : sm_M) (H : Heap) (locs : List Loc) (cells slots : Nat) (ls : Array Slot) (pc : Nat) (S : sm_S) (N : sm_N) : Prop := match N with
  | none => True
  | some (.inl (pc1, L1, S1, G1, M1)) => sq_S Z p l e R s m args below meth c k ad G H locs cells slots ls pc S pc1 L1 S1 G1 M1
  | some (.inr (.inl (t, pc1, L1, S1, G1, M1))) => t = true → sq_S Z p l e R s m args below meth c k ad G H locs cells slots ls pc S pc1 L1 S1 G1 M1
  | some (.inr (.inr (.inl (t, p1, p2, L1, S1)))) => (t = true → sq_S Z p l e R s m args below meth c k ad G H locs cells slots ls pc S p1 L1 S1 G M) ∧ (¬ t = true → sq_S Z p l e R s m args below meth c k ad G H locs cells slots ls pc S p2 L1 S1 G M)
  | some (.inr (.inr (.inr (.inl (x, t, f, L1, S1))))) => sq_S Z p l e R s m args below meth c k ad G H locs cells slots ls pc S (sm_swt x t f) L1 S1 G M
  | some (.inr (.inr (.inr (.inr (.inl (t, k', L0, pc1, L1, S1)))))) => t = true → (0 < k' ∧ k' < 276) ∧ ∀ d' r G1 M1, d = d' + 1 → sq_Met Z l d' k' L0 G M r G1 M1 → sq_S Z p l e R s m args below meth c k ad G H locs cells slots ls pc S pc1 L1 (sm_push r S1) G1 M1
  | some (.inr (.inr (.inr (.inr (.inr (t, r)))))) => t = true → sq_E k pc S r
theorem sq_old_lt {H0 : Heap} {ad0 : Nat → Nat} {L0 : Nat} {xs : Nat → Int32} {adV : Nat → Nat} {U : State} (hO : sq_O H0 ad0 L0 xs adV U) {f : Nat} (hf : f < 8) : ad0 f < H0.size := by
  by_cases h0 : f = 0
  · subst h0; exact hO.1.1
  · by_cases h4 : f ≤ 4
    · exact (hO.2.1 f (by omega) h4).1
    · obtain ⟨cell, q1, -, -, -⟩ := (hO.2.2.2.1.1 (f - 5) (by omega)).1
      have e : 5 + (f - 5) = f := by omega
      have q1 : H0[ad0 (5 + (f - 5))]? = some cell := q1
      rw [e] at q1
      exact (Array.getElem?_eq_some_iff.mp q1).1
section
variable {Z : sq_Z} {p : Program} {l : Launch} {e : Env} {R : Room} {s : State} {m : MethodId} {args : Array Value} {below : List Frame} {meth : Method} {c : Code} {k d : Nat} {ad : Nat → Nat → Nat} {G : sm_G} {M : sm_M} {H : Heap} {locs : List Loc} {cells slots : Nat} {ls : Array Slot} {pc : Nat} {L : sm_L} {S : sm_S}
theorem sq_pure (hX : sq_XZ Z ad G M s H k L S ls locs) {pc1 : Nat} {S1 : sm_S} (hS1 : ∀ v ∈ S1, sq_okv G v) (hw : ∀ Q : State → Prop, W p l e R s m args below meth c H locs cells slots Q (F0 m pc1 ls (S1.map (sq_v ad))) → W p l e R s m args below meth c H locs cells slots Q (F0 m pc ls (S.map (sq_v ad)))) : sq_S Z p l e R s m args below meth c k ad G H locs cells slots ls pc S pc1 L S1 G M :=
  fun _ _ Q kk => hw Q (kk ad H locs ls cells slots ⟨hX.1, hX.2.1, hS1, hX.2.2.2⟩ sq_ag.rf rfl rfl)
theorem sq_loc (hX : sq_XZ Z ad G M s H k L S ls locs) {pc1 : Nat} {L1 : sm_L} {S1 : sm_S} (hS1 : ∀ v ∈ S1, sq_okv G v) (hw : ∀ Q : State → Prop, (∀ ls1, sq_Lk ad G k L1 ls1 → W p l e R s m args below meth c H locs cells slots Q (F0 m pc1 ls1 (S1.map (sq_v ad)))) → W p l e R s m args below meth c H locs cells slots Q (F0 m pc ls (S.map (sq_v ad)))) : sq_S Z p l e R s m args below meth c k ad G H locs cells slots ls pc S pc1 L1 S1 G M :=
  fun _ _ Q kk => hw Q (fun ls1 hl => kk ad H locs ls1 cells slots ⟨hX.1, hl, hS1, hX.2.2.2⟩ sq_ag.rf rfl rfl)
theorem sq_heap (hX : sq_XZ Z ad G M s H k L S ls locs) {pc1 : Nat} {S1 : sm_S} {G1 : sm_G} {M1 : sm_M} (hc : G1.2.2.1 = G.2.2.1) (h1 : G1.1 = G.1) (h2 : G1.2.1 = G.2.1) (hS1 : ∀ v ∈ S1, sq_okv G v) (hw : ∀ Q : State → Prop, (∀ H1 locs1, sq_RZ Z ad G1 M1 s H1 → (∀ q ∈ locs1, Z.1.size ≤ q.base) → W p l e R s m args below meth c H1 locs1 cells slots Q (F0 m pc1 ls (S1.map (sq_v ad)))) → W p l e R s m args below meth c H locs cells slots Q (F0 m pc ls (S.map (sq_v ad)))) : sq_S Z p l e R s m args below meth c k ad G H locs cells slots ls pc S pc1 L S1 G1 M1 :=
  fun _ _ Q kk => hw Q (fun H1 locs1 hr hl => kk ad H1 locs1 ls cells slots ⟨hr, hX.2.1.ag (fun v hv => ⟨rfl, sq_okv_cnt hc hv⟩), fun v hv => sq_okv_cnt hc (hS1 v hv), hl⟩ sq_ag.rf (by rw [h1]) (by rw [h2]))
theorem sq_loc_end {a : Nat} (h : ∀ q ∈ locs, a ≤ q.base) {x : Loc} (hx : a ≤ x.base) : ∀ q ∈ locs ++ [x], a ≤ q.base := fun q hq => by
  rcases List.mem_append.mp hq with h1 | h1
  · exact h q h1
  · rw [List.mem_singleton.mp h1]; exact hx
theorem sq_le {x y : Int32} : y ≤ x ↔ ¬ x < y := by rw [Int32.not_lt]
theorem sq_cat1 {ad : Nat → Nat → Nat} {v : sm_V} (h : sm_c1 v = true) : (sq_v ad v).category = 1 := by
  rcases v with x | y | r
  · rfl
  · simp [sm_c1] at h
  · cases r <;> rfl
theorem sx_iadd (hC : sq_C p R s m args meth c k d) (hX : sq_XZ Z ad G M s H k L S ls locs) {tag a b len : Nat} {z : Int32} (hd : decode (sm_mb k) pc = .ok (.iadd, len)) (hci : ci_i k (sm_oc k * 2048) pc tag a b len z .iadd = true) : sq_N Z p l e R s m args below meth c k d ad G M H locs cells slots ls pc S (sm_dis tag a b (pc + len) z L S G M) := by
  obtain ⟨hx, hb, hml, hown, hts, hini, hfr, hlo⟩ := hC
  simp only [ci_i, Bool.and_eq_true] at hci
  obtain ⟨h1, h2⟩ := hci
  have h1 := Nat.eq_of_beq_eq_true h1
  have h2 := Nat.eq_of_beq_eq_true h2
  subst h1; subst h2
  rcases S with _ | ⟨y | y, _ | ⟨x | x, S⟩⟩
  all_goals try trivial
  exact sq_pure hX (S1 := .inl (sm_bin 6 x y) :: S) (fun v hv => by
    rcases List.mem_cons.mp hv with rfl | hv
    · trivial
    · exact hX.2.2.1 v (List.mem_cons_of_mem _ (List.mem_cons_of_mem _ hv))) (fun Q kk => lv_iadd hx hb hd kk)
theorem sx_isub (hC : sq_C p R s m args meth c k d) (hX : sq_XZ Z ad G M s H k L S ls locs) {tag a b len : Nat} {z : Int32} (hd : decode (sm_mb k) pc = .ok (.isub, len)) (hci : ci_i k (sm_oc k * 2048) pc tag a b len z .isub = true) : sq_N Z p l e R s m args below meth c k d ad G M H locs cells slots ls pc S (sm_dis tag a b (pc + len) z L S G M) := by
  obtain ⟨hx, hb, hml, hown, hts, hini, hfr, hlo⟩ := hC
  simp only [ci_i, Bool.and_eq_true] at hci
  obtain ⟨h1, h2⟩ := hci
  have h1 := Nat.eq_of_beq_eq_true h1
  have h2 := Nat.eq_of_beq_eq_true h2
  subst h1; subst h2
  rcases S with _ | ⟨y | y, _ | ⟨x | x, S⟩⟩
  all_goals try trivial
  exact sq_pure hX (S1 := .inl (sm_bin 7 x y) :: S) (fun v hv => by
    rcases List.mem_cons.mp hv with rfl | hv
    · trivial
    · exact hX.2.2.1 v (List.mem_cons_of_mem _ (List.mem_cons_of_mem _ hv))) (fun Q kk => lv_isub hx hb hd kk)
theorem sx_imul (hC : sq_C p R s m args meth c k d) (hX : sq_XZ Z ad G M s H k L S ls locs) {tag a b len : Nat} {z : Int32} (hd : decode (sm_mb k) pc = .ok (.imul, len)) (hci : ci_i k (sm_oc k * 2048) pc tag a b len z .imul = true) : sq_N Z p l e R s m args below meth c k d ad G M H locs cells slots ls pc S (sm_dis tag a b (pc + len) z L S G M) := by
  obtain ⟨hx, hb, hml, hown, hts, hini, hfr, hlo⟩ := hC
  simp only [ci_i, Bool.and_eq_true] at hci
  obtain ⟨h1, h2⟩ := hci
  have h1 := Nat.eq_of_beq_eq_true h1
  have h2 := Nat.eq_of_beq_eq_true h2
  subst h1; subst h2
  rcases S with _ | ⟨y | y, _ | ⟨x | x, S⟩⟩
  all_goals try trivial
  exact sq_pure hX (S1 := .inl (sm_bin 8 x y) :: S) (fun v hv => by
    rcases List.mem_cons.mp hv with rfl | hv
    · trivial
    · exact hX.2.2.1 v (List.mem_cons_of_mem _ (List.mem_cons_of_mem _ hv))) (fun Q kk => lv_imul hx hb hd kk)
theorem sx_ishl (hC : sq_C p R s m args meth c k d) (hX : sq_XZ Z ad G M s H k L S ls locs) {tag a b len : Nat} {z : Int32} (hd : decode (sm_mb k) pc = .ok (.ishl, len)) (hci : ci_i k (sm_oc k * 2048) pc tag a b len z .ishl = true) : sq_N Z p l e R s m args below meth c k d ad G M H locs cells slots ls pc S (sm_dis tag a b (pc + len) z L S G M) := by
  obtain ⟨hx, hb, hml, hown, hts, hini, hfr, hlo⟩ := hC
  simp only [ci_i, Bool.and_eq_true] at hci
  obtain ⟨h1, h2⟩ := hci
  have h1 := Nat.eq_of_beq_eq_true h1
  have h2 := Nat.eq_of_beq_eq_true h2
  subst h1; subst h2
  rcases S with _ | ⟨y | y, _ | ⟨x | x, S⟩⟩
  all_goals try trivial
  exact sq_pure hX (S1 := .inl (sm_bin 12 x y) :: S) (fun v hv => by
    rcases List.mem_cons.mp hv with rfl | hv
    · trivial
    · exact hX.2.2.1 v (List.mem_cons_of_mem _ (List.mem_cons_of_mem _ hv))) (fun Q kk => lv_ishl hx hb hd kk)
theorem sx_ishr (hC : sq_C p R s m args meth c k d) (hX : sq_XZ Z ad G M s H k L S ls locs) {tag a b len : Nat} {z : Int32} (hd : decode (sm_mb k) pc = .ok (.ishr, len)) (hci : ci_i k (sm_oc k * 2048) pc tag a b len z .ishr = true) : sq_N Z p l e R s m args below meth c k d ad G M H locs cells slots ls pc S (sm_dis tag a b (pc + len) z L S G M) := by
  obtain ⟨hx, hb, hml, hown, hts, hini, hfr, hlo⟩ := hC
  simp only [ci_i, Bool.and_eq_true] at hci
  obtain ⟨h1, h2⟩ := hci
  have h1 := Nat.eq_of_beq_eq_true h1
  have h2 := Nat.eq_of_beq_eq_true h2
  subst h1; subst h2
  rcases S with _ | ⟨y | y, _ | ⟨x | x, S⟩⟩
  all_goals try trivial
  exact sq_pure hX (S1 := .inl (sm_bin 13 x y) :: S) (fun v hv => by
    rcases List.mem_cons.mp hv with rfl | hv
    · trivial
    · exact hX.2.2.1 v (List.mem_cons_of_mem _ (List.mem_cons_of_mem _ hv))) (fun Q kk => lv_ishr hx hb hd kk)
theorem sx_iand (hC : sq_C p R s m args meth c k d) (hX : sq_XZ Z ad G M s H k L S ls locs) {tag a b len : Nat} {z : Int32} (hd : decode (sm_mb k) pc = .ok (.iand, len)) (hci : ci_i k (sm_oc k * 2048) pc tag a b len z .iand = true) : sq_N Z p l e R s m args below meth c k d ad G M H locs cells slots ls pc S (sm_dis tag a b (pc + len) z L S G M) := by
  obtain ⟨hx, hb, hml, hown, hts, hini, hfr, hlo⟩ := hC
  simp only [ci_i, Bool.and_eq_true] at hci
  obtain ⟨h1, h2⟩ := hci
  have h1 := Nat.eq_of_beq_eq_true h1
  have h2 := Nat.eq_of_beq_eq_true h2
  subst h1; subst h2
  rcases S with _ | ⟨y | y, _ | ⟨x | x, S⟩⟩
  all_goals try trivial
  exact sq_pure hX (S1 := .inl (sm_bin 15 x y) :: S) (fun v hv => by
    rcases List.mem_cons.mp hv with rfl | hv
    · trivial
    · exact hX.2.2.1 v (List.mem_cons_of_mem _ (List.mem_cons_of_mem _ hv))) (fun Q kk => lv_iand hx hb hd kk)
theorem sx_ior (hC : sq_C p R s m args meth c k d) (hX : sq_XZ Z ad G M s H k L S ls locs) {tag a b len : Nat} {z : Int32} (hd : decode (sm_mb k) pc = .ok (.ior, len)) (hci : ci_i k (sm_oc k * 2048) pc tag a b len z .ior = true) : sq_N Z p l e R s m args below meth c k d ad G M H locs cells slots ls pc S (sm_dis tag a b (pc + len) z L S G M) := by
  obtain ⟨hx, hb, hml, hown, hts, hini, hfr, hlo⟩ := hC
  simp only [ci_i, Bool.and_eq_true] at hci
  obtain ⟨h1, h2⟩ := hci
  have h1 := Nat.eq_of_beq_eq_true h1
  have h2 := Nat.eq_of_beq_eq_true h2
  subst h1; subst h2
  rcases S with _ | ⟨y | y, _ | ⟨x | x, S⟩⟩
  all_goals try trivial
  exact sq_pure hX (S1 := .inl (sm_bin 16 x y) :: S) (fun v hv => by
    rcases List.mem_cons.mp hv with rfl | hv
    · trivial
    · exact hX.2.2.1 v (List.mem_cons_of_mem _ (List.mem_cons_of_mem _ hv))) (fun Q kk => lv_ior hx hb hd kk)
theorem sx_ixor (hC : sq_C p R s m args meth c k d) (hX : sq_XZ Z ad G M s H k L S ls locs) {tag a b len : Nat} {z : Int32} (hd : decode (sm_mb k) pc = .ok (.ixor, len)) (hci : ci_i k (sm_oc k * 2048) pc tag a b len z .ixor = true) : sq_N Z p l e R s m args below meth c k d ad G M H locs cells slots ls pc S (sm_dis tag a b (pc + len) z L S G M) := by
  obtain ⟨hx, hb, hml, hown, hts, hini, hfr, hlo⟩ := hC
  simp only [ci_i, Bool.and_eq_true] at hci
  obtain ⟨h1, h2⟩ := hci
  have h1 := Nat.eq_of_beq_eq_true h1
  have h2 := Nat.eq_of_beq_eq_true h2
  subst h1; subst h2
  rcases S with _ | ⟨y | y, _ | ⟨x | x, S⟩⟩
  all_goals try trivial
  exact sq_pure hX (S1 := .inl (sm_bin 17 x y) :: S) (fun v hv => by
    rcases List.mem_cons.mp hv with rfl | hv
    · trivial
    · exact hX.2.2.1 v (List.mem_cons_of_mem _ (List.mem_cons_of_mem _ hv))) (fun Q kk => lv_ixor hx hb hd kk)
theorem sx_iushr (hC : sq_C p R s m args meth c k d) (hX : sq_XZ Z ad G M s H k L S ls locs) {tag a b len : Nat} {z : Int32} (hd : decode (sm_mb k) pc = .ok (.iushr, len)) (hci : ci_i k (sm_oc k * 2048) pc tag a b len z .iushr = true) : sq_N Z p l e R s m args below meth c k d ad G M H locs cells slots ls pc S (sm_dis tag a b (pc + len) z L S G M) := by
  obtain ⟨hx, hb, hml, hown, hts, hini, hfr, hlo⟩ := hC
  simp only [ci_i, Bool.and_eq_true] at hci
  obtain ⟨h1, h2⟩ := hci
  have h1 := Nat.eq_of_beq_eq_true h1
  have h2 := Nat.eq_of_beq_eq_true h2
  subst h1; subst h2
  rcases S with _ | ⟨y | y, _ | ⟨x | x, S⟩⟩
  all_goals try trivial
  exact sq_pure hX (S1 := .inl (sm_bin 14 x y) :: S) (fun v hv => by
    rcases List.mem_cons.mp hv with rfl | hv
    · trivial
    · exact hX.2.2.1 v (List.mem_cons_of_mem _ (List.mem_cons_of_mem _ hv))) (fun Q kk => lv_iushr hx hb hd rfl kk)
theorem sx_idiv (hC : sq_C p R s m args meth c k d) (hX : sq_XZ Z ad G M s H k L S ls locs) {tag a b len : Nat} {z : Int32} (hd : decode (sm_mb k) pc = .ok (.idiv, len)) (hci : ci_i k (sm_oc k * 2048) pc tag a b len z .idiv = true) : sq_N Z p l e R s m args below meth c k d ad G M H locs cells slots ls pc S (sm_dis tag a b (pc + len) z L S G M) := by
  obtain ⟨hx, hb, hml, hown, hts, hini, hfr, hlo⟩ := hC
  simp only [ci_i, Bool.and_eq_true] at hci
  obtain ⟨h1, h2⟩ := hci
  have h1 := Nat.eq_of_beq_eq_true h1
  have h2 := Nat.eq_of_beq_eq_true h2
  subst h1; subst h2
  rcases S with _ | ⟨y | y, _ | ⟨x | x, S⟩⟩
  all_goals try trivial
  intro hne
  exact sq_pure hX (S1 := .inl (x / y) :: S) (fun v hv => by
    rcases List.mem_cons.mp hv with rfl | hv
    · trivial
    · exact hX.2.2.1 v (List.mem_cons_of_mem _ (List.mem_cons_of_mem _ hv))) (fun Q kk => lv_idiv hx hb hd (by simpa using hne) kk)
theorem sx_irem (hC : sq_C p R s m args meth c k d) (hX : sq_XZ Z ad G M s H k L S ls locs) {tag a b len : Nat} {z : Int32} (hd : decode (sm_mb k) pc = .ok (.irem, len)) (hci : ci_i k (sm_oc k * 2048) pc tag a b len z .irem = true) : sq_N Z p l e R s m args below meth c k d ad G M H locs cells slots ls pc S (sm_dis tag a b (pc + len) z L S G M) := by
  obtain ⟨hx, hb, hml, hown, hts, hini, hfr, hlo⟩ := hC
  simp only [ci_i, Bool.and_eq_true] at hci
  obtain ⟨h1, h2⟩ := hci
  have h1 := Nat.eq_of_beq_eq_true h1
  have h2 := Nat.eq_of_beq_eq_true h2
  subst h1; subst h2
  rcases S with _ | ⟨y | y, _ | ⟨x | x, S⟩⟩
  all_goals try trivial
  intro hne
  exact sq_pure hX (S1 := .inl (x - x / y * y) :: S) (fun v hv => by
    rcases List.mem_cons.mp hv with rfl | hv
    · trivial
    · exact hX.2.2.1 v (List.mem_cons_of_mem _ (List.mem_cons_of_mem _ hv))) (fun Q kk => lv_irem hx hb hd (by simpa using hne) kk)
theorem sx_ineg (hC : sq_C p R s m args meth c k d) (hX : sq_XZ Z ad G M s H k L S ls locs) {tag a b len : Nat} {z : Int32} (hd : decode (sm_mb k) pc = .ok (.ineg, len)) (hci : ci_i k (sm_oc k * 2048) pc tag a b len z .ineg = true) : sq_N Z p l e R s m args below meth c k d ad G M H locs cells slots ls pc S (sm_dis tag a b (pc + len) z L S G M) := by
  obtain ⟨hx, hb, hml, hown, hts, hini, hfr, hlo⟩ := hC
  simp only [ci_i, Bool.and_eq_true] at hci
  obtain ⟨h1, h2⟩ := hci
  have h1 := Nat.eq_of_beq_eq_true h1
  have h2 := Nat.eq_of_beq_eq_true h2
  subst h1; subst h2
  rcases S with _ | ⟨x | x, S⟩
  all_goals try trivial
  exact sq_pure hX (S1 := .inl (-x) :: S) (fun v hv => by
    rcases List.mem_cons.mp hv with rfl | hv
    · trivial
    · exact hX.2.2.1 v (List.mem_cons_of_mem _ hv)) (fun Q kk => lv_ineg hx hb hd kk)
theorem sx_i2b (hC : sq_C p R s m args meth c k d) (hX : sq_XZ Z ad G M s H k L S ls locs) {tag a b len : Nat} {z : Int32} (hd : decode (sm_mb k) pc = .ok (.i2b, len)) (hci : ci_i k (sm_oc k * 2048) pc tag a b len z .i2b = true) : sq_N Z p l e R s m args below meth c k d ad G M H locs cells slots ls pc S (sm_dis tag a b (pc + len) z L S G M) := by
  obtain ⟨hx, hb, hml, hown, hts, hini, hfr, hlo⟩ := hC
  simp only [ci_i, Bool.and_eq_true] at hci
  obtain ⟨h1, h2⟩ := hci
  have h1 := Nat.eq_of_beq_eq_true h1
  have h2 := Nat.eq_of_beq_eq_true h2
  subst h1; subst h2
  rcases S with _ | ⟨x | x, S⟩
  all_goals try trivial
  exact sq_pure hX (S1 := .inl x.toInt8.toInt32 :: S) (fun v hv => by
    rcases List.mem_cons.mp hv with rfl | hv
    · trivial
    · exact hX.2.2.1 v (List.mem_cons_of_mem _ hv)) (fun Q kk => lv_i2b hx hb hd rfl kk)
theorem sx_i2s (hC : sq_C p R s m args meth c k d) (hX : sq_XZ Z ad G M s H k L S ls locs) {tag a b len : Nat} {z : Int32} (hd : decode (sm_mb k) pc = .ok (.i2s, len)) (hci : ci_i k (sm_oc k * 2048) pc tag a b len z .i2s = true) : sq_N Z p l e R s m args below meth c k d ad G M H locs cells slots ls pc S (sm_dis tag a b (pc + len) z L S G M) := by
  obtain ⟨hx, hb, hml, hown, hts, hini, hfr, hlo⟩ := hC
  simp only [ci_i, Bool.and_eq_true] at hci
  obtain ⟨h1, h2⟩ := hci
  have h1 := Nat.eq_of_beq_eq_true h1
  have h2 := Nat.eq_of_beq_eq_true h2
  subst h1; subst h2
  rcases S with _ | ⟨x | x, S⟩
  all_goals try trivial
  exact sq_pure hX (S1 := .inl x.toInt16.toInt32 :: S) (fun v hv => by
    rcases List.mem_cons.mp hv with rfl | hv
    · trivial
    · exact hX.2.2.1 v (List.mem_cons_of_mem _ hv)) (fun Q kk => lv_i2s hx hb hd rfl kk)
theorem sx_i2l (hC : sq_C p R s m args meth c k d) (hX : sq_XZ Z ad G M s H k L S ls locs) {tag a b len : Nat} {z : Int32} (hd : decode (sm_mb k) pc = .ok (.i2l, len)) (hci : ci_i k (sm_oc k * 2048) pc tag a b len z .i2l = true) : sq_N Z p l e R s m args below meth c k d ad G M H locs cells slots ls pc S (sm_dis tag a b (pc + len) z L S G M) := by
  obtain ⟨hx, hb, hml, hown, hts, hini, hfr, hlo⟩ := hC
  simp only [ci_i, Bool.and_eq_true] at hci
  obtain ⟨h1, h2⟩ := hci
  have h1 := Nat.eq_of_beq_eq_true h1
  have h2 := Nat.eq_of_beq_eq_true h2
  subst h1; subst h2
  rcases S with _ | ⟨x | x, S⟩
  all_goals try trivial
  exact sq_pure hX (S1 := .inr (.inl x.toInt64) :: S) (fun v hv => by
    rcases List.mem_cons.mp hv with rfl | hv
    · trivial
    · exact hX.2.2.1 v (List.mem_cons_of_mem _ hv)) (fun Q kk => lv_i2l hx hb hd rfl kk)
theorem sx_l2i (hC : sq_C p R s m args meth c k d) (hX : sq_XZ Z ad G M s H k L S ls locs) {tag a b len : Nat} {z : Int32} (hd : decode (sm_mb k) pc = .ok (.l2i, len)) (hci : ci_i k (sm_oc k * 2048) pc tag a b len z .l2i = true) : sq_N Z p l e R s m args below meth c k d ad G M H locs cells slots ls pc S (sm_dis tag a b (pc + len) z L S G M) := by
  obtain ⟨hx, hb, hml, hown, hts, hini, hfr, hlo⟩ := hC
  simp only [ci_i, Bool.and_eq_true] at hci
  obtain ⟨h1, h2⟩ := hci
  have h1 := Nat.eq_of_beq_eq_true h1
  have h2 := Nat.eq_of_beq_eq_true h2
  subst h1; subst h2
  rcases S with _ | ⟨x | x | x, S⟩
  all_goals try trivial
  exact sq_pure hX (S1 := .inl x.toInt32 :: S) (fun v hv => by
    rcases List.mem_cons.mp hv with rfl | hv
    · trivial
    · exact hX.2.2.1 v (List.mem_cons_of_mem _ hv)) (fun Q kk => lv_l2i hx hb hd rfl kk)
theorem sx_ladd (hC : sq_C p R s m args meth c k d) (hX : sq_XZ Z ad G M s H k L S ls locs) {tag a b len : Nat} {z : Int32} (hd : decode (sm_mb k) pc = .ok (.ladd, len)) (hci : ci_i k (sm_oc k * 2048) pc tag a b len z .ladd = true) : sq_N Z p l e R s m args below meth c k d ad G M H locs cells slots ls pc S (sm_dis tag a b (pc + len) z L S G M) := by
  obtain ⟨hx, hb, hml, hown, hts, hini, hfr, hlo⟩ := hC
  simp only [ci_i, Bool.and_eq_true] at hci
  obtain ⟨h1, h2⟩ := hci
  have h1 := Nat.eq_of_beq_eq_true h1
  have h2 := Nat.eq_of_beq_eq_true h2
  subst h1; subst h2
  rcases S with _ | ⟨y | y | y, _ | ⟨x | x | x, S⟩⟩
  all_goals try trivial
  exact sq_pure hX (S1 := .inr (.inl (x + y)) :: S) (fun v hv => by
    rcases List.mem_cons.mp hv with rfl | hv
    · trivial
    · exact hX.2.2.1 v (List.mem_cons_of_mem _ (List.mem_cons_of_mem _ hv))) (fun Q kk => lv_ladd hx hb hd kk)
theorem sx_lcmp (hC : sq_C p R s m args meth c k d) (hX : sq_XZ Z ad G M s H k L S ls locs) {tag a b len : Nat} {z : Int32} (hd : decode (sm_mb k) pc = .ok (.lcmp, len)) (hci : ci_i k (sm_oc k * 2048) pc tag a b len z .lcmp = true) : sq_N Z p l e R s m args below meth c k d ad G M H locs cells slots ls pc S (sm_dis tag a b (pc + len) z L S G M) := by
  obtain ⟨hx, hb, hml, hown, hts, hini, hfr, hlo⟩ := hC
  simp only [ci_i, Bool.and_eq_true] at hci
  obtain ⟨h1, h2⟩ := hci
  have h1 := Nat.eq_of_beq_eq_true h1
  have h2 := Nat.eq_of_beq_eq_true h2
  subst h1; subst h2
  rcases S with _ | ⟨y | y | y, _ | ⟨x | x | x, S⟩⟩
  all_goals try trivial
  exact sq_pure hX (S1 := .inl (lg_cmp x y) :: S) (fun v hv => by
    rcases List.mem_cons.mp hv with rfl | hv
    · trivial
    · exact hX.2.2.1 v (List.mem_cons_of_mem _ (List.mem_cons_of_mem _ hv))) (fun Q kk => W.lcmp hx hb hd kk)
theorem sx_iconst (hC : sq_C p R s m args meth c k d) (hX : sq_XZ Z ad G M s H k L S ls locs) {tag a b len : Nat} {z : Int32} {n : Int} (hd : decode (sm_mb k) pc = .ok ((.iconst n), len)) (hci : ci_i k (sm_oc k * 2048) pc tag a b len z (.iconst n) = true) : sq_N Z p l e R s m args below meth c k d ad G M H locs cells slots ls pc S (sm_dis tag a b (pc + len) z L S G M) := by
  obtain ⟨hx, hb, hml, hown, hts, hini, hfr, hlo⟩ := hC
  simp only [ci_i, Bool.and_eq_true] at hci
  obtain ⟨⟨h1, h3⟩, h2⟩ := hci
  have h1 := Nat.eq_of_beq_eq_true h1
  have h2 := Nat.eq_of_beq_eq_true h2
  subst h1; subst h2
  exact sq_pure hX (S1 := .inl z :: S) (fun v hv => by
    rcases List.mem_cons.mp hv with rfl | hv
    · trivial
    · exact hX.2.2.1 v hv) (fun Q kk => lv_iconst hx hb hd (of_decide_eq_true h3) kk)
theorem sx_bipush (hC : sq_C p R s m args meth c k d) (hX : sq_XZ Z ad G M s H k L S ls locs) {tag a b len : Nat} {z : Int32} {n : Int} (hd : decode (sm_mb k) pc = .ok ((.bipush n), len)) (hci : ci_i k (sm_oc k * 2048) pc tag a b len z (.bipush n) = true) : sq_N Z p l e R s m args below meth c k d ad G M H locs cells slots ls pc S (sm_dis tag a b (pc + len) z L S G M) := by
  obtain ⟨hx, hb, hml, hown, hts, hini, hfr, hlo⟩ := hC
  simp only [ci_i, Bool.and_eq_true] at hci
  obtain ⟨⟨h1, h3⟩, h2⟩ := hci
  have h1 := Nat.eq_of_beq_eq_true h1
  have h2 := Nat.eq_of_beq_eq_true h2
  subst h1; subst h2
  exact sq_pure hX (S1 := .inl z :: S) (fun v hv => by
    rcases List.mem_cons.mp hv with rfl | hv
    · trivial
    · exact hX.2.2.1 v hv) (fun Q kk => lv_bipush hx hb hd (of_decide_eq_true h3) kk)
theorem sx_sipush (hC : sq_C p R s m args meth c k d) (hX : sq_XZ Z ad G M s H k L S ls locs) {tag a b len : Nat} {z : Int32} {n : Int} (hd : decode (sm_mb k) pc = .ok ((.sipush n), len)) (hci : ci_i k (sm_oc k * 2048) pc tag a b len z (.sipush n) = true) : sq_N Z p l e R s m args below meth c k d ad G M H locs cells slots ls pc S (sm_dis tag a b (pc + len) z L S G M) := by
  obtain ⟨hx, hb, hml, hown, hts, hini, hfr, hlo⟩ := hC
  simp only [ci_i, Bool.and_eq_true] at hci
  obtain ⟨⟨h1, h3⟩, h2⟩ := hci
  have h1 := Nat.eq_of_beq_eq_true h1
  have h2 := Nat.eq_of_beq_eq_true h2
  subst h1; subst h2
  exact sq_pure hX (S1 := .inl z :: S) (fun v hv => by
    rcases List.mem_cons.mp hv with rfl | hv
    · trivial
    · exact hX.2.2.1 v hv) (fun Q kk => lv_sipush hx hb hd (of_decide_eq_true h3) kk)
theorem sx_lconst (hC : sq_C p R s m args meth c k d) (hX : sq_XZ Z ad G M s H k L S ls locs) {tag a b len : Nat} {z : Int32} {n : Fin 2} (hd : decode (sm_mb k) pc = .ok ((.lconst n), len)) (hci : ci_i k (sm_oc k * 2048) pc tag a b len z (.lconst n) = true) : sq_N Z p l e R s m args below meth c k d ad G M H locs cells slots ls pc S (sm_dis tag a b (pc + len) z L S G M) := by
  obtain ⟨hx, hb, hml, hown, hts, hini, hfr, hlo⟩ := hC
  simp only [ci_i, Bool.and_eq_true] at hci
  obtain ⟨⟨h1, h3⟩, h2⟩ := hci
  have h1 := Nat.eq_of_beq_eq_true h1
  have h2 := Nat.eq_of_beq_eq_true h2
  subst h1; subst h2
  exact sq_pure hX (S1 := .inr (.inl z.toInt64) :: S) (fun v hv => by
    rcases List.mem_cons.mp hv with rfl | hv
    · trivial
    · exact hX.2.2.1 v hv) (fun Q kk => lv_lconst hx hb hd (of_decide_eq_true h3) kk)
theorem sx_aconst_null (hC : sq_C p R s m args meth c k d) (hX : sq_XZ Z ad G M s H k L S ls locs) {tag a b len : Nat} {z : Int32} (hd : decode (sm_mb k) pc = .ok (.aconst_null, len)) (hci : ci_i k (sm_oc k * 2048) pc tag a b len z .aconst_null = true) : sq_N Z p l e R s m args below meth c k d ad G M H locs cells slots ls pc S (sm_dis tag a b (pc + len) z L S G M) := by
  obtain ⟨hx, hb, hml, hown, hts, hini, hfr, hlo⟩ := hC
  simp only [ci_i, Bool.and_eq_true] at hci
  obtain ⟨h1, h2⟩ := hci
  have h1 := Nat.eq_of_beq_eq_true h1
  have h2 := Nat.eq_of_beq_eq_true h2
  subst h1; subst h2
  exact sq_pure hX (S1 := .inr (.inr none) :: S) (fun v hv => by
    rcases List.mem_cons.mp hv with rfl | hv
    · trivial
    · exact hX.2.2.1 v hv) (fun Q kk => lv_null hx hb hd kk)
theorem sx_ldc_w (hC : sq_C p R s m args meth c k d) (hX : sq_XZ Z ad G M s H k L S ls locs) {tag a b len : Nat} {z : Int32} {idx : Nat} (hk : k < 276) (hd : decode (sm_mb k) pc = .ok ((.ldc_w idx), len)) (hci : ci_i k (sm_oc k * 2048) pc tag a b len z (.ldc_w idx) = true) : sq_N Z p l e R s m args below meth c k d ad G M H locs cells slots ls pc S (sm_dis tag a b (pc + len) z L S G M) := by
  obtain ⟨hx, hb, hml, hown, hts, hini, hfr, hlo⟩ := hC
  simp only [ci_i, Bool.and_eq_true] at hci
  obtain ⟨⟨h2, h1⟩, h3⟩ := hci
  have h1 := Nat.eq_of_beq_eq_true h1
  have h2 := Nat.eq_of_beq_eq_true h2
  subst h1; subst h2
  exact sq_pure hX (S1 := .inl z :: S) (fun v hv => by
    rcases List.mem_cons.mp hv with rfl | hv
    · trivial
    · exact hX.2.2.1 v hv) (fun Q kk => lv_ldcw hx hb hown (hts _ (vl_ok h3 (oc_lt k hk))) hd kk)
theorem sx_ldc (hC : sq_C p R s m args meth c k d) (hX : sq_XZ Z ad G M s H k L S ls locs) {tag a b len : Nat} {z : Int32} {idx : Nat} (hk : k < 276) (hd : decode (sm_mb k) pc = .ok ((.ldc idx), len)) (hci : ci_i k (sm_oc k * 2048) pc tag a b len z (.ldc idx) = true) : sq_N Z p l e R s m args below meth c k d ad G M H locs cells slots ls pc S (sm_dis tag a b (pc + len) z L S G M) := by
  obtain ⟨hx, hb, hml, hown, hts, hini, hfr, hlo⟩ := hC
  simp only [ci_i, Bool.and_eq_true, Bool.or_eq_true] at hci
  obtain ⟨h2, hci⟩ := hci
  have h2 := Nat.eq_of_beq_eq_true h2
  subst h2
  rcases hci with ⟨h1, h3⟩ | ⟨⟨⟨⟨h1, h3⟩, h4⟩, h5⟩, h6⟩
  · have h1 := Nat.eq_of_beq_eq_true h1
    subst h1
    exact sq_pure hX (S1 := .inl z :: S) (fun v hv => by
    rcases List.mem_cons.mp hv with rfl | hv
    · trivial
    · exact hX.2.2.1 v hv) (fun Q kk => lv_ldc hx hb hown (hts _ (vl_ok h3 (oc_lt k hk))) hd kk)
  · have h1 := Nat.eq_of_beq_eq_true h1
    have h4 := Nat.eq_of_beq_eq_true h4
    have h3 : idx < 2048 := Nat.blt_eq ▸ h3
    have h5 := Nat.le_of_ble_eq_true h5
    have h6 := Nat.le_of_ble_eq_true h6
    subst h1; subst h4
    intro _
    have hO := hX.1.2.2.2.2.2.2.2.2.2.1 (sm_oc k * 2048 + idx) h5 h6
    rw [cp_div h3, cp_mod h3] at hO
    refine sq_pure hX (S1 := .inr (.inr (some ((sm_sl (sm_oc k * 2048 + idx)).1, 0))) :: S) (fun v hv => by
      rcases List.mem_cons.mp hv with rfl | hv
      · exact Or.inl ⟨by omega, rfl⟩
      · exact hX.2.2.1 v hv) (fun Q kk => va_ldcS hx hb hown hO hd ?_)
    have e1 : ad (sm_sl (sm_oc k * 2048 + idx)).1 0 = Z.2.1 (sm_sl (sm_oc k * 2048 + idx)).1 := hX.1.2.2.2.2.1 _ (by omega)
    rw [← e1]
    exact kk
theorem sx_iload (hC : sq_C p R s m args meth c k d) (hX : sq_XZ Z ad G M s H k L S ls locs) {tag a b len : Nat} {z : Int32} {n : Nat} (hd : decode (sm_mb k) pc = .ok ((.iload n), len)) (hci : ci_i k (sm_oc k * 2048) pc tag a b len z (.iload n) = true) : sq_N Z p l e R s m args below meth c k d ad G M H locs cells slots ls pc S (sm_dis tag a b (pc + len) z L S G M) := by
  obtain ⟨hx, hb, hml, hown, hts, hini, hfr, hlo⟩ := hC
  simp only [ci_i, Bool.and_eq_true] at hci
  obtain ⟨⟨h1, h3⟩, h2⟩ := hci
  have h1 := Nat.eq_of_beq_eq_true h1
  have h2 := Nat.eq_of_beq_eq_true h2
  have h3 := Nat.eq_of_beq_eq_true h3
  subst h1; subst h2; subst h3
  show sq_N Z p l e R s m args below meth c k d ad G M H locs cells slots ls pc S (sm_t1 n b _ z L S G M)
  unfold sm_t1
  split
  · rename_i x hat
    exact sq_pure hX (S1 := .inl x :: S) (fun v hv => by
    rcases List.mem_cons.mp hv with rfl | hv
    · trivial
    · exact hX.2.2.1 v hv) (fun Q kk => lv_iload hx hb hd (hX.2.1.1.2.2.2 _ _ hat).1 kk)
  · trivial
theorem sx_iload_n (hC : sq_C p R s m args meth c k d) (hX : sq_XZ Z ad G M s H k L S ls locs) {tag a b len : Nat} {z : Int32} {n : Fin 4} (hd : decode (sm_mb k) pc = .ok ((.iload_n n), len)) (hci : ci_i k (sm_oc k * 2048) pc tag a b len z (.iload_n n) = true) : sq_N Z p l e R s m args below meth c k d ad G M H locs cells slots ls pc S (sm_dis tag a b (pc + len) z L S G M) := by
  obtain ⟨hx, hb, hml, hown, hts, hini, hfr, hlo⟩ := hC
  simp only [ci_i, Bool.and_eq_true] at hci
  obtain ⟨⟨h1, h3⟩, h2⟩ := hci
  have h1 := Nat.eq_of_beq_eq_true h1
  have h2 := Nat.eq_of_beq_eq_true h2
  have h3 := Nat.eq_of_beq_eq_true h3
  subst h1; subst h2; subst h3
  show sq_N Z p l e R s m args below meth c k d ad G M H locs cells slots ls pc S (sm_t1 n.val b _ z L S G M)
  unfold sm_t1
  split
  · rename_i x hat
    exact sq_pure hX (S1 := .inl x :: S) (fun v hv => by
    rcases List.mem_cons.mp hv with rfl | hv
    · trivial
    · exact hX.2.2.1 v hv) (fun Q kk => lv_iload_n hx hb hd rfl (hX.2.1.1.2.2.2 _ _ hat).1 kk)
  · trivial
theorem sx_lload (hC : sq_C p R s m args meth c k d) (hX : sq_XZ Z ad G M s H k L S ls locs) {tag a b len : Nat} {z : Int32} {n : Nat} (hd : decode (sm_mb k) pc = .ok ((.lload n), len)) (hci : ci_i k (sm_oc k * 2048) pc tag a b len z (.lload n) = true) : sq_N Z p l e R s m args below meth c k d ad G M H locs cells slots ls pc S (sm_dis tag a b (pc + len) z L S G M) := by
  obtain ⟨hx, hb, hml, hown, hts, hini, hfr, hlo⟩ := hC
  simp only [ci_i, Bool.and_eq_true] at hci
  obtain ⟨⟨h1, h3⟩, h2⟩ := hci
  have h1 := Nat.eq_of_beq_eq_true h1
  have h2 := Nat.eq_of_beq_eq_true h2
  have h3 := Nat.eq_of_beq_eq_true h3
  subst h1; subst h2; subst h3
  show sq_N Z p l e R s m args below meth c k d ad G M H locs cells slots ls pc S (sm_t69 n b _ z L S G M)
  unfold sm_t69
  split
  · rename_i x hat
    exact sq_pure hX (S1 := .inr (.inl x) :: S) (fun v hv => by
    rcases List.mem_cons.mp hv with rfl | hv
    · trivial
    · exact hX.2.2.1 v hv) (fun Q kk => lv_lload hx hb hd (hX.2.1.1.2.2.2 _ _ hat).1 kk)
  · trivial
theorem sx_lload_n (hC : sq_C p R s m args meth c k d) (hX : sq_XZ Z ad G M s H k L S ls locs) {tag a b len : Nat} {z : Int32} {n : Fin 4} (hd : decode (sm_mb k) pc = .ok ((.lload_n n), len)) (hci : ci_i k (sm_oc k * 2048) pc tag a b len z (.lload_n n) = true) : sq_N Z p l e R s m args below meth c k d ad G M H locs cells slots ls pc S (sm_dis tag a b (pc + len) z L S G M) := by
  obtain ⟨hx, hb, hml, hown, hts, hini, hfr, hlo⟩ := hC
  simp only [ci_i, Bool.and_eq_true] at hci
  obtain ⟨⟨h1, h3⟩, h2⟩ := hci
  have h1 := Nat.eq_of_beq_eq_true h1
  have h2 := Nat.eq_of_beq_eq_true h2
  have h3 := Nat.eq_of_beq_eq_true h3
  subst h1; subst h2; subst h3
  show sq_N Z p l e R s m args below meth c k d ad G M H locs cells slots ls pc S (sm_t69 n.val b _ z L S G M)
  unfold sm_t69
  split
  · rename_i x hat
    exact sq_pure hX (S1 := .inr (.inl x) :: S) (fun v hv => by
    rcases List.mem_cons.mp hv with rfl | hv
    · trivial
    · exact hX.2.2.1 v hv) (fun Q kk => lv_lload_n hx hb hd rfl (hX.2.1.1.2.2.2 _ _ hat).1 kk)
  · trivial
theorem sx_aload (hC : sq_C p R s m args meth c k d) (hX : sq_XZ Z ad G M s H k L S ls locs) {tag a b len : Nat} {z : Int32} {n : Nat} (hd : decode (sm_mb k) pc = .ok ((.aload n), len)) (hci : ci_i k (sm_oc k * 2048) pc tag a b len z (.aload n) = true) : sq_N Z p l e R s m args below meth c k d ad G M H locs cells slots ls pc S (sm_dis tag a b (pc + len) z L S G M) := by
  obtain ⟨hx, hb, hml, hown, hts, hini, hfr, hlo⟩ := hC
  simp only [ci_i, Bool.and_eq_true] at hci
  obtain ⟨⟨h1, h3⟩, h2⟩ := hci
  have h1 := Nat.eq_of_beq_eq_true h1
  have h2 := Nat.eq_of_beq_eq_true h2
  have h3 := Nat.eq_of_beq_eq_true h3
  subst h1; subst h2; subst h3
  show sq_N Z p l e R s m args below meth c k d ad G M H locs cells slots ls pc S (sm_t2 n b _ z L S G M)
  unfold sm_t2
  split
  · rename_i q hat
    obtain ⟨g1, g2⟩ := hX.2.1.1.2.2.2 _ _ hat
    refine sq_pure hX (S1 := .inr (.inr q) :: S) (fun v hv => by
      rcases List.mem_cons.mp hv with rfl | hv
      · exact g2
      · exact hX.2.2.1 v hv) (fun Q kk => ?_)
    cases q with
    | none => exact lv_aloadN hx hb hd g1 kk
    | some q => exact lv_aload hx hb hd g1 kk
  · trivial
theorem sx_aload_n (hC : sq_C p R s m args meth c k d) (hX : sq_XZ Z ad G M s H k L S ls locs) {tag a b len : Nat} {z : Int32} {n : Fin 4} (hd : decode (sm_mb k) pc = .ok ((.aload_n n), len)) (hci : ci_i k (sm_oc k * 2048) pc tag a b len z (.aload_n n) = true) : sq_N Z p l e R s m args below meth c k d ad G M H locs cells slots ls pc S (sm_dis tag a b (pc + len) z L S G M) := by
  obtain ⟨hx, hb, hml, hown, hts, hini, hfr, hlo⟩ := hC
  simp only [ci_i, Bool.and_eq_true] at hci
  obtain ⟨⟨h1, h3⟩, h2⟩ := hci
  have h1 := Nat.eq_of_beq_eq_true h1
  have h2 := Nat.eq_of_beq_eq_true h2
  have h3 := Nat.eq_of_beq_eq_true h3
  subst h1; subst h2; subst h3
  show sq_N Z p l e R s m args below meth c k d ad G M H locs cells slots ls pc S (sm_t2 n.val b _ z L S G M)
  unfold sm_t2
  split
  · rename_i q hat
    obtain ⟨g1, g2⟩ := hX.2.1.1.2.2.2 _ _ hat
    refine sq_pure hX (S1 := .inr (.inr q) :: S) (fun v hv => by
      rcases List.mem_cons.mp hv with rfl | hv
      · exact g2
      · exact hX.2.2.1 v hv) (fun Q kk => ?_)
    cases q with
    | none => exact lv_aload_nN hx hb hd rfl g1 kk
    | some q => exact lv_aload_n hx hb hd rfl g1 kk
  · trivial
theorem sx_istore (hC : sq_C p R s m args meth c k d) (hX : sq_XZ Z ad G M s H k L S ls locs) {tag a b len : Nat} {z : Int32} {n : Nat} (hlg : a = 0 ∨ sm_lg k (a - 1) = false) (hd : decode (sm_mb k) pc = .ok ((.istore n), len)) (hci : ci_i k (sm_oc k * 2048) pc tag a b len z (.istore n) = true) : sq_N Z p l e R s m args below meth c k d ad G M H locs cells slots ls pc S (sm_dis tag a b (pc + len) z L S G M) := by
  obtain ⟨hx, hb, hml, hown, hts, hini, hfr, hlo⟩ := hC
  simp only [ci_i, Bool.and_eq_true] at hci
  obtain ⟨⟨⟨h1, h3⟩, h2⟩, h4⟩ := hci
  have h1 := Nat.eq_of_beq_eq_true h1
  have h2 := Nat.eq_of_beq_eq_true h2
  have h3 := Nat.eq_of_beq_eq_true h3
  have h4 : a < sm_ml k := Nat.blt_eq ▸ h4
  subst h1; subst h2; subst h3
  rcases S with _ | ⟨x | x, S⟩
  all_goals try trivial
  exact sq_loc hX (S1 := S) (fun v hv => hX.2.2.1 v (List.mem_cons_of_mem _ hv)) (fun Q kk => lv_istore hx hb hd hX.2.1.has h4 rfl (fun ls1 hl => kk ls1 (hX.2.1.put (v := .inl x) h4 hlg trivial rfl hl)))
theorem sx_istore_n (hC : sq_C p R s m args meth c k d) (hX : sq_XZ Z ad G M s H k L S ls locs) {tag a b len : Nat} {z : Int32} {n : Fin 4} (hlg : a = 0 ∨ sm_lg k (a - 1) = false) (hd : decode (sm_mb k) pc = .ok ((.istore_n n), len)) (hci : ci_i k (sm_oc k * 2048) pc tag a b len z (.istore_n n) = true) : sq_N Z p l e R s m args below meth c k d ad G M H locs cells slots ls pc S (sm_dis tag a b (pc + len) z L S G M) := by
  obtain ⟨hx, hb, hml, hown, hts, hini, hfr, hlo⟩ := hC
  simp only [ci_i, Bool.and_eq_true] at hci
  obtain ⟨⟨⟨h1, h3⟩, h2⟩, h4⟩ := hci
  have h1 := Nat.eq_of_beq_eq_true h1
  have h2 := Nat.eq_of_beq_eq_true h2
  have h3 := Nat.eq_of_beq_eq_true h3
  have h4 : a < sm_ml k := Nat.blt_eq ▸ h4
  subst h1; subst h2; subst h3
  rcases S with _ | ⟨x | x, S⟩
  all_goals try trivial
  exact sq_loc hX (S1 := S) (fun v hv => hX.2.2.1 v (List.mem_cons_of_mem _ hv)) (fun Q kk => lv_istore_n hx hb hd rfl hX.2.1.has h4 rfl (fun ls1 hl => kk ls1 (hX.2.1.put (v := .inl x) h4 hlg trivial rfl hl)))
theorem sx_astore (hC : sq_C p R s m args meth c k d) (hX : sq_XZ Z ad G M s H k L S ls locs) {tag a b len : Nat} {z : Int32} {n : Nat} (hlg : a = 0 ∨ sm_lg k (a - 1) = false) (hd : decode (sm_mb k) pc = .ok ((.astore n), len)) (hci : ci_i k (sm_oc k * 2048) pc tag a b len z (.astore n) = true) : sq_N Z p l e R s m args below meth c k d ad G M H locs cells slots ls pc S (sm_dis tag a b (pc + len) z L S G M) := by
  obtain ⟨hx, hb, hml, hown, hts, hini, hfr, hlo⟩ := hC
  simp only [ci_i, Bool.and_eq_true] at hci
  obtain ⟨⟨⟨h1, h3⟩, h2⟩, h4⟩ := hci
  have h1 := Nat.eq_of_beq_eq_true h1
  have h2 := Nat.eq_of_beq_eq_true h2
  have h3 := Nat.eq_of_beq_eq_true h3
  have h4 : a < sm_ml k := Nat.blt_eq ▸ h4
  subst h1; subst h2; subst h3
  rcases S with _ | ⟨x | x | x, S⟩
  all_goals try trivial
  have hv0 : sq_okv G (.inr (.inr x)) := hX.2.2.1 _ List.mem_cons_self
  refine sq_loc hX (S1 := S) (fun v hv => hX.2.2.1 v (List.mem_cons_of_mem _ hv)) (fun Q kk => ?_)
  cases x with
  | none => exact lv_astoreN hx hb hd hX.2.1.has h4 rfl (fun ls1 hl => kk ls1 (hX.2.1.put (v := .inr (.inr none)) h4 hlg trivial rfl hl))
  | some q => exact lv_astore hx hb hd hX.2.1.has h4 rfl (fun ls1 hl => kk ls1 (hX.2.1.put (v := .inr (.inr (some q))) h4 hlg hv0 rfl hl))
theorem sx_astore_n (hC : sq_C p R s m args meth c k d) (hX : sq_XZ Z ad G M s H k L S ls locs) {tag a b len : Nat} {z : Int32} {n : Fin 4} (hlg : a = 0 ∨ sm_lg k (a - 1) = false) (hd : decode (sm_mb k) pc = .ok ((.astore_n n), len)) (hci : ci_i k (sm_oc k * 2048) pc tag a b len z (.astore_n n) = true) : sq_N Z p l e R s m args below meth c k d ad G M H locs cells slots ls pc S (sm_dis tag a b (pc + len) z L S G M) := by
  obtain ⟨hx, hb, hml, hown, hts, hini, hfr, hlo⟩ := hC
  simp only [ci_i, Bool.and_eq_true] at hci
  obtain ⟨⟨⟨h1, h3⟩, h2⟩, h4⟩ := hci
  have h1 := Nat.eq_of_beq_eq_true h1
  have h2 := Nat.eq_of_beq_eq_true h2
  have h3 := Nat.eq_of_beq_eq_true h3
  have h4 : a < sm_ml k := Nat.blt_eq ▸ h4
  subst h1; subst h2; subst h3
  rcases S with _ | ⟨x | x | x, S⟩
  all_goals try trivial
  have hv0 : sq_okv G (.inr (.inr x)) := hX.2.2.1 _ List.mem_cons_self
  refine sq_loc hX (S1 := S) (fun v hv => hX.2.2.1 v (List.mem_cons_of_mem _ hv)) (fun Q kk => ?_)
  cases x with
  | none => exact lv_astore_nN hx hb hd rfl hX.2.1.has h4 rfl (fun ls1 hl => kk ls1 (hX.2.1.put (v := .inr (.inr none)) h4 hlg trivial rfl hl))
  | some q => exact lv_astore_n hx hb hd rfl hX.2.1.has h4 rfl (fun ls1 hl => kk ls1 (hX.2.1.put (v := .inr (.inr (some q))) h4 hlg hv0 rfl hl))
theorem sx_iinc (hC : sq_C p R s m args meth c k d) (hX : sq_XZ Z ad G M s H k L S ls locs) {tag a b len : Nat} {z : Int32} {n : Nat} {w : Int} (hlg : a = 0 ∨ sm_lg k (a - 1) = false) (hd : decode (sm_mb k) pc = .ok ((.iinc n w), len)) (hci : ci_i k (sm_oc k * 2048) pc tag a b len z (.iinc n w) = true) : sq_N Z p l e R s m args below meth c k d ad G M H locs cells slots ls pc S (sm_dis tag a b (pc + len) z L S G M) := by
  obtain ⟨hx, hb, hml, hown, hts, hini, hfr, hlo⟩ := hC
  simp only [ci_i, Bool.and_eq_true] at hci
  obtain ⟨⟨⟨⟨h1, h3⟩, h5⟩, h2⟩, h4⟩ := hci
  have h1 := Nat.eq_of_beq_eq_true h1
  have h2 := Nat.eq_of_beq_eq_true h2
  have h3 := Nat.eq_of_beq_eq_true h3
  have h5 := of_decide_eq_true h5
  have h4 : a < sm_ml k := Nat.blt_eq ▸ h4
  subst h1; subst h2; subst h3; subst h5
  show sq_N Z p l e R s m args below meth c k d ad G M H locs cells slots ls pc S (sm_t5 n b _ _ L S G M)
  unfold sm_t5
  split
  · rename_i x hat
    have hl0 : lv_has ls (sm_ml k) ((n, .int x) :: sq_lv ad 0 L) := ⟨hX.2.1.has.1, hX.2.1.has.2.1, fun q hq => by
      rcases List.mem_cons.mp hq with rfl | hq
      · exact (hX.2.1.1.2.2.2 _ _ hat).1
      · exact hX.2.1.has.2.2 q hq⟩
    refine sq_loc hX (S1 := S) (fun v hv => hX.2.2.1 v hv) (fun Q kk => lv_iinc hx hb hd hl0 (k := 0) rfl rfl h4 rfl (fun ls1 hl => kk ls1 (hX.2.1.put (v := .inl (x + Int32.ofInt w)) h4 hlg trivial rfl ⟨hl.1, hl.2.1, fun q hq => hl.2.2 q ?_⟩)))
    rcases List.mem_cons.mp hq with rfl | hq
    · exact List.mem_cons_self
    · refine List.mem_cons_of_mem _ ?_
      rw [List.filter_cons]
      split
      · exact List.mem_cons_of_mem _ hq
      · exact hq
  · trivial
theorem sx_lstore (hC : sq_C p R s m args meth c k d) (hX : sq_XZ Z ad G M s H k L S ls locs) {tag a b len : Nat} {z : Int32} {n : Nat} (hlg2 : sm_lg k a = true) (hlg : a = 0 ∨ sm_lg k (a - 1) = false) (hd : decode (sm_mb k) pc = .ok ((.lstore n), len)) (hci : ci_i k (sm_oc k * 2048) pc tag a b len z (.lstore n) = true) : sq_N Z p l e R s m args below meth c k d ad G M H locs cells slots ls pc S (sm_dis tag a b (pc + len) z L S G M) := by
  obtain ⟨hx, hb, hml, hown, hts, hini, hfr, hlo⟩ := hC
  simp only [ci_i, Bool.and_eq_true] at hci
  obtain ⟨⟨⟨h1, h3⟩, h2⟩, h4⟩ := hci
  have h1 := Nat.eq_of_beq_eq_true h1
  have h2 := Nat.eq_of_beq_eq_true h2
  have h3 := Nat.eq_of_beq_eq_true h3
  have h4 : a + 1 < sm_ml k := Nat.blt_eq ▸ h4
  subst h1; subst h2; subst h3
  rcases S with _ | ⟨x | x | x, S⟩
  all_goals try trivial
  refine sq_loc hX (S1 := S) (fun v hv => hX.2.2.1 v (List.mem_cons_of_mem _ hv)) (fun Q kk => lv_lstore hx hb hd hX.2.1.has h4 rfl (fun ls1 hl => kk ls1 ?_))
  obtain ⟨⟨g0, g1, g2, g3⟩, g4⟩ := hX.2.1
  obtain ⟨l1, l2, l3⟩ := hl
  have hat : ∀ j w, sm_at (sm_pt (sm_pt L n (some (.inr (.inl x)))) (n + 1) none) j = some w → (j = n ∧ w = .inr (.inl x)) ∨ (j ≠ n ∧ j ≠ n + 1 ∧ sm_at L j = some w) := by
    intro j w hj
    rw [sm_pt_at _ _ _ _ (by rw [sm_pt_len]; omega)] at hj
    by_cases e1 : j = n + 1
    · rw [if_pos e1] at hj; cases hj
    · rw [if_neg e1, sm_pt_at _ _ _ _ (by omega)] at hj
      by_cases e2 : j = n
      · rw [if_pos e2] at hj
        cases hj
        exact Or.inl ⟨e2, rfl⟩
      · rw [if_neg e2] at hj
        exact Or.inr ⟨e2, e1, hj⟩
  refine ⟨⟨by rw [sm_pt_len, sm_pt_len]; exact g0, l1, l2, fun j w hj => ?_⟩, fun j y hj => ?_⟩
  · rcases hat j w hj with ⟨rfl, rfl⟩ | ⟨e1, e2, hj⟩
    · exact ⟨l3 _ List.mem_cons_self, trivial⟩
    · refine ⟨l3 (j, sq_v ad w) (List.mem_cons_of_mem _ (List.mem_filter.mpr ⟨by have := sq_lv_in (ad := ad) (n := 0) hj; rwa [Nat.zero_add] at this, ?_⟩)), (g3 j w hj).2⟩
      simp only [Bool.and_eq_true, Bool.not_eq_true', beq_eq_false_iff_ne, ne_eq, Bool.and_eq_false_iff]
      refine ⟨e1, e2, ?_⟩
      by_cases e3 : j + 1 = n
      · right
        intro hcat
        obtain ⟨y, rfl⟩ := sq_cat2 hcat
        have := g4 j y hj
        rcases hlg with q | q
        · omega
        · rw [show n - 1 = j by omega] at q
          rw [this] at q; cases q
      · exact Or.inl e3
  · rcases hat j _ hj with ⟨rfl, -⟩ | ⟨-, -, hj⟩
    · exact hlg2
    · exact g4 j y hj
theorem sx_dup (hC : sq_C p R s m args meth c k d) (hX : sq_XZ Z ad G M s H k L S ls locs) {tag a b len : Nat} {z : Int32} (hd : decode (sm_mb k) pc = .ok (.dup, len)) (hci : ci_i k (sm_oc k * 2048) pc tag a b len z .dup = true) : sq_N Z p l e R s m args below meth c k d ad G M H locs cells slots ls pc S (sm_dis tag a b (pc + len) z L S G M) := by
  obtain ⟨hx, hb, hml, hown, hts, hini, hfr, hlo⟩ := hC
  simp only [ci_i, Bool.and_eq_true] at hci
  obtain ⟨h1, h2⟩ := hci
  have h1 := Nat.eq_of_beq_eq_true h1
  have h2 := Nat.eq_of_beq_eq_true h2
  subst h1; subst h2
  rcases S with _ | ⟨x, S⟩
  all_goals try trivial
  intro hc1
  exact sq_pure hX (S1 := x :: x :: S) (fun v hv => by
    rcases List.mem_cons.mp hv with rfl | hv
    · exact hX.2.2.1 _ List.mem_cons_self
    · exact hX.2.2.1 v hv) (fun Q kk => lv_dup hx hb hd (sq_cat1 hc1) kk)
theorem sx_dup2 (hC : sq_C p R s m args meth c k d) (hX : sq_XZ Z ad G M s H k L S ls locs) {tag a b len : Nat} {z : Int32} (hd : decode (sm_mb k) pc = .ok (.dup2, len)) (hci : ci_i k (sm_oc k * 2048) pc tag a b len z .dup2 = true) : sq_N Z p l e R s m args below meth c k d ad G M H locs cells slots ls pc S (sm_dis tag a b (pc + len) z L S G M) := by
  obtain ⟨hx, hb, hml, hown, hts, hini, hfr, hlo⟩ := hC
  simp only [ci_i, Bool.and_eq_true] at hci
  obtain ⟨h1, h2⟩ := hci
  have h1 := Nat.eq_of_beq_eq_true h1
  have h2 := Nat.eq_of_beq_eq_true h2
  subst h1; subst h2
  rcases S with _ | ⟨x, _ | ⟨y, S⟩⟩
  all_goals try trivial
  intro hc1
  rw [Bool.and_eq_true] at hc1
  exact sq_pure hX (S1 := x :: y :: x :: y :: S) (fun v hv => by
    rcases List.mem_cons.mp hv with rfl | hv
    · exact hX.2.2.1 _ List.mem_cons_self
    · rcases List.mem_cons.mp hv with rfl | hv
      · exact hX.2.2.1 _ (List.mem_cons_of_mem _ List.mem_cons_self)
      · exact hX.2.2.1 v hv) (fun Q kk => lv_dup2_11 hx hb hd (sq_cat1 hc1.2) (sq_cat1 hc1.1) kk)
theorem sx_goto (hC : sq_C p R s m args meth c k d) (hX : sq_XZ Z ad G M s H k L S ls locs) {tag a b len : Nat} {z : Int32} {off : Int} (hd : decode (sm_mb k) pc = .ok ((.goto off), len)) (hci : ci_i k (sm_oc k * 2048) pc tag a b len z (.goto off) = true) : sq_N Z p l e R s m args below meth c k d ad G M H locs cells slots ls pc S (sm_dis tag a b (pc + len) z L S G M) := by
  obtain ⟨hx, hb, hml, hown, hts, hini, hfr, hlo⟩ := hC
  simp only [ci_i, Bool.and_eq_true] at hci
  obtain ⟨⟨h1, h3⟩, h2⟩ := hci
  have h1 := Nat.eq_of_beq_eq_true h1
  have h2 := Nat.eq_of_beq_eq_true h2
  subst h1; subst h2
  exact sq_pure hX (S1 := S) (fun v hv => hX.2.2.1 v hv) (fun Q kk => lv_goto hx hb hd (of_decide_eq_true h3) kk)
theorem sx_if_icmp (hC : sq_C p R s m args meth c k d) (hX : sq_XZ Z ad G M s H k L S ls locs) {tag a b len : Nat} {z : Int32} {cnd : Jvm.ClassFile.Cond} {off : Int} (hd : decode (sm_mb k) pc = .ok ((.if_icmp cnd off), len)) (hci : ci_i k (sm_oc k * 2048) pc tag a b len z (.if_icmp cnd off) = true) : sq_N Z p l e R s m args below meth c k d ad G M H locs cells slots ls pc S (sm_dis tag a b (pc + len) z L S G M) := by
  obtain ⟨hx, hb, hml, hown, hts, hini, hfr, hlo⟩ := hC
  simp only [ci_i, Bool.and_eq_true] at hci
  obtain ⟨⟨h1, h3⟩, h2⟩ := hci
  have h1 := Nat.eq_of_beq_eq_true h1
  have h2 := Nat.eq_of_beq_eq_true h2
  have h3 := of_decide_eq_true h3
  subst h2
  rcases S with _ | ⟨y | y, _ | ⟨x | x, S⟩⟩
  all_goals (rcases cnd with _ | _ | _ | _ | _ | _ <;> (simp only [ci_cn] at h1; subst h1))
  all_goals try trivial
  · refine ⟨fun hP => sq_pure hX (S1 := S) (fun v hv => hX.2.2.1 v (List.mem_cons_of_mem _ (List.mem_cons_of_mem _ hv))) (fun Q kk => lv_icmp_eq hx hb hd h3 (fun _ => kk) (fun hn => absurd (of_decide_eq_true hP) hn)), fun hP => sq_pure hX (S1 := S) (fun v hv => hX.2.2.1 v (List.mem_cons_of_mem _ (List.mem_cons_of_mem _ hv))) (fun Q kk => lv_icmp_eq hx hb hd h3 (fun hy => absurd (decide_eq_true hy) hP) (fun _ => kk))⟩
  · refine ⟨fun hP => sq_pure hX (S1 := S) (fun v hv => hX.2.2.1 v (List.mem_cons_of_mem _ (List.mem_cons_of_mem _ hv))) (fun Q kk => lv_icmp_ne hx hb hd h3 (fun hn => absurd (of_decide_eq_true hP) hn) (fun _ => kk)), fun hP => sq_pure hX (S1 := S) (fun v hv => hX.2.2.1 v (List.mem_cons_of_mem _ (List.mem_cons_of_mem _ hv))) (fun Q kk => lv_icmp_ne hx hb hd h3 (fun _ => kk) (fun hy => absurd (decide_eq_true hy) hP))⟩
  · refine ⟨fun hP => sq_pure hX (S1 := S) (fun v hv => hX.2.2.1 v (List.mem_cons_of_mem _ (List.mem_cons_of_mem _ hv))) (fun Q kk => lv_icmp_lt hx hb hd h3 (fun _ => kk) (fun hn => absurd (of_decide_eq_true hP) hn)), fun hP => sq_pure hX (S1 := S) (fun v hv => hX.2.2.1 v (List.mem_cons_of_mem _ (List.mem_cons_of_mem _ hv))) (fun Q kk => lv_icmp_lt hx hb hd h3 (fun hy => absurd (decide_eq_true hy) hP) (fun _ => kk))⟩
  · refine ⟨fun hP => sq_pure hX (S1 := S) (fun v hv => hX.2.2.1 v (List.mem_cons_of_mem _ (List.mem_cons_of_mem _ hv))) (fun Q kk => lv_icmp_ge hx hb hd h3 (fun hn => absurd (of_decide_eq_true hP) (sq_le.mp hn)) (fun _ => kk)), fun hP => sq_pure hX (S1 := S) (fun v hv => hX.2.2.1 v (List.mem_cons_of_mem _ (List.mem_cons_of_mem _ hv))) (fun Q kk => lv_icmp_ge hx hb hd h3 (fun _ => kk) (fun hy => absurd (sq_le.mpr (fun q => hP (decide_eq_true q))) hy))⟩
  · refine ⟨fun hP => sq_pure hX (S1 := S) (fun v hv => hX.2.2.1 v (List.mem_cons_of_mem _ (List.mem_cons_of_mem _ hv))) (fun Q kk => lv_icmp_gt hx hb hd h3 (fun _ => kk) (fun hn => absurd (of_decide_eq_true hP) hn)), fun hP => sq_pure hX (S1 := S) (fun v hv => hX.2.2.1 v (List.mem_cons_of_mem _ (List.mem_cons_of_mem _ hv))) (fun Q kk => lv_icmp_gt hx hb hd h3 (fun hy => absurd (decide_eq_true hy) hP) (fun _ => kk))⟩
  · refine ⟨fun hP => sq_pure hX (S1 := S) (fun v hv => hX.2.2.1 v (List.mem_cons_of_mem _ (List.mem_cons_of_mem _ hv))) (fun Q kk => lv_icmp_le hx hb hd h3 (fun hn => absurd (of_decide_eq_true hP) (sq_le.mp hn)) (fun _ => kk)), fun hP => sq_pure hX (S1 := S) (fun v hv => hX.2.2.1 v (List.mem_cons_of_mem _ (List.mem_cons_of_mem _ hv))) (fun Q kk => lv_icmp_le hx hb hd h3 (fun _ => kk) (fun hy => absurd (sq_le.mpr (fun q => hP (decide_eq_true q))) hy))⟩
theorem sx_ifCond (hC : sq_C p R s m args meth c k d) (hX : sq_XZ Z ad G M s H k L S ls locs) {tag a b len : Nat} {z : Int32} {cnd : Jvm.ClassFile.Cond} {off : Int} (hd : decode (sm_mb k) pc = .ok ((.ifCond cnd off), len)) (hci : ci_i k (sm_oc k * 2048) pc tag a b len z (.ifCond cnd off) = true) : sq_N Z p l e R s m args below meth c k d ad G M H locs cells slots ls pc S (sm_dis tag a b (pc + len) z L S G M) := by
  obtain ⟨hx, hb, hml, hown, hts, hini, hfr, hlo⟩ := hC
  simp only [ci_i, Bool.and_eq_true] at hci
  obtain ⟨⟨h1, h3⟩, h2⟩ := hci
  have h1 := Nat.eq_of_beq_eq_true h1
  have h2 := Nat.eq_of_beq_eq_true h2
  have h3 := of_decide_eq_true h3
  subst h2
  rcases S with _ | ⟨x | x, S⟩
  all_goals (rcases cnd with _ | _ | _ | _ | _ | _ <;> (simp only [ci_cn] at h1; subst h1))
  all_goals try trivial
  · refine ⟨fun hP => sq_pure hX (S1 := S) (fun v hv => hX.2.2.1 v (List.mem_cons_of_mem _ hv)) (fun Q kk => lv_if_eq hx hb hd h3 (fun _ => kk) (fun hn => absurd (of_decide_eq_true hP) hn)), fun hP => sq_pure hX (S1 := S) (fun v hv => hX.2.2.1 v (List.mem_cons_of_mem _ hv)) (fun Q kk => lv_if_eq hx hb hd h3 (fun hy => absurd (decide_eq_true hy) hP) (fun _ => kk))⟩
  · refine ⟨fun hP => sq_pure hX (S1 := S) (fun v hv => hX.2.2.1 v (List.mem_cons_of_mem _ hv)) (fun Q kk => lv_if_ne hx hb hd h3 (fun hn => absurd (of_decide_eq_true hP) hn) (fun _ => kk)), fun hP => sq_pure hX (S1 := S) (fun v hv => hX.2.2.1 v (List.mem_cons_of_mem _ hv)) (fun Q kk => lv_if_ne hx hb hd h3 (fun _ => kk) (fun hy => absurd (decide_eq_true hy) hP))⟩
  · refine ⟨fun hP => sq_pure hX (S1 := S) (fun v hv => hX.2.2.1 v (List.mem_cons_of_mem _ hv)) (fun Q kk => lv_if_lt hx hb hd h3 (fun _ => kk) (fun hn => absurd (of_decide_eq_true hP) hn)), fun hP => sq_pure hX (S1 := S) (fun v hv => hX.2.2.1 v (List.mem_cons_of_mem _ hv)) (fun Q kk => lv_if_lt hx hb hd h3 (fun hy => absurd (decide_eq_true hy) hP) (fun _ => kk))⟩
  · refine ⟨fun hP => sq_pure hX (S1 := S) (fun v hv => hX.2.2.1 v (List.mem_cons_of_mem _ hv)) (fun Q kk => lv_if_ge hx hb hd h3 (fun hn => absurd (of_decide_eq_true hP) (sq_le.mp hn)) (fun _ => kk)), fun hP => sq_pure hX (S1 := S) (fun v hv => hX.2.2.1 v (List.mem_cons_of_mem _ hv)) (fun Q kk => lv_if_ge hx hb hd h3 (fun _ => kk) (fun hy => absurd (sq_le.mpr (fun q => hP (decide_eq_true q))) hy))⟩
  · refine ⟨fun hP => sq_pure hX (S1 := S) (fun v hv => hX.2.2.1 v (List.mem_cons_of_mem _ hv)) (fun Q kk => lv_if_gt hx hb hd h3 (fun _ => kk) (fun hn => absurd (of_decide_eq_true hP) hn)), fun hP => sq_pure hX (S1 := S) (fun v hv => hX.2.2.1 v (List.mem_cons_of_mem _ hv)) (fun Q kk => lv_if_gt hx hb hd h3 (fun hy => absurd (decide_eq_true hy) hP) (fun _ => kk))⟩
  · refine ⟨fun hP => sq_pure hX (S1 := S) (fun v hv => hX.2.2.1 v (List.mem_cons_of_mem _ hv)) (fun Q kk => lv_if_le hx hb hd h3 (fun hn => absurd (of_decide_eq_true hP) (sq_le.mp hn)) (fun _ => kk)), fun hP => sq_pure hX (S1 := S) (fun v hv => hX.2.2.1 v (List.mem_cons_of_mem _ hv)) (fun Q kk => lv_if_le hx hb hd h3 (fun _ => kk) (fun hy => absurd (sq_le.mpr (fun q => hP (decide_eq_true q))) hy))⟩
theorem sx_ifnull (hC : sq_C p R s m args meth c k d) (hX : sq_XZ Z ad G M s H k L S ls locs) {tag a b len : Nat} {z : Int32} {off : Int} (hd : decode (sm_mb k) pc = .ok ((.ifnull off), len)) (hci : ci_i k (sm_oc k * 2048) pc tag a b len z (.ifnull off) = true) : sq_N Z p l e R s m args below meth c k d ad G M H locs cells slots ls pc S (sm_dis tag a b (pc + len) z L S G M) := by
  obtain ⟨hx, hb, hml, hown, hts, hini, hfr, hlo⟩ := hC
  simp only [ci_i, Bool.and_eq_true] at hci
  obtain ⟨⟨h1, h3⟩, h2⟩ := hci
  have h1 := Nat.eq_of_beq_eq_true h1
  have h2 := Nat.eq_of_beq_eq_true h2
  have h3 := of_decide_eq_true h3
  subst h1; subst h2
  rcases S with _ | ⟨x | x | _ | x, S⟩
  all_goals try trivial
  · exact sq_pure hX (S1 := S) (fun v hv => hX.2.2.1 v (List.mem_cons_of_mem _ hv)) (fun Q kk => lv_ifnullN hx hb hd h3 kk)
  · exact sq_pure hX (S1 := S) (fun v hv => hX.2.2.1 v (List.mem_cons_of_mem _ hv)) (fun Q kk => lv_ifnull hx hb hd kk)
theorem sx_ifnonnull (hC : sq_C p R s m args meth c k d) (hX : sq_XZ Z ad G M s H k L S ls locs) {tag a b len : Nat} {z : Int32} {off : Int} (hd : decode (sm_mb k) pc = .ok ((.ifnonnull off), len)) (hci : ci_i k (sm_oc k * 2048) pc tag a b len z (.ifnonnull off) = true) : sq_N Z p l e R s m args below meth c k d ad G M H locs cells slots ls pc S (sm_dis tag a b (pc + len) z L S G M) := by
  obtain ⟨hx, hb, hml, hown, hts, hini, hfr, hlo⟩ := hC
  simp only [ci_i, Bool.and_eq_true] at hci
  obtain ⟨⟨h1, h3⟩, h2⟩ := hci
  have h1 := Nat.eq_of_beq_eq_true h1
  have h2 := Nat.eq_of_beq_eq_true h2
  have h3 := of_decide_eq_true h3
  subst h1; subst h2
  rcases S with _ | ⟨x | x | _ | x, S⟩
  all_goals try trivial
  · exact sq_pure hX (S1 := S) (fun v hv => hX.2.2.1 v (List.mem_cons_of_mem _ hv)) (fun Q kk => lv_ifnonnullN hx hb hd kk)
  · exact sq_pure hX (S1 := S) (fun v hv => hX.2.2.1 v (List.mem_cons_of_mem _ hv)) (fun Q kk => lv_ifnonnull hx hb hd h3 kk)
theorem sx_if_acmp (hC : sq_C p R s m args meth c k d) (hX : sq_XZ Z ad G M s H k L S ls locs) {tag a b len : Nat} {z : Int32} {off : Int} (hd : decode (sm_mb k) pc = .ok ((.if_acmp .eq off), len)) (hci : ci_i k (sm_oc k * 2048) pc tag a b len z (.if_acmp .eq off) = true) : sq_N Z p l e R s m args below meth c k d ad G M H locs cells slots ls pc S (sm_dis tag a b (pc + len) z L S G M) := by
  obtain ⟨hx, hb, hml, hown, hts, hini, hfr, hlo⟩ := hC
  simp only [ci_i, Bool.and_eq_true] at hci
  obtain ⟨⟨h1, h3⟩, h2⟩ := hci
  have h1 := Nat.eq_of_beq_eq_true h1
  have h2 := Nat.eq_of_beq_eq_true h2
  have h3 := of_decide_eq_true h3
  subst h1; subst h2
  rcases S with _ | ⟨x | x | _ | ⟨f, i⟩, _ | ⟨y | y | _ | ⟨g, j⟩, S⟩⟩
  all_goals try trivial
  show sq_N Z p l e R s m args below meth c k d ad G M H locs cells slots ls pc _ (cond (Nat.ble 10 f) (sm_br (Nat.beq f g && Nat.beq i j) b (pc + 3) L S) none)
  cases h10 : Nat.ble 10 f
  · trivial
  have h10 := Nat.le_of_ble_eq_true h10
  have hR : sq_R _ _ _ _ _ _ _ ad G M s H := hX.1
  have hok1 : sq_ok G (some (f, i)) := hX.2.2.1 _ List.mem_cons_self
  have hok2 : sq_ok G (some (g, j)) := hX.2.2.1 _ (List.mem_cons_of_mem _ List.mem_cons_self)
  have hi : i < G.2.2.1 f := by
    rcases hok1 with ⟨q, -⟩ | ⟨-, q⟩
    · omega
    · exact q
  have key : (Nat.beq f g && Nat.beq i j) = true ↔ some (ad g j) = some (ad f i) := by
    rw [Bool.and_eq_true]
    constructor
    · rintro ⟨q1, q2⟩
      rw [Nat.eq_of_beq_eq_true q1, Nat.eq_of_beq_eq_true q2]
    · intro q
      have q := Option.some.inj q
      rcases hok2 with ⟨g8, rfl⟩ | ⟨g10, hj⟩
      · have a1 := (hR.2.1 f i h10 hi).1
        have a2 : ad g 0 < Z.1.size := by
          rw [hR.2.2.2.2.1 g (by omega)]
          exact sq_old_lt hR.2.2.2.2.2.2.2 g8
        omega
      · obtain ⟨rfl, rfl⟩ := hR.2.2.1 g j f i g10 hj h10 hi q
        exact ⟨Nat.beq_refl _, Nat.beq_refl _⟩
  exact ⟨fun hP => sq_pure hX (S1 := S) (fun v hv => hX.2.2.1 v (List.mem_cons_of_mem _ (List.mem_cons_of_mem _ hv))) (fun Q kk => lv_acmp_eq (rx := some (ad g j)) (ry := some (ad f i)) hx hb hd h3 (fun _ => kk) (fun hn => absurd (key.mp hP) hn)), fun hP => sq_pure hX (S1 := S) (fun v hv => hX.2.2.1 v (List.mem_cons_of_mem _ (List.mem_cons_of_mem _ hv))) (fun Q kk => lv_acmp_eq (rx := some (ad g j)) (ry := some (ad f i)) hx hb hd h3 (fun hy => absurd (key.mpr hy) hP) (fun _ => kk))⟩
end
