/-! reading through the relation -/
theorem sm_fc_big (g : Nat) : sm_fc (g + 102) = 999 := rfl
theorem sm_fc_vals (f : Nat) : sm_fc f < 13 ∨ sm_fc f = 99 ∨ sm_fc f = 100 ∨ sm_fc f = 101 ∨ sm_fc f = 102 ∨ (110 ≤ sm_fc f ∧ sm_fc f < 123) ∨ sm_fc f = 999 := by
  rcases Nat.lt_or_ge f 102 with h | h
  · have : ∀ f, f < 102 → (sm_fc f < 13 ∨ sm_fc f = 99 ∨ sm_fc f = 100 ∨ sm_fc f = 101 ∨ sm_fc f = 102 ∨ (110 ≤ sm_fc f ∧ sm_fc f < 123) ∨ sm_fc f = 999) := by decide
    exact this f h
  · obtain ⟨g, rfl⟩ : ∃ g, f = g + 102 := ⟨f - 102, by omega⟩
    rw [sm_fc_big]; simp
theorem sm_fc99 {f : Nat} (h : sm_fc f = 99) : f < 10 := by
  rcases Nat.lt_or_ge f 102 with q | q
  · have : ∀ f, f < 102 → sm_fc f = 99 → f < 10 := by decide
    exact this f q h
  · obtain ⟨g, rfl⟩ : ∃ g, f = g + 102 := ⟨f - 102, by omega⟩
    rw [sm_fc_big] at h; cases h
theorem sm_len_ne {G : sm_G} {f : Nat} (h : f ≠ 0) : sm_len G f = sm_ln f := by
  cases f with
  | zero => exact absurd rfl h
  | succ n => rfl
theorem sm_tr100 (k : Nat) : sm_tr 100 k = false := rfl
theorem sm_tr101 (k : Nat) : sm_tr 101 k = false := rfl
theorem sm_tr102 (k : Nat) : sm_tr 102 k = false := rfl
theorem sm_tr110 {c : Nat} (h : 110 ≤ c) (k : Nat) : sm_tr c k = true := by
  unfold sm_tr
  rw [Nat.ble_eq_true_of_le h]; rfl
theorem sm_in_iff {x : Int32} {n : Nat} : sm_in x n = true ↔ ¬ (x < 0 ∨ n ≤ x.toNatClampNeg) := by
  simp [sm_in]
section
variable {H0 : Heap} {ad0 : Nat → Nat} {L0 : Nat} {xs : Nat → Int32} {adV : Nat → Nat} {D : va_G} {cA : Nat → ClassId}
theorem sq_R.lt' {ad : Nat → Nat → Nat} {G : sm_G} {M : sm_M} {U : State} {H : Heap} (hR : sq_R H0 ad0 L0 xs adV D cA ad G M U H) : ∀ f i, 10 ≤ f → i < G.2.2.1 f → ad f i < H.size :=
  hR.lt (fun f hf _ h9 => by have := sm_fc99 h9; omega)
theorem sq_R.old {ad : Nat → Nat → Nat} {G : sm_G} {M : sm_M} {U : State} {H : Heap} (hR : sq_R H0 ad0 L0 xs adV D cA ad G M U H) {a n : Nat} {g : Nat → Int32} (ha : a < H0.size) (h : sq_arr U H0 a n g) : sq_arr U H a n g := by
  obtain ⟨cell, h1, h2⟩ := h
  exact ⟨cell, by rw [hR.1.2 a ha]; exact h1, h2⟩
theorem sq_R.arr {ad : Nat → Nat → Nat} {G : sm_G} {M : sm_M} {U : State} {H : Heap} (hR : sq_R H0 ad0 L0 xs adV D cA ad G M U H) {f i : Nat} (hok : sq_ok G (some (f, i))) (hfc : sm_fc f = 100) : sq_arr U H (ad f i) (sm_len G f) (M f i) := by
  rcases hok with ⟨h8, rfl⟩ | ⟨h10, hi⟩
  · obtain ⟨-, -, -, -, h6, ⟨h7, h7a, h7b⟩, -, hO⟩ := id hR
    rw [h6 f (by omega)]
    by_cases e : f = 0
    · subst e
      obtain ⟨cell, q1, q2, q3, q4, q5, q6⟩ := hR.old hO.1.1 hO.1.2
      show sq_arr U H (ad0 0) (G.2.2.1 0) (M 0 0)
      rw [h7]
      exact ⟨cell, q1, q2, q3, q4, q5, fun j hj => by rw [h7a j hj]; exact q6 j hj⟩
    · have h5 : f < 5 := by
        have : ∀ f, f < 8 → sm_fc f = 100 → f < 5 := by decide
        exact this f h8 hfc
      obtain ⟨o1, o2, -⟩ := hO.2.1 f (by omega) (by omega)
      obtain ⟨cell, q1, q2, q3, q4, q5, q6⟩ := hR.old o1 o2
      have hl : sm_len G f = 7 := by
        rw [sm_len_ne e]
        have : ∀ f, f < 5 → f ≠ 0 → sm_ln f = 7 := by decide
        exact this f h5 e
      rw [hl]
      exact ⟨cell, q1, q2, q3, q4, q5, fun j hj => by rw [h7b f j (by omega) (by omega) hj]; exact q6 j hj⟩
  · obtain ⟨a1, -, a3⟩ := hR.2.1 f i h10 hi
    have hA := (hR.2.2.2.2.2.2.1.2.2 f h10 (by omega) (by omega)).1
    have hc := a3 (by omega)
    rw [hfc] at hA hc
    rw [sm_len_ne (by omega)]
    refine ⟨_, hc, hA _ _, (fun q => by cases q), Nat.le_of_eq (arrV_size _ _ _).symm, congrArg Nat.toInt32 (arrV_size _ _ _), fun j hj => ?_⟩
    rw [arrV_read _ _ hj]
    unfold sq_sl
    rw [hfc, sm_tr100]; rfl
theorem sq_R.obj {ad : Nat → Nat → Nat} {G : sm_G} {M : sm_M} {U : State} {H : Heap} (hR : sq_R H0 ad0 L0 xs adV D cA ad G M U H) {f i c : Nat} (hok : sq_ok G (some (f, i))) (hfc : sm_fc f = c) (hc : c < 99) : 10 ≤ f ∧ i < G.2.2.1 f ∧ t_OB (ad f i) (D.1 c) (sm_nf c) (D.2 c) H (sq_sl ad G M f i) := by
  have h10 := sq_fc10b hfc hc
  rcases hok with ⟨h8, -⟩ | ⟨-, hi⟩
  · omega
  · have := (hR.2.1 f i h10 hi).2.1 (by omega)
    rw [hfc] at this
    exact ⟨h10, hi, this⟩
theorem sq_v_ag {ad ad1 : Nat → Nat → Nat} {G G1 : sm_G} {M M1 : sm_M} {U U1 : State} {H H1 : Heap} (hR : sq_R H0 ad0 L0 xs adV D cA ad G M U H) (hR1 : sq_R H0 ad0 L0 xs adV D cA ad1 G1 M1 U1 H1) (h : sq_ag G ad ad1) {v : sm_V} (hv : sq_okv G v) : sq_v ad1 v = sq_v ad v := by
  rcases v with x | y | r
  · rfl
  · rfl
  · cases r with
    | none => rfl
    | some q =>
      obtain ⟨f, i⟩ := q
      show Value.ref (ad1 f i) = Value.ref (ad f i)
      rcases hv with ⟨h8, rfl⟩ | ⟨h10, hi⟩
      · rw [hR.2.2.2.2.1 f (by omega), hR1.2.2.2.2.1 f (by omega)]
      · rw [h f i h10 hi]
theorem sq_map_ag {ad ad1 : Nat → Nat → Nat} {G G1 : sm_G} {M M1 : sm_M} {U U1 : State} {H H1 : Heap} (hR : sq_R H0 ad0 L0 xs adV D cA ad G M U H) (hR1 : sq_R H0 ad0 L0 xs adV D cA ad1 G1 M1 U1 H1) (h : sq_ag G ad ad1) {S : sm_S} (hS : ∀ v ∈ S, sq_okv G v) : S.map (sq_v ad1) = S.map (sq_v ad) :=
  List.map_congr_left fun v hv => sq_v_ag hR hR1 h (hS v hv)
end
/-! locals -/
def sq_lv (ad : Nat → Nat → Nat) : Nat → sm_L → List (Nat × Value)
  | _, [] => []
  | n, none :: t => sq_lv ad (n + 1) t
  | n, some v :: t => (n, sq_v ad v) :: sq_lv ad (n + 1) t
theorem sq_lv_mem {ad : Nat → Nat → Nat} : ∀ {L : sm_L} {n j : Nat} {w : Value}, (j, w) ∈ sq_lv ad n L → ∃ v, n ≤ j ∧ sm_at L (j - n) = some v ∧ w = sq_v ad v
  | [], n, j, w, h => by simp [sq_lv] at h
  | none :: t, n, j, w, h => by
    obtain ⟨v, h1, h2, h3⟩ := sq_lv_mem (L := t) h
    refine ⟨v, by omega, ?_, h3⟩
    rw [show j - n = (j - (n + 1)) + 1 by omega]; exact h2
  | some v :: t, n, j, w, h => by
    rcases List.mem_cons.mp h with h | h
    · cases h
      exact ⟨v, Nat.le_refl _, by rw [Nat.sub_self]; rfl, rfl⟩
    · obtain ⟨v', h1, h2, h3⟩ := sq_lv_mem (L := t) h
      refine ⟨v', by omega, ?_, h3⟩
      rw [show j - n = (j - (n + 1)) + 1 by omega]; exact h2
theorem sq_lv_in {ad : Nat → Nat → Nat} : ∀ {L : sm_L} {n j : Nat} {v : sm_V}, sm_at L j = some v → (n + j, sq_v ad v) ∈ sq_lv ad n L
  | [], n, j, v, h => by simp [sm_at] at h
  | none :: t, n, 0, v, h => by simp [sm_at] at h
  | some x :: t, n, 0, v, h => by
    have : x = v := by simpa [sm_at] using h
    subst this
    exact List.mem_cons_self
  | none :: t, n, j + 1, v, h => by
    have := sq_lv_in (ad := ad) (L := t) (n := n + 1) (j := j) (v := v) h
    rw [show n + (j + 1) = n + 1 + j by omega]; exact this
  | some x :: t, n, j + 1, v, h => by
    have := sq_lv_in (ad := ad) (L := t) (n := n + 1) (j := j) (v := v) h
    rw [show n + (j + 1) = n + 1 + j by omega]; exact List.mem_cons_of_mem _ this
theorem sm_pt_len : ∀ (L : sm_L) (a : Nat) (v : Option sm_V), (sm_pt L a v).length = L.length
  | [], _, _ => rfl
  | _ :: _, 0, _ => rfl
  | _ :: t, n + 1, v => by simp [sm_pt, sm_pt_len t n v]
theorem sm_pt_at : ∀ (L : sm_L) (a j : Nat) (v : Option sm_V), a < L.length → sm_at (sm_pt L a v) j = if j = a then v else sm_at L j
  | [], a, _, _, h => by simp at h
  | x :: t, 0, 0, v, _ => by simp [sm_pt, sm_at]
  | x :: t, 0, j + 1, v, _ => by simp [sm_pt, sm_at]
  | x :: t, a + 1, 0, v, _ => by simp [sm_pt, sm_at]
  | x :: t, a + 1, j + 1, v, h => by
    have := sm_pt_at t a j v (by simpa using h)
    simp [sm_pt, sm_at, this]
/-- the places for longs: one method has one -/
def sm_lg (k j : Nat) : Bool := Nat.beq k 180 && Nat.beq j 12
def ci_lg (k pc : Nat) : Bool := match sm_ins k pc with
  | (tag, a, _, _, _) => if tag = 3 ∨ tag = 4 ∨ tag = 5 then Nat.beq a 0 || !sm_lg k (a - 1) else if tag = 70 then sm_lg k a && (Nat.beq a 0 || !sm_lg k (a - 1)) else true
theorem ck_lg : sm_upto 276 (fun k => sm_upto (sm_sz k) (ci_lg k)) = true := by decide +kernel
def sq_Lk (ad : Nat → Nat → Nat) (G : sm_G) (k : Nat) (L : sm_L) (ls : Array Slot) : Prop := sq_L ad G (sm_ml k) L ls ∧ ∀ j y, sm_at L j = some (.inr (.inl y)) → sm_lg k j = true
theorem sq_Lk.has {ad : Nat → Nat → Nat} {G : sm_G} {k : Nat} {L : sm_L} {ls : Array Slot} (h : sq_Lk ad G k L ls) : lv_has ls (sm_ml k) (sq_lv ad 0 L) := by
  obtain ⟨⟨-, h1, h2, h3⟩, -⟩ := h
  refine ⟨h1, h2, fun q hq => ?_⟩
  obtain ⟨v, -, a2, a3⟩ := sq_lv_mem (L := L) (n := 0) (j := q.1) (w := q.2) hq
  rw [a3]
  exact (h3 q.1 v a2).1
theorem sq_cat2 {ad : Nat → Nat → Nat} {v : sm_V} (h : (sq_v ad v).category = 2) : ∃ y, v = .inr (.inl y) := by
  rcases v with x | y | r
  · simp [sq_v, Value.category] at h
  · exact ⟨y, rfl⟩
  · cases r <;> simp [sq_v, sq_rv, Value.category] at h
/-- a value of one place stored -/
theorem sq_Lk.put {ad : Nat → Nat → Nat} {G : sm_G} {k : Nat} {L : sm_L} {ls ls' : Array Slot} (h : sq_Lk ad G k L ls) {a : Nat} {v : sm_V} (ha : a < sm_ml k) (hlg : a = 0 ∨ sm_lg k (a - 1) = false) (hv : sq_okv G v) (hc : sm_c1 v = true) (hl : lv_has ls' (sm_ml k) ((a, sq_v ad v) :: (sq_lv ad 0 L).filter (fun q => !(q.1 == a) && !(q.1 + 1 == a && q.2.category == 2)))) : sq_Lk ad G k (sm_pt L a (some v)) ls' := by
  obtain ⟨⟨h0, h1, h2, h3⟩, h4⟩ := h
  obtain ⟨l1, l2, l3⟩ := hl
  refine ⟨⟨by rw [sm_pt_len]; exact h0, l1, l2, fun j w hj => ?_⟩, fun j y hj => ?_⟩
  · rw [sm_pt_at _ _ _ _ (by omega)] at hj
    by_cases e : j = a
    · subst e
      rw [if_pos rfl] at hj
      cases hj
      exact ⟨l3 _ List.mem_cons_self, hv⟩
    · rw [if_neg e] at hj
      refine ⟨l3 (j, sq_v ad w) (List.mem_cons_of_mem _ (List.mem_filter.mpr ⟨by have := sq_lv_in (ad := ad) (n := 0) hj; rwa [Nat.zero_add] at this, ?_⟩)), (h3 j w hj).2⟩
      simp only [Bool.and_eq_true, Bool.not_eq_true', beq_eq_false_iff_ne, ne_eq, Bool.and_eq_false_iff]
      refine ⟨e, ?_⟩
      by_cases e2 : j + 1 = a
      · right
        intro hcat
        obtain ⟨y, rfl⟩ := sq_cat2 hcat
        have := h4 j y hj
        rcases hlg with q | q
        · omega
        · rw [show a - 1 = j by omega] at q
          rw [this] at q; cases q
      · exact Or.inl e2
  · rw [sm_pt_at _ _ _ _ (by omega)] at hj
    by_cases e : j = a
    · rw [if_pos e] at hj
      cases hj
      simp [sm_c1] at hc
    · rw [if_neg e] at hj
      exact h4 j y hj
theorem sq_Lk.ag {ad ad1 : Nat → Nat → Nat} {G G1 : sm_G} {k : Nat} {L : sm_L} {ls : Array Slot} (h : sq_Lk ad G k L ls) (hv : ∀ v, sq_okv G v → sq_v ad1 v = sq_v ad v ∧ sq_okv G1 v) : sq_Lk ad1 G1 k L ls := by
  obtain ⟨⟨h0, h1, h2, h3⟩, h4⟩ := h
  refine ⟨⟨h0, h1, h2, fun j w hj => ?_⟩, h4⟩
  obtain ⟨a1, a2⟩ := h3 j w hj
  rw [(hv w a2).1]
  exact ⟨a1, (hv w a2).2⟩
