/-! the constructors' memory in closed form: under the relation it is all one -/
theorem cnt_big (g : Nat) : sm_cnt0 (g + 102) = 0 := rfl
theorem sl_c_big : ∀ (C : List (Nat × Nat)) (f : Nat), 102 ≤ f → C.all (fun q => Nat.blt q.1 102) = true → sl_c C f = 0
  | [], _, _, _ => rfl
  | (g, v) :: t, f, hf, h => by
    rw [List.all_cons, Bool.and_eq_true] at h
    have hg : g < 102 := Nat.blt_eq ▸ h.1
    unfold sl_c
    have : Nat.beq f g = false := by rw [sl_beq]; exact decide_eq_false (by omega)
    rw [this, cond_false]
    exact sl_c_big t f hf h.2
theorem cC_cnt (f : Nat) : sl_c cC f = sm_cnt0 f := by
  have h := ck_cnt
  rw [Bool.and_eq_true] at h
  rcases Nat.lt_or_ge f 102 with q | q
  · exact Nat.eq_of_beq_eq_true (sm_upto_ok h.2 f q)
  · obtain ⟨g, rfl⟩ : ∃ g, f = g + 102 := ⟨f - 102, by omega⟩
    rw [cnt_big, sl_c_big _ _ q h.1]
theorem cnt_lt {f i : Nat} (h : i < sm_cnt0 f) : f < 102 := by
  rcases Nat.lt_or_ge f 102 with q | q
  · exact q
  · obtain ⟨g, rfl⟩ : ∃ g, f = g + 102 := ⟨f - 102, by omega⟩
    rw [cnt_big] at h; omega
theorem cI_at (M0 : sm_M) {f i k : Nat} (hf : 10 ≤ f) (hi : i < sm_cnt0 f) (hk : k < sz_ f) : (sm_tr (sm_fc f) k = true → sl_r cR f i k = sm_mr0 f i k) ∧ (sm_tr (sm_fc f) k = false → sl_m M0 cV f i k = mI M0 f i k) := by
  have h := sm_upto_ok ck_all f (cnt_lt hi)
  rcases (Bool.or_eq_true _ _).mp h with h | h
  · have := Nat.le_of_ble_eq_true h; omega
  have h := sm_upto_ok (sm_upto_ok h i hi) k hk
  constructor
  · intro ht
    rw [ht, cond_true] at h
    split at h
    · rename_i r hr
      rw [← sl_rb_ok h]
      exact sl_lk_ok _ _ f i k r cR hr
    · cases h
  · intro ht
    rw [ht, cond_false] at h
    split at h
    · rename_i v hv
      have e : sl_m M0 cV f i k = v := sl_lk_ok M0 0 f i k v cV hv
      rw [e, of_decide_eq_true h]
      unfold mI
      rw [Nat.ble_eq_true_of_le hf]; rfl
    · cases h
theorem mr_big : ∀ f, f < 102 → sm_fc f < 99 → ∀ i k, sm_mr0 f i (k + 100) = none := by
  have h : ∀ f, f < 102 → sm_fc f < 99 → f = 10 ∨ f = 11 ∨ f = 12 ∨ f = 13 ∨ f = 14 ∨ f = 20 ∨ f = 23 ∨ f = 24 ∨ f = 25 ∨ f = 26 ∨ f = 34 ∨ f = 36 ∨ f = 41 ∨ f = 42 := by decide
  intro f hf hc i k
  rcases h f hf hc with rfl | rfl | rfl | rfl | rfl | rfl | rfl | rfl | rfl | rfl | rfl | rfl | rfl | rfl <;> rfl
theorem mr_ok (nL : Nat) {f i k : Nat} (hf : 10 ≤ f) (hi : i < sm_cnt0 f) (hk : 99 < sm_fc f → k < sm_ln f) : sq_ok (sm_G0 nL) (sm_mr0 f i k) := by
  have h := sm_upto_ok ck_ok f (cnt_lt hi)
  rcases (Bool.or_eq_true _ _).mp h with h | h
  · have := Nat.le_of_ble_eq_true h; omega
  have h := sm_upto_ok h i hi
  have hok : sl_okb (sm_mr0 f i k) = true := by
    rcases Nat.lt_or_ge 99 (sm_fc f) with q | q
    · rw [Nat.ble_eq_true_of_le q] at h
      exact sm_upto_ok h k (hk q)
    · have e : Nat.ble 100 (sm_fc f) = false := Bool.eq_false_iff.mpr (fun w => by have := Nat.le_of_ble_eq_true w; omega)
      rw [e] at h
      rcases Nat.lt_or_ge k 100 with w | w
      · exact sm_upto_ok h k w
      · obtain ⟨g, rfl⟩ : ∃ g, k = g + 100 := ⟨k - 100, by omega⟩
        have := sm_fc_vals f
        have h99 : sm_fc f ≠ 99 := fun w => by have := sm_fc99 w; omega
        rw [mr_big f (cnt_lt hi) (by omega)]; rfl
  generalize sm_mr0 f i k = r at hok
  cases r with
  | none => trivial
  | some q =>
    obtain ⟨g, j⟩ := q
    have hok : (Nat.ble 10 g && Nat.blt j (sm_cnt0 g)) = true := hok
    rw [Bool.and_eq_true] at hok
    have h1 := Nat.le_of_ble_eq_true hok.1
    have h2 : j < sm_cnt0 g := Nat.blt_eq ▸ hok.2
    refine Or.inr ⟨h1, ?_⟩
    show j < cond (Nat.beq g 0) nL (sm_cnt0 g)
    have : Nat.beq g 0 = false := by rw [sl_beq]; exact decide_eq_false (by omega)
    rw [this]; exact h2
theorem sq_R.chg {H0 : Heap} {ad0 : Nat → Nat} {L0 : Nat} {xs : Nat → Int32} {adV : Nat → Nat} {D : va_G} {cA : Nat → ClassId} {ad : Nat → Nat → Nat} {G G' : sm_G} {M M' : sm_M} {U : State} {H : Heap} (hR : sq_R H0 ad0 L0 xs adV D cA ad G M U H) (hcnt : G'.2.2.1 = G.2.2.1)
    (hs : ∀ f i k, 10 ≤ f → i < G.2.2.1 f → k < sz_ f → sq_sl ad G M f i k = sq_sl ad G' M' f i k) (hok : ∀ f i k, 10 ≤ f → i < G.2.2.1 f → (99 < sm_fc f → k < sm_ln f) → sq_ok G' (G'.2.2.2 f i k)) (h0 : ∀ k, M' 0 0 k = M 0 0 k) (h1 : ∀ f k, 1 ≤ f → f ≤ 4 → M' f 0 k = M f 0 k) : sq_R H0 ad0 L0 xs adV D cA ad G' M' U H := by
  obtain ⟨a1, a2, a3, a4, a5, ⟨a6, a7, a8⟩, a9, a10⟩ := hR
  refine ⟨a1, fun f i hf hi => ?_, fun f i g j hf hi hg hj => ?_, fun f i k hf hi hk => ?_, a5, ⟨by rw [hcnt]; exact a6, fun k hk => by rw [h0]; exact a7 k hk, fun f k x y z => by rw [h1 f k x y]; exact a8 f k x y z⟩, sq_K_cnt hcnt a9, a10⟩
  · rw [hcnt] at hi
    obtain ⟨b1, b2, b3⟩ := a2 f i hf hi
    refine ⟨b1, fun hc => sq_t_OB_ext (b2 hc) rfl (fun k hk => hs f i k hf hi ?_), fun hc => ?_⟩
    · unfold sz_
      have e : Nat.ble 100 (sm_fc f) = false := Bool.eq_false_iff.mpr (fun w => by have := Nat.le_of_ble_eq_true w; omega)
      rw [e]; exact hk
    · rw [b3 hc]
      refine congrArg some (arrV_ext fun k hk => hs f i k hf hi ?_)
      unfold sz_
      rw [Nat.ble_eq_true_of_le hc]; exact hk
  · rw [hcnt] at hi hj
    exact a3 f i g j hf hi hg hj
  · rw [hcnt] at hi
    exact hok f i k hf hi hk
theorem cC_G0 (nL : Nat) : (sm_G0 nL).2.2.1 = (sl_g nL (443, 20415, cC, cR)).2.2.1 := by
  funext f
  show cond (Nat.beq f 0) nL (sm_cnt0 f) = cond (Nat.beq f 0) nL (sl_c cC f)
  rw [cC_cnt]
/-- what stands behind the constructors may be taken in closed form -/
theorem sq_ctor {Z : sq_Z} {ad : Nat → Nat → Nat} {nL : Nat} {M0 : sm_M} {U : State} {H : Heap} (hR : sq_RZ Z ad (sl_g nL (443, 20415, cC, cR)) (sl_m M0 cV) U H) (h0 : ∀ k, sl_m M0 cV 0 0 k = M0 0 0 k) (h1 : ∀ f k, 1 ≤ f → f ≤ 4 → sl_m M0 cV f 0 k = M0 f 0 k) : sq_RZ Z ad (sm_G0 nL) (mI M0) U H := by
  have hc : ∀ f i, 10 ≤ f → i < (sl_g nL (443, 20415, cC, cR)).2.2.1 f → i < sm_cnt0 f := fun f i hf hi => by
    rw [sl_c10 hf] at hi
    rw [← cC_cnt]; exact hi
  have hR : sq_R _ _ _ _ _ _ _ ad (sl_g nL (443, 20415, cC, cR)) (sl_m M0 cV) U H := hR
  refine sq_R.chg hR (cC_G0 nL) (fun f i k hf hi hk => ?_) (fun f i k hf hi hk => mr_ok nL hf (hc f i hf hi) hk) (fun k => ?_) (fun f k x y => ?_)
  · obtain ⟨h1, h2⟩ := cI_at M0 hf (hc f i hf hi) hk
    unfold sq_sl
    cases ht : sm_tr (sm_fc f) k with
    | true => exact congrArg (sq_rv ad) (h1 ht)
    | false => exact congrArg Value.int (h2 ht)
  · rw [h0]; rfl
  · rw [h1 f k x y]
    unfold mI
    have e : Nat.ble 10 f = false := Bool.eq_false_iff.mpr (fun w => by have := Nat.le_of_ble_eq_true w; omega)
    rw [e]; rfl
theorem sl_at_low {α : Type} (M : Nat → Nat → Nat → α) (z : α) (f i k : Nat) (hf : f < 10) : ∀ V : sl_X α, V.all (fun q => Nat.ble 10 q.1) = true → sl_at M z V f i k = M f i k
  | [], _ => rfl
  | (g, j, e) :: t, h => by
    rw [List.all_cons, Bool.and_eq_true] at h
    have hg := Nat.le_of_ble_eq_true h.1
    have hb : Nat.beq f g = false := by rw [sl_beq]; exact decide_eq_false (by show ¬ f = g; have : 10 ≤ g := hg; omega)
    have ih := sl_at_low M z f i k hf t h.2
    cases e with
    | none => unfold sl_at; rw [hb]; exact ih
    | some q => obtain ⟨q, x⟩ := q; unfold sl_at; rw [hb]; exact ih
theorem ck_low : cV.all (fun q => Nat.ble 10 q.1) = true := by decide +kernel
theorem cV_low (M0 : sm_M) {f : Nat} (hf : f < 10) (i k : Nat) : sl_m M0 cV f i k = M0 f i k := sl_at_low M0 0 f i k hf cV ck_low
