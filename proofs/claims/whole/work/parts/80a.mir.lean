/-! a mirror of the small machine for the constructors: memory as lists of what was written, newest first -/
abbrev sl_X (α : Type) : Type := List (Nat × Nat × Option (Nat × α))
abbrev sl_G : Type := Nat × Nat × List (Nat × Nat) × sl_X sm_R
def sl_c : List (Nat × Nat) → Nat → Nat
  | [], _ => 0
  | (g, v) :: t, f => cond (Nat.beq f g) v (sl_c t f)
def sl_at {α : Type} (M : Nat → Nat → Nat → α) (z : α) : sl_X α → Nat → Nat → Nat → α
  | [], f, i, k => M f i k
  | (g, j, none) :: t, f, i, k => cond (Nat.beq f g && Nat.beq i j) z (sl_at M z t f i k)
  | (g, j, some (q, v)) :: t, f, i, k => cond (Nat.beq f g && Nat.beq i j && Nat.beq k q) v (sl_at M z t f i k)
def sl_r (w : sl_X sm_R) : Nat → Nat → Nat → sm_R := sl_at (fun _ _ _ => none) none w
def sl_m (M : sm_M) (V : sl_X Int32) : sm_M := sl_at M 0 V
def sl_g (nL : Nat) (w : sl_G) : sm_G := (w.1, w.2.1, fun f => cond (Nat.beq f 0) nL (sl_c w.2.2.1 f), sl_r w.2.2.2)
theorem sl_beq {a b : Nat} : Nat.beq a b = decide (a = b) := by
  by_cases h : a = b
  · subst h; rw [Nat.beq_refl]; simp
  · have : Nat.beq a b = false := Bool.eq_false_iff.mpr (fun q => h (Nat.eq_of_beq_eq_true q))
    rw [this]; simp [h]
theorem sl_mu (M : sm_M) (V : sl_X Int32) (f i q : Nat) (v : Int32) : sl_m M ((f, i, some (q, v)) :: V) = sm_u (sl_m M V) f i q v := by
  funext f' i' k'
  simp only [sl_m, sl_at, sm_u, sl_beq]
  by_cases h : f' = f ∧ i' = i ∧ k' = q
  · obtain ⟨rfl, rfl, rfl⟩ := h; simp
  · rw [if_neg h]
    by_cases h1 : f' = f <;> by_cases h2 : i' = i <;> by_cases h3 : k' = q <;> simp [h1, h2, h3] <;> exact absurd ⟨h1, h2, h3⟩ h
theorem sl_mz (M : sm_M) (V : sl_X Int32) (f i : Nat) : sl_m M ((f, i, none) :: V) = sm_z (sl_m M V) f i := by
  funext f' i' k'
  simp only [sl_m, sl_at, sm_z, sl_beq]
  by_cases h1 : f' = f <;> by_cases h2 : i' = i <;> simp [h1, h2]
theorem sl_ru (V : sl_X sm_R) (f i q : Nat) (v : sm_R) : sl_r ((f, i, some (q, v)) :: V) = sm_ur (sl_r V) f i q v := by
  funext f' i' k'
  simp only [sl_r, sl_at, sm_ur, sl_beq]
  by_cases h : f' = f ∧ i' = i ∧ k' = q
  · obtain ⟨rfl, rfl, rfl⟩ := h; simp
  · rw [if_neg h]
    by_cases h1 : f' = f <;> by_cases h2 : i' = i <;> by_cases h3 : k' = q <;> simp [h1, h2, h3] <;> exact absurd ⟨h1, h2, h3⟩ h
theorem sl_rz (V : sl_X sm_R) (f i : Nat) : sl_r ((f, i, none) :: V) = sm_zr (sl_r V) f i := by
  funext f' i' k'
  simp only [sl_r, sl_at, sm_zr, sl_beq]
  by_cases h1 : f' = f <;> by_cases h2 : i' = i <;> simp [h1, h2]
theorem sl_cu {nL : Nat} {C : List (Nat × Nat)} {a v : Nat} (ha : 10 ≤ a) : (fun f => cond (Nat.beq f 0) nL (sl_c ((a, v) :: C) f)) = sm_cu (fun f => cond (Nat.beq f 0) nL (sl_c C f)) a v := by
  funext f
  simp only [sl_c, sm_cu, sl_beq]
  by_cases h : f = a
  · subst h
    have h0 : ¬ f = 0 := by omega
    simp [h0]
  · simp [h]
theorem sl_c10 {nL : Nat} {w : sl_G} {a : Nat} (ha : 10 ≤ a) : (sl_g nL w).2.2.1 a = sl_c w.2.2.1 a := by
  show cond (Nat.beq a 0) nL _ = _
  have h0 : ¬ a = 0 := by omega
  rw [sl_beq]; simp [h0]
abbrev sl_O : Type := Option (Nat × sm_L × sm_S × sl_G × sl_X Int32)
section
variable (a b nx : Nat) (z : Int32) (L : sm_L) (S : sm_S) (w : sl_G) (V : sl_X Int32)
def sl_t0 : sl_O := some (nx, L, .inl z :: S, w, V)
def sl_t1 : sl_O := match sm_at L a with
  | some (.inl x) => some (nx, L, .inl x :: S, w, V)
  | _ => none
def sl_t2 : sl_O := match sm_at L a with
  | some (.inr (.inr q)) => some (nx, L, .inr (.inr q) :: S, w, V)
  | _ => none
def sl_t3 : sl_O := match S with
  | .inl x :: r => some (nx, sm_pt L a (some (.inl x)), r, w, V)
  | _ => none
def sl_t5 : sl_O := match sm_at L a with
  | some (.inl x) => some (nx, sm_pt L a (some (.inl (x + z))), S, w, V)
  | _ => none
def sl_t29 : sl_O := match S with
  | .inl y :: .inl x :: r => some (cond (decide (x < y)) nx b, L, r, w, V)
  | _ => none
def sl_t32 : sl_O := some (b, L, S, w, V)
def sl_t39 : sl_O := match S with
  | .inr (.inr (some (f, i))) :: r => cond (Nat.beq (sm_fc f) a) (some (nx, L, .inr (.inr (sl_r w.2.2.2 f i b)) :: r, w, V)) none
  | _ => none
def sl_t40 : sl_O := match S with
  | .inl x :: .inr (.inr (some (f, i))) :: r => cond (Nat.beq (sm_fc f) a) (some (nx, L, r, w, (f, i, some (b, x)) :: V)) none
  | _ => none
def sl_t41 : sl_O := match S with
  | .inr (.inr q) :: .inr (.inr (some (f, i))) :: r => cond (Nat.beq (sm_fc f) a) (some (nx, L, r, (w.1, w.2.1, w.2.2.1, (f, i, some (b, q)) :: w.2.2.2), V)) none
  | _ => none
def sl_t45 : sl_O := match S with
  | .inl v :: .inl x :: .inr (.inr (some (f, i))) :: r => cond (Nat.beq (sm_fc f) 100 && Nat.ble 10 f && sm_in x (sm_ln f)) (some (nx, L, r, w, (f, i, some (x.toNatClampNeg, v)) :: V)) none
  | _ => none
def sl_t46 : sl_O := match S with
  | .inl v :: .inl x :: .inr (.inr (some (f, i))) :: r => cond ((Nat.beq (sm_fc f) 101 || Nat.beq (sm_fc f) 102) && Nat.ble 10 f && sm_in x (sm_ln f)) (some (nx, L, r, w, (f, i, some (x.toNatClampNeg, sm_nar (sm_fc f) v)) :: V)) none
  | _ => none
def sl_t47 : sl_O := match S with
  | .inr (.inr (some (g, j))) :: .inl x :: .inr (.inr (some (f, i))) :: r => cond (Nat.beq (sm_fc f) (110 + sm_fc g) && Nat.ble 10 f && Nat.ble 10 g && sm_in x (sm_ln f)) (some (nx, L, r, (w.1, w.2.1, w.2.2.1, (f, i, some (x.toNatClampNeg, some (g, j))) :: w.2.2.2), V)) none
  | _ => none
def sl_t49 : sl_O := cond (Nat.ble 10 a && Nat.ble (sm_fc a) 99) (some (nx, L, .inr (.inr (some (a, sl_c w.2.2.1 a))) :: S, (w.1 + 1, w.2.1 + sm_nf (sm_fc a), (a, sl_c w.2.2.1 a + 1) :: w.2.2.1, (a, sl_c w.2.2.1 a, none) :: w.2.2.2), (a, sl_c w.2.2.1 a, none) :: V)) none
def sl_t50 : sl_O := match S with
  | .inl x :: r => cond (Nat.ble 10 a && Nat.ble 100 (sm_fc a) && decide (x = Int32.ofNat (sm_ln a))) (some (nx, L, .inr (.inr (some (a, sl_c w.2.2.1 a))) :: r, (w.1 + 1, w.2.1 + sm_ln a, (a, sl_c w.2.2.1 a + 1) :: w.2.2.1, (a, sl_c w.2.2.1 a, none) :: w.2.2.2), (a, sl_c w.2.2.1 a, none) :: V)) none
  | _ => none
def sl_t51 : sl_O := match S with
  | v :: r => cond (sm_c1 v) (some (nx, L, v :: v :: r, w, V)) none
  | _ => none
def sl_t72 : sl_O := match S with
  | .inr (.inr (some (_, _))) :: r => cond (Nat.ble r.length 8 && sm_all1 r) (some (nx, L, r, w, V)) none
  | _ => none
def sl_st (tag : Nat) : sl_O :=
  cond (Nat.beq tag 2) (sl_t2 a nx L S w V) (cond (Nat.beq tag 0) (sl_t0 nx z L S w V) (cond (Nat.beq tag 1) (sl_t1 a nx L S w V) (cond (Nat.beq tag 3) (sl_t3 a nx L S w V) (cond (Nat.beq tag 5) (sl_t5 a nx z L S w V) (cond (Nat.beq tag 29) (sl_t29 b nx L S w V) (cond (Nat.beq tag 32) (sl_t32 b L S w V)
  (cond (Nat.beq tag 39) (sl_t39 a b nx L S w V) (cond (Nat.beq tag 40) (sl_t40 a b nx L S w V) (cond (Nat.beq tag 41) (sl_t41 a b nx L S w V) (cond (Nat.beq tag 45) (sl_t45 nx L S w V) (cond (Nat.beq tag 46) (sl_t46 nx L S w V) (cond (Nat.beq tag 47) (sl_t47 nx L S w V) (cond (Nat.beq tag 49) (sl_t49 a nx L S w V) (cond (Nat.beq tag 50) (sl_t50 a nx L S w V)
  (cond (Nat.beq tag 51) (sl_t51 nx L S w V) (cond (Nat.beq tag 72) (sl_t72 nx L S w V) none))))))))))))))))
end
/-- what a step of the mirror says of the small machine's -/
def sl_Ok (nL : Nat) (M0 : sm_M) (o : sl_O) (N : sm_N) (w : sl_G) (V : sl_X Int32) : Prop := ∀ pc1 L1 S1 w1 V1, o = some (pc1, L1, S1, w1, V1) → ∀ (rn : Nat → Nat → Nat → sm_L → sm_S → sm_G → sm_M → sm_A) (d k : Nat), sm_F rn d k N (sl_g nL w) (sl_m M0 V) = rn d k pc1 L1 S1 (sl_g nL w1) (sl_m M0 V1)
theorem sl_cond {α : Type} {c : Bool} {x y : α} (h : cond c (some x) none = some y) : c = true ∧ x = y := by
  cases c
  · cases h
  · exact ⟨rfl, Option.some.inj h⟩
section
variable (nL : Nat) (M0 : sm_M) (a b nx : Nat) (z : Int32) (L : sm_L) (S : sm_S) (w : sl_G) (V : sl_X Int32)
theorem sl_k0 : sl_Ok nL M0 (sl_t0 nx z L S w V) (sm_t0 a b nx z L S (sl_g nL w) (sl_m M0 V)) w V := by
  intro pc1 L1 S1 w1 V1 h rn d k
  cases h
  rfl
theorem sl_k1 : sl_Ok nL M0 (sl_t1 a nx L S w V) (sm_t1 a b nx z L S (sl_g nL w) (sl_m M0 V)) w V := by
  intro pc1 L1 S1 w1 V1 h rn d k
  unfold sl_t1 at h
  unfold sm_t1
  split at h
  · cases h
    rename_i e; rw [e]; rfl
  · cases h
theorem sl_k2 : sl_Ok nL M0 (sl_t2 a nx L S w V) (sm_t2 a b nx z L S (sl_g nL w) (sl_m M0 V)) w V := by
  intro pc1 L1 S1 w1 V1 h rn d k
  unfold sl_t2 at h
  unfold sm_t2
  split at h
  · cases h
    rename_i e; rw [e]; rfl
  · cases h
theorem sl_k3 : sl_Ok nL M0 (sl_t3 a nx L S w V) (sm_t3 a b nx z L S (sl_g nL w) (sl_m M0 V)) w V := by
  intro pc1 L1 S1 w1 V1 h rn d k
  unfold sl_t3 at h
  split at h
  · cases h
    rfl
  · cases h
theorem sl_k5 : sl_Ok nL M0 (sl_t5 a nx z L S w V) (sm_t5 a b nx z L S (sl_g nL w) (sl_m M0 V)) w V := by
  intro pc1 L1 S1 w1 V1 h rn d k
  unfold sl_t5 at h
  unfold sm_t5
  split at h
  · cases h
    rename_i e; rw [e]; rfl
  · cases h
theorem sl_k29 : sl_Ok nL M0 (sl_t29 b nx L S w V) (sm_t26 29 a b nx z L S (sl_g nL w) (sl_m M0 V)) w V := by
  intro pc1 L1 S1 w1 V1 h rn d k
  unfold sl_t29 at h
  split at h
  · rename_i y x r
    cases h
    show (if decide (x < y) = true then rn d k nx _ _ _ _ else rn d k b _ _ _ _) = _
    cases decide (x < y) <;> rfl
  · cases h
theorem sl_k32 : sl_Ok nL M0 (sl_t32 b L S w V) (sm_t32 a b nx z L S (sl_g nL w) (sl_m M0 V)) w V := by
  intro pc1 L1 S1 w1 V1 h rn d k
  cases h
  rfl
theorem sl_k39 : sl_Ok nL M0 (sl_t39 a b nx L S w V) (sm_t39 a b nx z L S (sl_g nL w) (sl_m M0 V)) w V := by
  intro pc1 L1 S1 w1 V1 h rn d k
  unfold sl_t39 at h
  split at h
  · rename_i f i r
    obtain ⟨hc, h⟩ := sl_cond h
    cases h
    show (if Nat.beq (sm_fc f) a = true then _ else _) = _
    rw [if_pos hc]
    rfl
  · cases h
theorem sl_k40 : sl_Ok nL M0 (sl_t40 a b nx L S w V) (sm_t40 a b nx z L S (sl_g nL w) (sl_m M0 V)) w V := by
  intro pc1 L1 S1 w1 V1 h rn d k
  unfold sl_t40 at h
  split at h
  · rename_i x f i r
    obtain ⟨hc, h⟩ := sl_cond h
    cases h
    show (if Nat.beq (sm_fc f) a = true then _ else _) = _
    rw [if_pos hc, sl_mu]
  · cases h
theorem sl_k41 : sl_Ok nL M0 (sl_t41 a b nx L S w V) (sm_t41 a b nx z L S (sl_g nL w) (sl_m M0 V)) w V := by
  intro pc1 L1 S1 w1 V1 h rn d k
  unfold sl_t41 at h
  split at h
  · rename_i q f i r
    obtain ⟨hc, h⟩ := sl_cond h
    cases h
    show (if Nat.beq (sm_fc f) a = true then _ else _) = _
    rw [if_pos hc]
    show rn d k nx _ _ (_, _, _, sm_ur (sl_r w.2.2.2) f i b q) _ = rn d k nx _ _ (_, _, _, sl_r ((f, i, some (b, q)) :: w.2.2.2)) _
    rw [sl_ru]
    rfl
  · cases h
theorem sl_len {f : Nat} (h : Nat.ble 10 f = true) (G : sm_G) : sm_len G f = sm_ln f := sm_len_ne (by have := Nat.le_of_ble_eq_true h; omega)
theorem sl_k45 : sl_Ok nL M0 (sl_t45 nx L S w V) (sm_t45 a b nx z L S (sl_g nL w) (sl_m M0 V)) w V := by
  intro pc1 L1 S1 w1 V1 h rn d k
  unfold sl_t45 at h
  split at h
  · rename_i v x f i r
    obtain ⟨hc, h⟩ := sl_cond h
    cases h
    have h10 : Nat.ble 10 f = true := by simp only [Bool.and_eq_true] at hc; exact hc.1.2
    show (if (Nat.beq (sm_fc f) 100 && Nat.ble 10 f && sm_in x (sm_len (sl_g nL w) f)) = true then _ else _) = _
    rw [sl_len h10, if_pos hc, sl_mu]
  · cases h
theorem sl_k46 : sl_Ok nL M0 (sl_t46 nx L S w V) (sm_t46 a b nx z L S (sl_g nL w) (sl_m M0 V)) w V := by
  intro pc1 L1 S1 w1 V1 h rn d k
  unfold sl_t46 at h
  split at h
  · rename_i v x f i r
    obtain ⟨hc, h⟩ := sl_cond h
    cases h
    have h10 : Nat.ble 10 f = true := by simp only [Bool.and_eq_true] at hc; exact hc.1.2
    show (if ((Nat.beq (sm_fc f) 101 || Nat.beq (sm_fc f) 102) && Nat.ble 10 f && sm_in x (sm_len (sl_g nL w) f)) = true then _ else _) = _
    rw [sl_len h10, if_pos hc, sl_mu]
  · cases h
theorem sl_k47 : sl_Ok nL M0 (sl_t47 nx L S w V) (sm_t47 a b nx z L S (sl_g nL w) (sl_m M0 V)) w V := by
  intro pc1 L1 S1 w1 V1 h rn d k
  unfold sl_t47 at h
  split at h
  · rename_i g j x f i r
    obtain ⟨hc, h⟩ := sl_cond h
    cases h
    have h10 : Nat.ble 10 f = true := by simp only [Bool.and_eq_true] at hc; exact hc.1.1.2
    show (if (Nat.beq (sm_fc f) (110 + sm_fc g) && Nat.ble 10 f && Nat.ble 10 g && sm_in x (sm_len (sl_g nL w) f)) = true then _ else _) = _
    rw [sl_len h10, if_pos hc]
    show rn d k nx _ _ (_, _, _, sm_ur (sl_r w.2.2.2) f i x.toNatClampNeg (some (g, j))) _ = rn d k nx _ _ (_, _, _, sl_r ((f, i, some (x.toNatClampNeg, some (g, j))) :: w.2.2.2)) _
    rw [sl_ru]
    rfl
  · cases h
theorem sl_make {a n : Nat} (h10 : Nat.ble 10 a = true) : ((sl_g nL w).1 + 1, (sl_g nL w).2.1 + n, sm_cu (sl_g nL w).2.2.1 a ((sl_g nL w).2.2.1 a + 1), sm_zr (sl_g nL w).2.2.2 a ((sl_g nL w).2.2.1 a)) = sl_g nL (w.1 + 1, w.2.1 + n, (a, sl_c w.2.2.1 a + 1) :: w.2.2.1, (a, sl_c w.2.2.1 a, none) :: w.2.2.2) := by
  have h := Nat.le_of_ble_eq_true h10
  rw [sl_c10 h]
  show (_, _, sm_cu (fun f => cond (Nat.beq f 0) nL (sl_c w.2.2.1 f)) a _, sm_zr (sl_r w.2.2.2) a _) = (_, _, (fun f => cond (Nat.beq f 0) nL (sl_c ((a, sl_c w.2.2.1 a + 1) :: w.2.2.1) f)), sl_r ((a, sl_c w.2.2.1 a, none) :: w.2.2.2))
  rw [sl_cu h, sl_rz]
  rfl
theorem sl_k49 : sl_Ok nL M0 (sl_t49 a nx L S w V) (sm_t49 a b nx z L S (sl_g nL w) (sl_m M0 V)) w V := by
  intro pc1 L1 S1 w1 V1 h rn d k
  unfold sl_t49 at h
  obtain ⟨hc, h⟩ := sl_cond h
  cases h
  have h10 : Nat.ble 10 a = true := by simp only [Bool.and_eq_true] at hc; exact hc.1
  show (if (Nat.ble 10 a && Nat.ble (sm_fc a) 99) = true then rn d k nx _ (.inr (.inr (some (a, (sl_g nL w).2.2.1 a))) :: _) _ _ else _) = _
  rw [if_pos hc, sl_make nL w h10, sl_c10 (Nat.le_of_ble_eq_true h10), sl_mz]
theorem sl_k50 : sl_Ok nL M0 (sl_t50 a nx L S w V) (sm_t50 a b nx z L S (sl_g nL w) (sl_m M0 V)) w V := by
  intro pc1 L1 S1 w1 V1 h rn d k
  unfold sl_t50 at h
  split at h
  · rename_i x r
    obtain ⟨hc, h⟩ := sl_cond h
    cases h
    have h10 : Nat.ble 10 a = true := by simp only [Bool.and_eq_true] at hc; exact hc.1.1
    show (if (Nat.ble 10 a && Nat.ble 100 (sm_fc a) && decide (x = Int32.ofNat (sm_ln a))) = true then rn d k nx _ (.inr (.inr (some (a, (sl_g nL w).2.2.1 a))) :: _) _ _ else _) = _
    rw [if_pos hc, sl_make nL w h10, sl_c10 (Nat.le_of_ble_eq_true h10), sl_mz]
  · cases h
theorem sl_k51 : sl_Ok nL M0 (sl_t51 nx L S w V) (sm_t51 a b nx z L S (sl_g nL w) (sl_m M0 V)) w V := by
  intro pc1 L1 S1 w1 V1 h rn d k
  unfold sl_t51 at h
  split at h
  · rename_i v r
    obtain ⟨hc, h⟩ := sl_cond h
    cases h
    show (if sm_c1 v = true then _ else _) = _
    rw [if_pos hc]
  · cases h
theorem sl_k72 : sl_Ok nL M0 (sl_t72 nx L S w V) (sm_t72 a b nx z L S (sl_g nL w) (sl_m M0 V)) w V := by
  intro pc1 L1 S1 w1 V1 h rn d k
  unfold sl_t72 at h
  split at h
  · rename_i f i r
    obtain ⟨hc, h⟩ := sl_cond h
    cases h
    show (if (Nat.ble S1.length 8 && sm_all1 S1) = true then _ else _) = _
    rw [if_pos hc]
  · cases h
theorem sl_kk (tag : Nat) : sl_Ok nL M0 (sl_st a b nx z L S w V tag) (sm_dis tag a b nx z L S (sl_g nL w) (sl_m M0 V)) w V := by
  by_cases e2 : tag = 2
  · subst e2; exact sl_k2 nL M0 a b nx z L S w V
  by_cases e0 : tag = 0
  · subst e0; exact sl_k0 nL M0 a b nx z L S w V
  by_cases e1 : tag = 1
  · subst e1; exact sl_k1 nL M0 a b nx z L S w V
  by_cases e3 : tag = 3
  · subst e3; exact sl_k3 nL M0 a b nx z L S w V
  by_cases e5 : tag = 5
  · subst e5; exact sl_k5 nL M0 a b nx z L S w V
  by_cases e29 : tag = 29
  · subst e29; exact sl_k29 nL M0 a b nx z L S w V
  by_cases e32 : tag = 32
  · subst e32; exact sl_k32 nL M0 a b nx z L S w V
  by_cases e39 : tag = 39
  · subst e39; exact sl_k39 nL M0 a b nx z L S w V
  by_cases e40 : tag = 40
  · subst e40; exact sl_k40 nL M0 a b nx z L S w V
  by_cases e41 : tag = 41
  · subst e41; exact sl_k41 nL M0 a b nx z L S w V
  by_cases e45 : tag = 45
  · subst e45; exact sl_k45 nL M0 a b nx z L S w V
  by_cases e46 : tag = 46
  · subst e46; exact sl_k46 nL M0 a b nx z L S w V
  by_cases e47 : tag = 47
  · subst e47; exact sl_k47 nL M0 a b nx z L S w V
  by_cases e49 : tag = 49
  · subst e49; exact sl_k49 nL M0 a b nx z L S w V
  by_cases e50 : tag = 50
  · subst e50; exact sl_k50 nL M0 a b nx z L S w V
  by_cases e51 : tag = 51
  · subst e51; exact sl_k51 nL M0 a b nx z L S w V
  by_cases e72 : tag = 72
  · subst e72; exact sl_k72 nL M0 a b nx z L S w V
  intro pc1 L1 S1 w1 V1 h
  have f : ∀ n, ¬ tag = n → Nat.beq tag n = false := fun n hn => by rw [sl_beq]; exact decide_eq_false hn
  unfold sl_st at h
  rw [f 2 e2, f 0 e0, f 1 e1, f 3 e3, f 5 e5, f 29 e29, f 32 e32, f 39 e39, f 40 e40, f 41 e41, f 45 e45, f 46 e46, f 47 e47, f 49 e49, f 50 e50, f 51 e51, f 72 e72] at h
  cases h
end
/-- the mirror's step, calls and ends with it -/
def sl_F (rn : Nat → Nat → Nat → sm_L → sm_S → sl_G → sl_X Int32 → Option (sl_G × sl_X Int32)) (d k tag a b nx : Nat) (z : Int32) (L : sm_L) (S : sm_S) (w : sl_G) (V : sl_X Int32) : Option (sl_G × sl_X Int32) :=
  cond (Nat.beq tag 56) (match S with
    | [] => some (w, V)
    | _ :: _ => none)
  (cond (Nat.beq tag 53) (match d with
    | 0 => none
    | d' + 1 => cond (Nat.ble b S.length && Nat.ble (sm_dr b S).length 8 && sm_all1 S && sm_rcv (sm_rk a) (sm_tk b S [])) (match rn d' a 0 (sm_pad (sm_ml a) (sm_tk b S [])) [] w V with
      | none => none
      | some (w', V') => rn (d' + 1) k nx L (sm_dr b S) w' V') none)
  (match sl_st a b nx z L S w V tag with
    | none => none
    | some (pc', L', S', w', V') => rn d k pc' L' S' w' V'))
/-- the mirror's run of a method that answers nothing -/
def sl_run : Nat → Nat → Nat → Nat → sm_L → sm_S → sl_G → sl_X Int32 → Option (sl_G × sl_X Int32)
  | 0, _, _, _, _, _, _, _ => none
  | n + 1, d, k, pc, L, S, w, V => match sm_ins k pc with
    | (tag, a, b, nx, z) => sl_F (sl_run n) d k tag a b nx z L S w V
theorem sl_run_s (n d k pc : Nat) (L : sm_L) (S : sm_S) (w : sl_G) (V : sl_X Int32) : sl_run (n + 1) d k pc L S w V = sl_F (sl_run n) d k (sm_ins k pc).1 (sm_ins k pc).2.1 (sm_ins k pc).2.2.1 (sm_ins k pc).2.2.2.1 (sm_ins k pc).2.2.2.2 L S w V := rfl
theorem sl_run_ok (nL : Nat) (M0 : sm_M) (n : Nat) : ∀ (d k pc : Nat) (L : sm_L) (S : sm_S) (w : sl_G) (V : sl_X Int32) (w1 : sl_G) (V1 : sl_X Int32), sl_run n d k pc L S w V = some (w1, V1) → sm_run n d k pc L S (sl_g nL w) (sl_m M0 V) = some (none, sl_g nL w1, sl_m M0 V1) := by
  induction n with
  | zero => intro d k pc L S w V w1 V1 h; cases h
  | succ n ih =>
    intro d k pc L S w V w1 V1 h
    rw [sl_run_s] at h
    show sm_F (sm_run n) d k (sm_dis (sm_ins k pc).1 (sm_ins k pc).2.1 (sm_ins k pc).2.2.1 (sm_ins k pc).2.2.2.1 (sm_ins k pc).2.2.2.2 L S (sl_g nL w) (sl_m M0 V)) (sl_g nL w) (sl_m M0 V) = _
    generalize (sm_ins k pc).1 = tag at h ⊢
    generalize (sm_ins k pc).2.1 = a at h ⊢
    generalize (sm_ins k pc).2.2.1 = b at h ⊢
    generalize (sm_ins k pc).2.2.2.1 = nx at h ⊢
    generalize (sm_ins k pc).2.2.2.2 = z at h ⊢
    unfold sl_F at h
    by_cases e56 : tag = 56
    · subst e56
      cases S with
      | nil =>
        have h : some (w, V) = some (w1, V1) := h
        cases h
        rfl
      | cons v S =>
        have h : (none : Option (sl_G × sl_X Int32)) = some (w1, V1) := h
        cases h
    · rw [show Nat.beq tag 56 = false by rw [sl_beq]; exact decide_eq_false e56] at h
      by_cases e53 : tag = 53
      · subst e53
        cases d with
        | zero =>
          have h : (none : Option (sl_G × sl_X Int32)) = some (w1, V1) := h
          cases h
        | succ d' =>
          have h : cond (Nat.ble b S.length && Nat.ble (sm_dr b S).length 8 && sm_all1 S && sm_rcv (sm_rk a) (sm_tk b S [])) (match sl_run n d' a 0 (sm_pad (sm_ml a) (sm_tk b S [])) [] w V with
            | none => none
            | some (w', V') => sl_run n (d' + 1) k nx L (sm_dr b S) w' V') none = some (w1, V1) := h
          show (if (Nat.ble b S.length && Nat.ble (sm_dr b S).length 8 && sm_all1 S && sm_rcv (sm_rk a) (sm_tk b S [])) = true then (match sm_run n d' a 0 (sm_pad (sm_ml a) (sm_tk b S [])) [] (sl_g nL w) (sl_m M0 V) with
            | none => none
            | some (r, G', M') => sm_run n (d' + 1) k nx L (sm_push r (sm_dr b S)) G' M') else none) = _
          cases hc : (Nat.ble b S.length && Nat.ble (sm_dr b S).length 8 && sm_all1 S && sm_rcv (sm_rk a) (sm_tk b S [])) with
          | false => rw [hc] at h; cases h
          | true =>
            rw [hc] at h
            rw [if_pos rfl]
            rw [cond_true] at h
            cases hr : sl_run n d' a 0 (sm_pad (sm_ml a) (sm_tk b S [])) [] w V with
            | none => rw [hr] at h; cases h
            | some q =>
              obtain ⟨w2, V2⟩ := q
              rw [hr] at h
              rw [ih _ _ _ _ _ _ _ _ _ hr]
              exact ih _ _ _ _ _ _ _ _ _ h
      · rw [show Nat.beq tag 53 = false by rw [sl_beq]; exact decide_eq_false e53] at h
        rw [cond_false, cond_false] at h
        cases hs : sl_st a b nx z L S w V tag with
        | none => rw [hs] at h; cases h
        | some q =>
          obtain ⟨pc', L', S', w', V'⟩ := q
          rw [hs] at h
          rw [sl_kk nL M0 a b nx z L S w V tag pc' L' S' w' V' hs (sm_run n) d k]
          exact ih _ _ _ _ _ _ _ _ _ h
