/-! what stands behind the constructors, in closed form -/
def cC : List (Nat × Nat) := cCb ++ (11, 1) :: (cCa ++ [(10, 1)])
def cR : sl_X sm_R := cRb ++ (11, 0, none) :: (cRa ++ [(10, 0, none)])
def cV : sl_X Int32 := cVb ++ (11, 0, none) :: (cVa ++ [(10, 0, none)])
def sl_fam {α : Type} (f : Nat) : sl_X α → List (Nat × Option (Nat × α))
  | [] => []
  | (g, j, e) :: t => cond (Nat.beq f g) ((j, e) :: sl_fam f t) (sl_fam f t)
def sl_sub {α : Type} (i : Nat) : List (Nat × Option (Nat × α)) → List (Option (Nat × α))
  | [] => []
  | (j, e) :: t => cond (Nat.beq i j) (e :: sl_sub i t) (sl_sub i t)
def sl_lk {α : Type} (z : α) : List (Option (Nat × α)) → Nat → Option α
  | [], _ => none
  | none :: _, _ => some z
  | some (q, v) :: t, k => cond (Nat.beq k q) (some v) (sl_lk z t k)
theorem sl_lk_ok {α : Type} (M : Nat → Nat → Nat → α) (z : α) (f i k : Nat) (v : α) : ∀ V : sl_X α, sl_lk z (sl_sub i (sl_fam f V)) k = some v → sl_at M z V f i k = v
  | [], h => by cases h
  | (g, j, e) :: t, h => by
    have ih := sl_lk_ok M z f i k v t
    unfold sl_fam at h
    cases hg : Nat.beq f g with
    | false =>
      rw [hg, cond_false] at h
      cases e with
      | none => unfold sl_at; rw [hg]; exact ih h
      | some q => obtain ⟨q, x⟩ := q; unfold sl_at; rw [hg]; exact ih h
    | true =>
      rw [hg, cond_true] at h
      unfold sl_sub at h
      cases hj : Nat.beq i j with
      | false =>
        rw [hj, cond_false] at h
        cases e with
        | none => unfold sl_at; rw [hg, hj]; exact ih h
        | some q => obtain ⟨q, x⟩ := q; unfold sl_at; rw [hg, hj]; exact ih h
      | true =>
        rw [hj, cond_true] at h
        cases e with
        | none => unfold sl_at; rw [hg, hj]; exact Option.some.inj h
        | some q =>
          obtain ⟨q, x⟩ := q
          unfold sl_lk at h
          unfold sl_at
          rw [hg, hj]
          cases hk : Nat.beq k q with
          | false => rw [hk, cond_false] at h; exact ih h
          | true => rw [hk, cond_true] at h; exact Option.some.inj h
def cI_w (k : Nat) : Int32 := ([121, 101, 97, 114, 110, 101, 97, 114, 115, 112, 97, 110, 108, 97, 116, 101, 114, 97, 110, 107, 116, 101, 108, 108] : List Int32).getD k 0
def cI_r (k : Nat) : Int32 := cond (Nat.beq k 0) (-1) (cond (Nat.beq k 2) 999 (cond (Nat.beq k 5) 999 (cond (Nat.beq k 6) 210 0)))
def cI (f i k : Nat) : Int32 := cond (Nat.beq f 42) (cond (Nat.beq k 0) (Int32.ofNat i) (cond (Nat.beq k 6 || Nat.beq k 8 || Nat.beq k 9 || Nat.beq k 10) (-1) 0))
  (cond (Nat.beq f 10 && Nat.beq k 14) (-1) (cond (Nat.beq f 11 && Nat.beq k 24) (-1) (cond (Nat.beq f 14 && (Nat.beq k 7 || Nat.beq k 8)) (-1) (cond (Nat.beq f 23 && Nat.beq k 4) (-1)
  (cond ((Nat.beq f 24 || Nat.beq f 25 || Nat.beq f 26) && Nat.beq k 0) (-1) (cond (Nat.beq f 27 || Nat.beq f 57 || Nat.beq f 96) (-1) (cond (Nat.beq f 34 || Nat.beq f 36) (cI_r k) (cond (Nat.beq f 74) (cI_w k) 0))))))))
def mI (M0 : sm_M) : sm_M := fun f i k => cond (Nat.ble 10 f) (cI f i k) (M0 f i k)
def sz_ (f : Nat) : Nat := cond (Nat.ble 100 (sm_fc f)) (sm_ln f) (sm_nf (sm_fc f))
def ck_1 (f i : Nat) (rs : List (Option (Nat × sm_R))) (vs : List (Option (Nat × Int32))) : Bool := sm_upto (sz_ f) (fun k => cond (sm_tr (sm_fc f) k) (match sl_lk none rs k with
    | some r => sl_rb r (sm_mr0 f i k)
    | none => false) (match sl_lk 0 vs k with
    | some v => decide (v = cI f i k)
    | none => false))
def ck_f (f : Nat) (Rf : List (Nat × Option (Nat × sm_R))) (Vf : List (Nat × Option (Nat × Int32))) : Bool := sm_upto (sm_cnt0 f) (fun i => ck_1 f i (sl_sub i Rf) (sl_sub i Vf))
theorem ck_all : sm_upto 102 (fun f => Nat.ble f 9 || ck_f f (sl_fam f cR) (sl_fam f cV)) = true := by decide +kernel
theorem ck_cnt : (cC.all (fun q => Nat.blt q.1 102) && sm_upto 102 (fun f => Nat.beq (sl_c cC f) (sm_cnt0 f))) = true := by decide +kernel
def sl_okb (r : sm_R) : Bool := match r with
  | none => true
  | some (f, i) => Nat.ble 10 f && Nat.blt i (sm_cnt0 f)
theorem ck_ok : sm_upto 102 (fun f => Nat.ble f 9 || sm_upto (sm_cnt0 f) (fun i => sm_upto (cond (Nat.ble 100 (sm_fc f)) (sm_ln f) 100) (fun k => sl_okb (sm_mr0 f i k)))) = true := by decide +kernel
