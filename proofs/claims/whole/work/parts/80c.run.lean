/-! the constructors' runs -/
def sl_rb : sm_R → sm_R → Bool
  | none, none => true
  | some (a, b), some (c, d) => Nat.beq a c && Nat.beq b d
  | _, _ => false
def sl_eb : Option (Nat × sm_R) → Option (Nat × sm_R) → Bool
  | none, none => true
  | some (a, b), some (c, d) => Nat.beq a c && sl_rb b d
  | _, _ => false
def sl_lb : sl_X sm_R → sl_X sm_R → Bool
  | [], [] => true
  | (a, b, e) :: t, (c, d, g) :: u => Nat.beq a c && Nat.beq b d && sl_eb e g && sl_lb t u
  | _, _ => false
theorem sl_rb_ok : ∀ {x y : sm_R}, sl_rb x y = true → x = y
  | none, none, _ => rfl
  | some (a, b), some (c, d), h => by
    have h : (Nat.beq a c && Nat.beq b d) = true := h
    rw [Bool.and_eq_true] at h
    rw [Nat.eq_of_beq_eq_true h.1, Nat.eq_of_beq_eq_true h.2]
  | none, some _, h => by cases h
  | some _, none, h => by cases h
theorem sl_eb_ok : ∀ {x y : Option (Nat × sm_R)}, sl_eb x y = true → x = y
  | none, none, _ => rfl
  | some (a, b), some (c, d), h => by
    have h : (Nat.beq a c && sl_rb b d) = true := h
    rw [Bool.and_eq_true] at h
    rw [Nat.eq_of_beq_eq_true h.1, sl_rb_ok h.2]
  | none, some _, h => by cases h
  | some _, none, h => by cases h
theorem sl_lb_ok : ∀ {x y : sl_X sm_R}, sl_lb x y = true → x = y
  | [], [], _ => rfl
  | (a, b, e) :: t, (c, d, g) :: u, h => by
    have h : (Nat.beq a c && Nat.beq b d && sl_eb e g && sl_lb t u) = true := h
    rw [Bool.and_eq_true, Bool.and_eq_true, Bool.and_eq_true] at h
    rw [Nat.eq_of_beq_eq_true h.1.1.1, Nat.eq_of_beq_eq_true h.1.1.2, sl_eb_ok h.1.2, sl_lb_ok h.2]
  | [], _ :: _, h => by cases h
  | _ :: _, [], h => by cases h
def sl_same (x : Option (sl_G × sl_X Int32)) (c s : Nat) (C : List (Nat × Nat)) (R : sl_X sm_R) (V : sl_X Int32) : Bool := match x with
  | some ((c', s', C', R'), V') => decide (c' = c) && decide (s' = s) && decide (C' = C) && sl_lb R' R && decide (V' = V)
  | none => false
theorem sl_same_ok {x : Option (sl_G × sl_X Int32)} {c s : Nat} {C : List (Nat × Nat)} {R : sl_X sm_R} {V : sl_X Int32} (h : sl_same x c s C R V = true) : x = some ((c, s, C, R), V) := by
  unfold sl_same at h
  split at h
  · simp only [Bool.and_eq_true, decide_eq_true_eq] at h
    obtain ⟨⟨⟨⟨rfl, rfl⟩, rfl⟩, hr⟩, rfl⟩ := h
    rw [sl_lb_ok hr]
  · cases h
theorem cr_a : sl_same (sl_run 3000 20 1 0 [some (.inr (.inr (some (10, 0)))), none] [] (1, 18, [(10, 1)], [(10, 0, none)]) [(10, 0, none)]) 390 16668 (cCa ++ [(10, 1)]) (cRa ++ [(10, 0, none)]) (cVa ++ [(10, 0, none)]) = true := by decide +kernel
theorem cr_b : sl_same (sl_run 3000 20 164 0 [some (.inr (.inr (some (11, 0)))), none] [] (391, 16741, (11, 1) :: (cCa ++ [(10, 1)]), (11, 0, none) :: (cRa ++ [(10, 0, none)])) ((11, 0, none) :: (cVa ++ [(10, 0, none)]))) 443 20415 (cCb ++ (11, 1) :: (cCa ++ [(10, 1)])) (cRb ++ (11, 0, none) :: (cRa ++ [(10, 0, none)])) (cVb ++ (11, 0, none) :: (cVa ++ [(10, 0, none)])) = true := by decide +kernel
