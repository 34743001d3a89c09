/-! behind the constructors the invariant holds, with no call made -/
theorem InvP_0 {M0 : sm_M} (h0 : ∀ f k, 1 ≤ f → f ≤ 4 → k < 7 → M0 f 0 k = sq_tb f k) : InvP 0 (mI M0) (mI M0) := by
  have z : ∀ {n : Nat} {p : Prop}, n < 0 → p := fun h => absurd h (Nat.not_lt_zero _)
  have le : ∀ n : Nat, 0 ≤ n := Nat.zero_le
  refine ⟨⟨rfl, 0, le _, rfl⟩, ⟨rfl, 0, le _, rfl, fun i hi => z hi⟩, ⟨⟨fun g hg => ⟨0, le _, rfl, fun i hi => z hi⟩, fun c hc => .inl rfl⟩, ⟨fun g _ => rfl, fun q _ => ⟨rfl, rfl, rfl⟩, fun c _ => ⟨rfl, rfl⟩⟩⟩,
    ⟨0, 0, le _, le _, rfl, rfl, rfl, fun i _ => rfl, fun i hi => z hi, fun i _ _ => ⟨rfl, rfl, rfl⟩⟩,
    ⟨0, 0, 0, fun _ => 0, le _, le _, le _, rfl, rfl, rfl, rfl, rfl, fun j hj => z hj, fun i j _ hj => z hj, fun i hi => z hi, fun i _ _ => ⟨rfl, rfl, rfl⟩⟩,
    ⟨0, le _, rfl, rfl, fun r hr => z hr, rfl, rfl, rfl, rfl, rfl, rfl, rfl⟩, ⟨0, le _, rfl, fun k hk => z hk⟩, ⟨0, le _, rfl, rfl, fun i hi => z hi⟩, fun k _ => rfl, ⟨0, le _, rfl, rfl, fun i hi => z hi⟩, ⟨rfl, .inl rfl⟩,
    fun t _ => ⟨rfl, rfl, .inl rfl, ⟨0, le _, rfl⟩, fun i _ => .inl ⟨rfl, rfl⟩⟩, fun t _ h => absurd (show (-1 : Int32) = 3 from h) (by decide), ⟨0, le _, rfl, rfl, fun k hk => z hk⟩,
    ⟨0, 0, 0, 0, le _, rfl, rfl, le _, rfl, rfl, le _, rfl, le _, rfl, fun e he => z he, fun e _ _ => rfl, fun k hk => z hk, fun k _ _ => rfl⟩, ⟨0, 0, le _, rfl, rfl, le _, rfl, fun c hc => z hc⟩,
    ⟨0, le _, rfl, rfl, fun c _ => rfl, fun c j _ hj => z hj⟩, ⟨0, le _, rfl, rfl, fun i hi => z hi⟩, fun f k a b c => ?_, ⟨rfl, rfl⟩⟩
  rw [← h0 f k a b c]
  unfold mI
  have e : Nat.ble 10 f = false := Bool.eq_false_iff.mpr (fun w => by have := Nat.le_of_ble_eq_true w; omega)
  rw [e]; rfl
