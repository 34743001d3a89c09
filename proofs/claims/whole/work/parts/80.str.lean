/-! texts and System.arraycopy: still open -/
section
variable {Z : sq_Z} {p : Program} {l : Launch} {e : Env} {R : Room} {s : State} {m : MethodId} {args : Array Value} {below : List Frame} {meth : Method} {c : Code} {k d : Nat} {ad : Nat → Nat → Nat} {G : sm_G} {M : sm_M} {H : Heap} {locs : List Loc} {cells slots : Nat} {ls : Array Slot} {pc : Nat} {L : sm_L} {S : sm_S}
theorem sx_strlen (hC : sq_C p R s m args meth c k d) (hX : sq_XZ Z ad G M s H k L S ls locs) (hk : k < 276) {a b : Nat} {z : Int32} {idx : Nat} (hi : idx < 2048) (hl : sm_ll (sm_oc k * 2048 + idx) ≠ 0) (hd : decode (sm_mb k) pc = .ok (.invokevirtual idx, 3)) : sq_N Z p l e R s m args below meth c k d ad G M H locs cells slots ls pc S (sm_t62 a b (pc + 3) z L S G M) := by
  sorry
theorem sx_charAt (hC : sq_C p R s m args meth c k d) (hX : sq_XZ Z ad G M s H k L S ls locs) (hk : k < 276) {a b : Nat} {z : Int32} {idx : Nat} (hi : idx < 2048) (hl : sm_al (sm_oc k * 2048 + idx) ≠ 0) (hd : decode (sm_mb k) pc = .ok (.invokevirtual idx, 3)) : sq_N Z p l e R s m args below meth c k d ad G M H locs cells slots ls pc S (sm_t63 a b (pc + 3) z L S G M) := by
  sorry
theorem sx_arraycopy (hC : sq_C p R s m args meth c k d) (hX : sq_XZ Z ad G M s H k L S ls locs) (hk : k < 276) {a b : Nat} {z : Int32} {idx : Nat} (hi : idx < 2048) (hl : sm_yl (sm_oc k * 2048 + idx) ≠ 0) (hd : decode (sm_mb k) pc = .ok (.invokestatic idx, 3)) : sq_N Z p l e R s m args below meth c k d ad G M H locs cells slots ls pc S (sm_t64 a b (pc + 3) z L S G M) := by
  sorry
end
