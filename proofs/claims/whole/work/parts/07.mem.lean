/-! what a store and a making do to the relation -/
section
variable {H0 : Heap} {ad0 : Nat → Nat} {L0 : Nat} {xs : Nat → Int32} {adV : Nat → Nat} {D : va_G} {cA : Nat → ClassId}
theorem sq_ok_cnt {G G' : sm_G} (h : G'.2.2.1 = G.2.2.1) {r : sm_R} : sq_ok G' r ↔ sq_ok G r := by
  cases r with
  | none => exact Iff.rfl
  | some q => obtain ⟨f, i⟩ := q; simp only [sq_ok, h]
theorem sq_okv_cnt {G G' : sm_G} (h : G'.2.2.1 = G.2.2.1) {v : sm_V} (hv : sq_okv G v) : sq_okv G' v := by
  rcases v with x | y | r
  · trivial
  · trivial
  · exact (sq_ok_cnt h).mpr hv
theorem sq_K_cnt {G G' : sm_G} (h : G'.2.2.1 = G.2.2.1) {U : State} (hK : sq_K D cA G U) : sq_K D cA G' U := ⟨hK.1, hK.2.1, fun f a b c => hK.2.2 f a b (by rw [← h]; exact c)⟩
theorem sq_R.upd {ad : Nat → Nat → Nat} {G G' : sm_G} {M M' : sm_M} {U : State} {H H' : Heap} (hR : sq_R H0 ad0 L0 xs adV D cA ad G M U H) {f i : Nat} (hf : 10 ≤ f) (hi : i < G.2.2.1 f) (hcnt : G'.2.2.1 = G.2.2.1) (hz : H'.size = H.size) (ho : ∀ q, q ≠ ad f i → H'[q]? = H[q]?)
    (hM : ∀ g j k, ¬ (g = f ∧ j = i) → M' g j k = M g j k) (hG : ∀ g j k, ¬ (g = f ∧ j = i) → G'.2.2.2 g j k = G.2.2.2 g j k) (hnew : sq_cell D cA ad G' M' f i H') (href : ∀ k, (99 < sm_fc f → k < sm_ln f) → sq_ok G (G'.2.2.2 f i k)) : sq_R H0 ad0 L0 xs adV D cA ad G' M' U H' := by
  obtain ⟨⟨h1, h2⟩, h3, h4, h5, h6, ⟨h7, h8, h9⟩, h10, h11⟩ := hR
  refine ⟨⟨by omega, fun q hq => ?_⟩, fun g j hg hj => ?_, ?_, fun g j k hg hj hkk => ?_, h6, ⟨by rw [hcnt]; exact h7, fun k hk => ?_, fun g k a b c => ?_⟩, sq_K_cnt hcnt h10, h11⟩
  · rw [ho q (by have := (h3 f i hf hi).1; omega)]; exact h2 q hq
  · rw [hcnt] at hj
    by_cases e : g = f ∧ j = i
    · obtain ⟨rfl, rfl⟩ := e
      exact ⟨(h3 g j hg hj).1, hnew⟩
    · have ha : ad g j ≠ ad f i := fun q => e (h4 g j f i hg hj hf hi q)
      obtain ⟨a1, a2, a3⟩ := h3 g j hg hj
      have hs : ∀ k, sq_sl ad G M g j k = sq_sl ad G' M' g j k := fun k => by unfold sq_sl; rw [hM g j k e, hG g j k e]
      refine ⟨a1, fun hc => sq_t_OB_ext (a2 hc) (ho _ ha) (fun k _ => hs k), fun hc => ?_⟩
      rw [ho _ ha, a3 hc]
      congr 1
      exact congrArg _ (funext hs)
  · intro g j g2 j2 a b c d
    rw [hcnt] at b d
    exact h4 g j g2 j2 a b c d
  · rw [hcnt] at hj
    rw [sq_ok_cnt hcnt]
    by_cases e : g = f ∧ j = i
    · obtain ⟨rfl, rfl⟩ := e
      exact href k hkk
    · rw [hG g j k e]; exact h5 g j k hg hj hkk
  · rw [hM 0 0 k (fun q => by omega)]; exact h8 k hk
  · rw [hM g 0 k (fun q => by omega)]; exact h9 g k a b c
/-- a new object or row at the heap's end -/
theorem sq_R.new {ad : Nat → Nat → Nat} {G : sm_G} {M : sm_M} {U : State} {H H' : Heap} (hR : sq_R H0 ad0 L0 xs adV D cA ad G M U H) {a nc ns : Nat} (ha : 10 ≤ a) (hz : H'.size = H.size + 1) (ho : ∀ q, q < H.size → H'[q]? = H[q]?)
    (hin : ∀ f i, 10 ≤ f → i < G.2.2.1 f → ad f i < H.size)
    (hK : 99 < sm_fc a → ArrOfT U (cA (sm_fc a)) (sq_ft (sm_fc a)) ∧ va_RA U (cA (sm_fc a)) (sq_ft (sm_fc a)))
    (hnew : ∀ ad' : Nat → Nat → Nat, ad' a (G.2.2.1 a) = H.size → sq_cell D cA ad' (nc, ns, sm_cu G.2.2.1 a (G.2.2.1 a + 1), sm_zr G.2.2.2 a (G.2.2.1 a)) (sm_z M a (G.2.2.1 a)) a (G.2.2.1 a) H') :
    ∃ ad' : Nat → Nat → Nat, ad' a (G.2.2.1 a) = H.size ∧ sq_ag G ad ad' ∧ (∀ f, f < 10 → ad' f 0 = ad f 0) ∧ sq_R H0 ad0 L0 xs adV D cA ad' (nc, ns, sm_cu G.2.2.1 a (G.2.2.1 a + 1), sm_zr G.2.2.2 a (G.2.2.1 a)) (sm_z M a (G.2.2.1 a)) U H' := by
  obtain ⟨⟨h1, h2⟩, h3, h4, h5, h6, ⟨h7, h8, h9⟩, h10, h11⟩ := hR
  refine ⟨fun f i => if f = a ∧ i = G.2.2.1 a then H.size else ad f i, by simp, ?_, ?_, ?_⟩
  · intro f i hf hi
    exact if_neg (fun q => by obtain ⟨rfl, rfl⟩ := q; omega)
  · intro f hf
    exact if_neg (fun q => by omega)
  generalize hn : G.2.2.1 a = n at *
  generalize had : (fun f i => if f = a ∧ i = n then H.size else ad f i : Nat → Nat → Nat) = ad'
  have e1 : ad' a n = H.size := by rw [← had]; simp
  have e2 : ∀ f i, ¬ (f = a ∧ i = n) → ad' f i = ad f i := fun f i h => by rw [← had]; exact if_neg h
  have c1 : ∀ f, f ≠ a → sm_cu G.2.2.1 a (n + 1) f = G.2.2.1 f := fun f h => by simp [sm_cu, h]
  have c2 : sm_cu G.2.2.1 a (n + 1) a = n + 1 := by simp [sm_cu]
  have old : ∀ f i, i < sm_cu G.2.2.1 a (n + 1) f → ¬ (f = a ∧ i = n) → i < G.2.2.1 f := fun f i hi hne => by
    by_cases e : f = a
    · subst e
      rw [c2] at hi
      rw [hn]
      by_cases e' : i = n
      · exact absurd ⟨rfl, e'⟩ hne
      · omega
    · rwa [c1 f e] at hi
  have okm : ∀ r, sq_ok G r → sq_ok (nc, ns, sm_cu G.2.2.1 a (n + 1), sm_zr G.2.2.2 a n) r := fun r h => by
    cases r with
    | none => trivial
    | some q =>
      obtain ⟨f, i⟩ := q
      rcases h with h | h
      · exact Or.inl h
      · refine Or.inr ⟨h.1, ?_⟩
        show i < sm_cu G.2.2.1 a (n + 1) f
        by_cases e : f = a
        · subst e; rw [c2]; have := h.2; omega
        · rw [c1 f e]; exact h.2
  have rvm : ∀ r, sq_ok G r → sq_rv ad' r = sq_rv ad r := fun r h => by
    cases r with
    | none => rfl
    | some q =>
      obtain ⟨f, i⟩ := q
      have : ¬ (f = a ∧ i = n) := fun q => by
        rcases h with h | h
        · omega
        · obtain ⟨rfl, rfl⟩ := q; have := h.2; omega
      simp only [sq_rv, e2 f i this]
  refine ⟨⟨by omega, fun q hq => ?_⟩, fun g j hg hj => ?_, ?_, fun g j k hg hj hkk => ?_, fun f hf => ?_, ⟨?_, fun k hk => ?_, fun g k x y z => ?_⟩, ⟨h10.1, h10.2.1, fun f x y z => ?_⟩, h11⟩
  · rw [ho q (by omega)]; exact h2 q hq
  · by_cases e : g = a ∧ j = n
    · obtain ⟨rfl, rfl⟩ := e
      exact ⟨by rw [e1]; exact h1, hnew ad' e1⟩
    · have hj' := old g j hj e
      obtain ⟨a1, a2, a3⟩ := h3 g j hg hj'
      have hq := hin g j hg hj'
      rw [e2 g j e]
      have hs : ∀ k, (99 < sm_fc g → k < sm_ln g) → sq_sl ad G M g j k = sq_sl ad' (nc, ns, sm_cu G.2.2.1 a (n + 1), sm_zr G.2.2.2 a n) (sm_z M a n) g j k := fun k hkk => by
        have m1 : sm_z M a n g j k = M g j k := if_neg e
        have m2 : sm_zr G.2.2.2 a n g j k = G.2.2.2 g j k := if_neg e
        show sq_sl ad G M g j k = cond (sm_tr (sm_fc g) k) (sq_rv ad' (sm_zr G.2.2.2 a n g j k)) (.int (sm_z M a n g j k))
        rw [m1, m2, rvm _ (h5 g j k hg hj' hkk)]
        rfl
      refine ⟨a1, fun hc => ?_, fun hc => ?_⟩
      · rw [e2 g j e]
        exact sq_t_OB_ext (a2 hc) (ho _ hq) (fun k _ => hs k (fun h => by omega))
      · rw [e2 g j e, ho _ hq, a3 hc]
        exact congrArg some (arrV_ext fun k hk => hs k (fun _ => hk))
  · intro g j g2 j2 x y z w q
    by_cases e : g = a ∧ j = n
    · by_cases e' : g2 = a ∧ j2 = n
      · omega
      · obtain ⟨rfl, rfl⟩ := e
        rw [e1, e2 g2 j2 e'] at q
        have := hin g2 j2 z (old g2 j2 w e')
        omega
    · by_cases e' : g2 = a ∧ j2 = n
      · obtain ⟨rfl, rfl⟩ := e'
        rw [e1, e2 g j e] at q
        have := hin g j x (old g j y e)
        omega
      · rw [e2 g j e, e2 g2 j2 e'] at q
        exact h4 g j g2 j2 x (old g j y e) z (old g2 j2 w e') q
  · by_cases e : g = a ∧ j = n
    · have m2 : sm_zr G.2.2.2 a n g j k = none := if_pos e
      show sq_ok _ (sm_zr G.2.2.2 a n g j k)
      rw [m2]; trivial
    · have m2 : sm_zr G.2.2.2 a n g j k = G.2.2.2 g j k := if_neg e
      show sq_ok _ (sm_zr G.2.2.2 a n g j k)
      rw [m2]
      exact okm _ (h5 g j k hg (old g j hj e) hkk)
  · rw [e2 f 0 (fun q => by omega)]; exact h6 f hf
  · show sm_cu G.2.2.1 a (n + 1) 0 = L0
    rw [c1 0 (by omega)]; exact h7
  · have m1 : sm_z M a n 0 0 k = M 0 0 k := if_neg (fun q => by omega)
    rw [m1]; exact h8 k hk
  · have m1 : sm_z M a n g 0 k = M g 0 k := if_neg (fun q => by omega)
    rw [m1]; exact h9 g k x y z
  · by_cases e : f = a
    · subst e; exact hK y
    · refine h10.2.2 f x y ?_
      have : 0 < sm_cu G.2.2.1 a (n + 1) f := z
      rwa [c1 f e] at this
theorem sq_R.lt {ad : Nat → Nat → Nat} {G : sm_G} {M : sm_M} {U : State} {H : Heap} (hR : sq_R H0 ad0 L0 xs adV D cA ad G M U H) (hfc : ∀ f, 10 ≤ f → 0 < G.2.2.1 f → sm_fc f ≠ 99) : ∀ f i, 10 ≤ f → i < G.2.2.1 f → ad f i < H.size := by
  intro f i hf hi
  obtain ⟨a1, a2, a3⟩ := hR.2.1 f i hf hi
  rcases Nat.lt_or_ge (sm_fc f) 99 with h | h
  · obtain ⟨cell, q, -⟩ := a2 h
    exact (Array.getElem?_eq_some_iff.mp q).1
  · have h9 := hfc f hf (by omega)
    exact (Array.getElem?_eq_some_iff.mp (a3 (by omega))).1
end
