/-! groups that change along with counts -/
def pin (X : Nat → Nat → Bool) (B B' : sm_M) : sm_M := fun f i k => cond (X f k) (B f i k) (B' f i k)
theorem cut_pin {P D X : Nat → Nat → Bool} {B B' : sm_M} (h : Fr P B B') (hd : ∀ f k, D f k = true → P f k = true → X f k = true) : cut D (pin X B B') = cut D B := by
  funext f i k
  unfold cut pin
  cases e : D f k
  · rfl
  · cases eP : P f k
    · show cond (X f k) (B f i k) (B' f i k) = B f i k
      rw [h f i k eP]; cases X f k <;> rfl
    · rw [hd f k e eP]; rfl
def X2 (f k : Nat) : Bool := Nat.beq f 11 && Nat.beq k 2
theorem J_edi_C {n : Nat} {A B A' B' : sm_M} (hA : cut DA_edi A' = cut DA_edi A) (hB : cut DB_edi (pin X2 B B') = cut DB_edi B) (e2 : B' 11 0 2 = B 11 0 2 + 1) (h : J_edi n A B) : J_edi (n + 1) A' B' := by
  have h1 := J_edi_ct hA hB h
  obtain ⟨S, E, q, C, a1, a2, a3, a4, a5, a6, a7, a8, a9, a10, hK, z1, z2, z3⟩ := h1
  have a10' : B 11 0 2 = nI C := a10
  have ew : ∀ k m, wle (pin X2 B B') k m = wle B' k m := fun k m => wle_c (fun _ _ => rfl)
  refine ⟨S, E, q, C + 1, a1, a2, a3, a4, a5, a6, a7, a8, by omega, by rw [e2, a10', nI_1], fun e he => ?_, z1, fun k hk => ?_, z3⟩
  · obtain ⟨b1, b2, b3, b4, u, c, c1, c2, c3, c4, c5⟩ := hK e he
    exact ⟨b1, b2, b3, b4, u, c, c1, c2, c3, by omega, c5⟩
  · have := z2 k hk
    rw [ew] at this; exact this
theorem J_tel_C {n : Nat} {A B A' B' : sm_M} (hA : cut DA_tel A' = cut DA_tel A) (hB : cut DB_tel (pin X2 B B') = cut DB_tel B) (e2 : B' 11 0 2 = B 11 0 2 + 1) (h : J_tel 0 n A B) : J_tel 0 (n + 1) A' B' := by
  have h1 := J_tel_w (J_tel_inc (J_tel_ct hA hB h))
  have e : (pin X2 B B') 11 0 2 + 1 = B' 11 0 2 := e2.symm
  rw [e] at h1
  exact h1
def X44 (f k : Nat) : Bool := Nat.beq f 11 && Nat.beq k 44
theorem J_cop_E {A B A' B' : sm_M} (hA : cut DA_cop A' = cut DA_cop A) (hB : cut DB_cop (pin X44 B B') = cut DB_cop B) {E : Nat} (hE : E < 60) (e1 : B 11 0 44 = nI E) (e2 : B' 11 0 44 = nI (E + 1)) (h : J_cop A B) : J_cop A' B' := by
  have h1 := J_cop_ct hA hB h
  obtain ⟨P, E0, a1, a2, a3, a4, a5, hK⟩ := h1
  have a5' : B 11 0 44 = nI E0 := a5
  have ee : E0 = E := (nI_eq (by omega) (by omega)).mp (a5'.symm.trans e1)
  subst ee
  refine ⟨P, E0 + 1, a1, a2, a3, by omega, e2, fun c hc => ?_⟩
  obtain ⟨b1, b2, ⟨e, he, b3⟩, b4⟩ := hK c hc
  exact ⟨b1, b2, ⟨e, by omega, b3⟩, b4⟩
def Xn (f k : Nat) : Bool := (Nat.beq f 11 && (Nat.beq k 2 || Nat.beq k 49)) || Nat.beq f 85
theorem J_edi_q {n : Nat} {A B A' B' : sm_M} (hA : cut DA_edi A' = cut DA_edi A) (hB : cut DB_edi (pin Xn B B') = cut DB_edi B) {q C : Nat} (hq : q < 60) (hC : C ≤ n) (hn : n < 2 ^ 30) (q1 : B 11 0 49 = nI q) (c1 : B 11 0 2 = nI C) (q2 : B' 11 0 49 = nI (q + 1)) (c2 : B' 11 0 2 = nI (C + 1)) (m1 : B' 85 0 q = nI (C + 1)) (m2 : ∀ j, j ≠ q → B' 85 0 j = B 85 0 j) (h : J_edi n A B) : J_edi (n + 1) A' B' := by
  have h1 := J_edi_ct hA hB h
  obtain ⟨S, E, q', C', a1, a2, a3, a4, a5, a6, a7, a8, a9, a10, hK, z1, z2, z3⟩ := h1
  have a10' : B 11 0 2 = nI C' := a10
  have a8' : B 11 0 49 = nI q' := a8
  have eC : C' = C := (nI_eq (by omega) (by omega)).mp (a10'.symm.trans c1)
  have eq : q' = q := (nI_eq (by omega) (by omega)).mp (a8'.symm.trans q1)
  subst eC; subst eq
  have ew : ∀ k m, wle (pin Xn B B') k m = wle B' k m := fun k m => wle_c (fun _ _ => rfl)
  refine ⟨S, E, q' + 1, C' + 1, a1, a2, a3, a4, a5, a6, by omega, q2, by omega, c2, fun e he => ?_, z1, fun k hk => ?_, z3⟩
  · obtain ⟨b1, b2, b3, b4, u, c, d1, d2, d3, d4, d5⟩ := hK e he
    have d2' : B' 82 0 e = nI c := d2
    refine ⟨b1, b2, b3, b4, u, c, d1, d2, by omega, by omega, fun j hj => ?_⟩
    by_cases hjq : j = q'
    · subst hjq
      rw [m1, d2']
      have l : nI c < nI (C' + 1) := nI_lt (by omega) (by omega)
      exact ⟨fun h => by omega, fun h => absurd l h⟩
    · have := d5 j (by omega)
      rw [m2 j hjq]; exact this
  · have := z2 k hk
    rw [ew] at this; exact this
def X38 (f k : Nat) : Bool := Nat.beq f 11 && Nat.beq k 38
def X105 (f k : Nat) : Bool := Nat.beq f 10 && Nat.beq k 5
theorem wle_no {B : sm_M} {S : Nat} (hS : S < 2 ^ 30) : ∀ E, (∀ e, e < E → ∃ k, k < S ∧ B 81 0 e = nI k) → wle B S E = none
  | 0, _ => rfl
  | E + 1, h => by
    obtain ⟨k, hk, e⟩ := h E (by omega)
    show (if B 81 0 E = nI S then some E else wle B S E) = none
    rw [if_neg (fun hh => by
      have := (nI_eq (by omega) (by omega)).mp (e.symm.trans hh); omega)]
    exact wle_no hS E (fun e he => h e (by omega))
theorem J_edi_S {n : Nat} {A B A' B' : sm_M} (hA : cut DA_edi (pin X105 A A') = cut DA_edi A) (hB : cut DB_edi (pin X38 B B') = cut DB_edi B) {S : Nat} (hS : S < 16) (s1 : B 11 0 38 = nI S) (s2 : B' 11 0 38 = nI (S + 1)) (s3 : A' 10 0 5 = B' 11 0 38) (h : J_edi n A B) : J_edi n A' B' := by
  have h1 := J_edi_ct hA hB h
  obtain ⟨S0, E, q, C, a1, a2, a3, a4, a5, a6, a7, a8, a9, a10, hK, z1, z2, z3⟩ := h1
  have a3' : B 11 0 38 = nI S0 := a3
  have eS : S0 = S := (nI_eq (by omega) (by omega)).mp (a3'.symm.trans s1)
  subst eS
  have ew : ∀ k m, wle (pin X38 B B') k m = wle B' k m := fun k m => wle_c (fun _ _ => rfl)
  refine ⟨S0 + 1, E, q, C, by omega, s3.trans s2, s2, a4, a5, a6, a7, a8, a9, a10, fun e he => ?_, z1, fun k hk => ?_, fun k hk1 hk2 => z3 k (by omega) hk2⟩
  · obtain ⟨b1, ⟨k, hk, b2⟩, r⟩ := hK e he
    exact ⟨b1, ⟨k, by omega, b2⟩, r⟩
  · by_cases hk0 : k = S0
    · subst hk0
      have hno : wle B' k E = none := wle_no (by omega) E (fun e he => (hK e he).2.1)
      rw [hno]; exact z3 k (Nat.le_refl _) (by omega)
    · have := z2 k (by omega)
      rw [ew] at this; exact this
