/-! rule: reading the text -/
def Fi (P : Nat → Nat → Nat → Bool) (A A' : sm_M) : Prop := ∀ f i k, P f i k = false → A' f i k = A f i k
theorem Fi_r (P : Nat → Nat → Nat → Bool) (A : sm_M) : Fi P A A := fun _ _ _ _ => rfl
theorem Fi_t {P : Nat → Nat → Nat → Bool} {A B C : sm_M} (h : Fi P A B) (g : Fi P B C) : Fi P A C := fun f i k hp => (g f i k hp).trans (h f i k hp)
theorem Fi_u {P : Nat → Nat → Nat → Bool} {A A' : sm_M} {f i k : Nat} {v : Int32} (h : Fi P A A') (hp : P f i k = true) : Fi P A (sm_u A' f i k v) := by
  intro f' i' k' hk
  refine Eq.trans (if_neg (fun hh => ?_)) (h f' i' k' hk)
  rw [hh.1, hh.2.1, hh.2.2, hp] at hk; exact absurd hk (by decide)
/-- what the reading of rule r may change -/
def PA_r (r f i k : Nat) : Bool := (Nat.beq f 13 && Nat.beq k 5) || (Nat.beq f 36 && decide (i = r))
def PB_r (r f _i k : Nat) : Bool := (Nat.beq f 11 && Nat.beq k 32) || (Nat.beq f 71 && (decide (k = 4 * r) || decide (k = 4 * r + 1) || decide (k = 4 * r + 2) || decide (k = 4 * r + 3))) || (Nat.beq f 72 && decide (k = r)) || (Nat.beq f 73 && decide (k = r))
def wltr (k : Nat) : Int32 := ([121, 101, 97, 114, 110, 101, 97, 114, 115, 112, 97, 110, 108, 97, 116, 101, 114, 97, 110, 107, 116, 101, 108, 108] : List Int32).getD k 0
def J_wrd (B : sm_M) : Prop := ∀ k, k < 24 → B 74 0 k = wltr k
def TX (n : Nat) (A B : sm_M) : Prop := n ≤ 120 ∧ A 13 0 4 = nI n ∧ B 11 0 26 = nI n ∧ (∀ i, i < n → B 69 0 i = (A 35 0 i).toInt8.toInt32 ∧ ∃ v, v < 256 ∧ A 35 0 i = nI v) ∧ J_wrd B
def PS (n : Nat) (A B : sm_M) (p : Nat) : Prop := A 13 0 5 = nI p ∧ B 11 0 32 = nI p ∧ p ≤ n
theorem TX_fr {n r : Nat} {A B A' B' : sm_M} (h : TX n A B) (hA : Fi (PA_r r) A A') (hB : Fi (PB_r r) B B') : TX n A' B' := by
  obtain ⟨h1, h2, h3, h4, h5⟩ := h
  refine ⟨h1, (hA 13 0 4 rfl).trans h2, (hB 11 0 26 rfl).trans h3, fun i hi => ?_, fun k hk => (hB 74 0 k rfl).trans (h5 k hk)⟩
  rw [hA 35 0 i rfl, hB 69 0 i rfl]; exact h4 i hi
theorem wby8 : ∀ v, v < 256 → (v < 128 ∧ (nI v).toInt8.toInt32 = nI v) ∨ (128 ≤ v ∧ (nI v).toInt8.toInt32 < 0) := by decide +kernel
/-- what stands at the place: a letter below 128 for both, or no letter for both -/
def LKe (p n : Nat) (a b : Int32) : Prop := (∃ v, v < 128 ∧ a = nI v ∧ b = nI v ∧ p < n) ∨ ((∀ x, x < 128 → ¬ a = nI x ∧ ¬ b = nI x) ∧ (a < 48 ∨ 57 < a) ∧ (b < 48 ∨ 57 < b))
theorem p65 {n p : Nat} {A B : sm_M} (hT : TX n A B) (hP : PS n A B p) (nL : Nat) : ∃ a b, (∀ d Q, sm_W d 65 0 [vo 13] [] (sm_G0 nL) A Q = Q (vi a) (sm_G0 nL) A) ∧ (∀ d Q, sm_W d 202 0 [vo 11] [] (sm_G0 nL) B Q = Q (vi b) (sm_G0 nL) B) ∧ LKe p n a b := by
  obtain ⟨hn, ea, eb, hv, -⟩ := hT
  obtain ⟨pa, pb, hp⟩ := hP
  have p0 : ¬ nI p < 0 := nI_pos (by omega)
  by_cases h : p < n
  · have h1 : nI p < nI n := nI_lt h (by omega)
    have h2 : nI p < (120 : Int32) := nI_lt (show p < 120 by omega) (by decide)
    have pin : sm_in (nI p) 120 = true := mm_in (by omega) (by decide)
    have pc : (nI p).toNatClampNeg = p := nI_clamp (by omega)
    refine ⟨A 35 0 p, B 69 0 p, fun d Q => by rw [T65, pa, ea, mm_bf p0, mm_bt h1, mm_bt h2, mm_ck pin, pc], fun d Q => by rw [T202, pb, eb, mm_bt h1, mm_ck pin, pc], ?_⟩
    obtain ⟨e1, v, hv2, e2⟩ := hv p h
    rcases wby8 v hv2 with ⟨l, e⟩ | ⟨l, e⟩
    · exact .inl ⟨v, l, e2, by rw [e1, e2, e], h⟩
    · have eb' : B 69 0 p < 0 := by rw [e1, e2]; exact e
      refine .inr ⟨fun x hx => ⟨fun hh => ?_, fun hh => ?_⟩, .inr ?_, .inl ?_⟩
      · rw [e2] at hh; have := (nI_eq (by omega) (by omega)).mp hh; omega
      · rw [hh] at eb'; exact nI_pos (show x < 2 ^ 31 by omega) eb'
      · rw [e2]; exact nI_lt (show 57 < v by omega) (by omega)
      · exact Int32.lt_trans eb' (by decide)
  · have h1 : ¬ nI p < nI n := nI_nlt (by omega) (by omega)
    refine ⟨-1, -1, fun d Q => by rw [T65, pa, ea, mm_bf p0, mm_bf h1], fun d Q => by rw [T202, pb, eb, mm_bf h1], .inr ⟨fun x hx => ⟨fun hh => ?_, fun hh => ?_⟩, .inl (by decide), .inl (by decide)⟩⟩
    · exact nI_pos (show x < 2 ^ 31 by omega) (by rw [← hh]; decide)
    · exact nI_pos (show x < 2 ^ 31 by omega) (by rw [← hh]; decide)
theorem LK_x {p n : Nat} {a b : Int32} (h : LKe p n a b) {x : Nat} (hx : x < 128) : (a = nI x ∧ b = nI x ∧ p < n) ∨ (¬ a = nI x ∧ ¬ b = nI x) := by
  rcases h with ⟨v, hv, rfl, rfl, hp⟩ | ⟨h, -⟩
  · by_cases e : nI v = nI x
    · exact .inl ⟨e, e, hp⟩
    · exact .inr ⟨e, e⟩
  · exact .inr (h x hx)
theorem PS_s {n p r : Nat} {A B : sm_M} (hP : PS n A B p) (h : p < n) : PS n (sm_u A 13 0 5 (nI (p + 1))) (sm_u B 11 0 32 (nI (p + 1))) (p + 1) ∧ Fi (PA_r r) A (sm_u A 13 0 5 (nI (p + 1))) ∧ Fi (PB_r r) B (sm_u B 11 0 32 (nI (p + 1))) :=
  ⟨⟨rfl, rfl, h⟩, Fi_u (Fi_r _ _) rfl, Fi_u (Fi_r _ _) rfl⟩
/-- take one letter, or not -/
theorem p67 {n p : Nat} {A B : sm_M} (hT : TX n A B) (hP : PS n A B p) (nL : Nat) {x : Nat} (hx : x < 128) : ∃ b, (∀ d Q, sm_W d 202 0 [vo 11] [] (sm_G0 nL) B Q = Q (vi b) (sm_G0 nL) B) ∧ ((p < n ∧ b = nI x ∧ ∀ d Q, sm_W (d + 1) 67 0 [vo 13, vi (nI x)] [] (sm_G0 nL) A Q = Q (vi 1) (sm_G0 nL) (sm_u A 13 0 5 (nI (p + 1)))) ∨ (¬ b = nI x ∧ ∀ d Q, sm_W (d + 1) 67 0 [vo 13, vi (nI x)] [] (sm_G0 nL) A Q = Q (vi 0) (sm_G0 nL) A)) := by
  obtain ⟨a, b, ga, gb, hL⟩ := p65 hT hP nL
  refine ⟨b, gb, ?_⟩
  rcases LK_x hL hx with ⟨e1, e2, e3⟩ | ⟨e1, e2⟩
  · exact .inl ⟨e3, e2, fun d Q => by rw [T67, ga, sm_push_s, T67_4, mm_bt e1, hP.1, nI_1]⟩
  · exact .inr ⟨e2, fun d Q => by rw [T67, ga, sm_push_s, T67_4, mm_bf e1]⟩
/-- which word begins with c -/
def wfirst (T : Nat → Int32) (c : Int32) : Nat → Nat → Option Nat
  | 0, _ => none
  | j + 1, i => if c = T (4 * i) then some i else wfirst T c j (i + 1)
theorem m64 {A : sm_M} (nL : Nat) (a : Int32) (ga : ∀ d Q, sm_W d 65 0 [vo 13] [] (sm_G0 nL) A Q = Q (vi a) (sm_G0 nL) A) (d : Nat) (Q : sm_Q) : ∀ j i, i + j = 6 → sm_W (d + 1) 64 2 [vo 13, vi (nI i)] [] (sm_G0 nL) A Q = Q (vi (match wfirst (sm_sc 5) a j i with | none => -1 | some w => nI w)) (sm_G0 nL) A := by
  intro j
  induction j with
  | zero =>
    intro i hi
    have hi' : i = 6 := by omega
    subst hi'
    rw [T64_2, mm_bf (by decide)]; rfl
  | succ j ih =>
    intro i hi
    have h3 := ih (i + 1) (by omega)
    have i6 : nI i < (6 : Int32) := nI_lt (show i < 6 by omega) (by decide)
    have e4 : 4 * nI i = nI (4 * i) := by show nI 4 * nI i = _; rw [pk_mul]
    have i4 : sm_in (nI (4 * i)) 24 = true := mm_in (by omega) (by decide)
    have c4 : (nI (4 * i)).toNatClampNeg = 4 * i := nI_clamp (by omega)
    have hw : wfirst (sm_sc 5) a (j + 1) i = if a = sm_sc 5 (4 * i) then some i else wfirst (sm_sc 5) a j (i + 1) := rfl
    rw [T64_2, mm_bt i6, ga, sm_push_s, T64_12, e4, mm_ck i4, c4, hw]
    by_cases h : a = sm_sc 5 (4 * i)
    · rw [mm_bt h, if_pos h]
    · rw [mm_bf h, if_neg h, nI_1]; exact h3
theorem r201a {B : sm_M} (hB : J_wrd B) (nL : Nat) (b : Int32) (gb : ∀ d Q, sm_W d 202 0 [vo 11] [] (sm_G0 nL) B Q = Q (vi b) (sm_G0 nL) B) (d : Nat) (Q : sm_Q) (o1 : Option sm_V) : ∀ j i, i + j = 6 → sm_W (d + 1) 201 2 [vo 11, vi (nI i), o1] [] (sm_G0 nL) B Q = match wfirst wltr b j i with | none => Q (vi (-1)) (sm_G0 nL) B | some w => sm_W (d + 1) 201 39 [vo 11, vi (nI w), vi 0] [] (sm_G0 nL) B Q := by
  intro j
  induction j with
  | zero =>
    intro i hi
    have hi' : i = 6 := by omega
    subst hi'
    rw [T201_2, mm_bf (by decide), mm_bt (by decide)]; rfl
  | succ j ih =>
    intro i hi
    have h3 := ih (i + 1) (by omega)
    have i6 : nI i < (6 : Int32) := nI_lt (show i < 6 by omega) (by decide)
    have n6 : ¬ nI i = (6 : Int32) := fun h => by
      have := (nI_eq (by omega) (by decide)).mp (h.trans (show (6 : Int32) = nI 6 from rfl)); omega
    have e4 : 4 * nI i = nI (4 * i) := by show nI 4 * nI i = _; rw [pk_mul]
    have i4 : sm_in (nI (4 * i)) 24 = true := mm_in (by omega) (by decide)
    have c4 : (nI (4 * i)).toNatClampNeg = 4 * i := nI_clamp (by omega)
    have hw : wfirst wltr b (j + 1) i = if b = wltr (4 * i) then some i else wfirst wltr b j (i + 1) := rfl
    rw [T201_2, mm_bt i6, gb, sm_push_s, T201_12, e4, mm_ck i4, c4, hB (4 * i) (by omega), hw]
    by_cases h : b = wltr (4 * i)
    · rw [mm_bt h, if_pos h, mm_bf n6]
    · rw [mm_bf h, if_neg h, nI_1]; exact h3
/-- the class's number of a word, from the reference's -/
def wmp (w : Nat) : Nat := if w = 5 then 5 else if w = 4 then 0 else w + 1
theorem wfirst_v : ∀ v, v < 128 → (wfirst (sm_sc 5) (nI v) 6 0 = none ∧ wfirst wltr (nI v) 6 0 = none) ∨ (∃ w, w < 6 ∧ wfirst (sm_sc 5) (nI v) 6 0 = some (wmp w) ∧ wfirst wltr (nI v) 6 0 = some w) := by decide +kernel
theorem wfirst_l : ∀ w, w < 6 → ∀ k, k < 4 → ∃ x, x < 128 ∧ sm_sc 5 (4 * wmp w + k) = nI x ∧ wltr (4 * w + k) = nI x := by decide +kernel
theorem wfirst_n (T : Nat → Int32) (c : Int32) : ∀ j i, (∀ k, i ≤ k → k < i + j → ¬ c = T (4 * k)) → wfirst T c j i = none := by
  intro j
  induction j with
  | zero => intro i _; rfl
  | succ j ih =>
    intro i h
    show (if c = T (4 * i) then some i else wfirst T c j (i + 1)) = none
    rw [if_neg (h i (Nat.le_refl _) (by omega))]
    exact ih (i + 1) (fun k h1 h2 => h k (by omega) (by omega))
theorem LK_w {p n : Nat} {a b : Int32} (h : LKe p n a b) : (wfirst (sm_sc 5) a 6 0 = none ∧ wfirst wltr b 6 0 = none) ∨ (∃ w, w < 6 ∧ wfirst (sm_sc 5) a 6 0 = some (wmp w) ∧ wfirst wltr b 6 0 = some w) := by
  rcases h with ⟨v, hv, rfl, rfl, hp⟩ | ⟨h, -⟩
  · exact wfirst_v v hv
  · refine .inl ⟨wfirst_n _ _ 6 0 (fun k _ hk hh => ?_), wfirst_n _ _ 6 0 (fun k _ hk hh => ?_)⟩
    · obtain ⟨x, hx, e⟩ := (by decide +kernel : ∀ k, k < 6 → ∃ x, x < 128 ∧ sm_sc 5 (4 * k) = nI x) k (by omega)
      exact (h x hx).1 (hh.trans e)
    · obtain ⟨x, hx, e⟩ := (by decide +kernel : ∀ k, k < 6 → ∃ x, x < 128 ∧ wltr (4 * k) = nI x) k (by omega)
      exact (h x hx).2 (hh.trans e)
