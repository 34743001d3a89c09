/-! wider scratch; what pure readings hang on -/
def sA2 (f k : Nat) : Bool := scA f k || Nat.beq f 44 || Nat.beq f 45 || (Nat.beq f 23 && Nat.beq k 7)
def sB2 (f k : Nat) : Bool := scB f k || Nat.beq f 80 || Nat.beq f 93 || Nat.beq f 94 || (Nat.beq f 11 && (Nat.beq k 61 || Nat.beq k 62))
theorem sA2_w {A A1 : sm_M} (h : Fr scA A A1) : Fr sA2 A A1 := Fr_w h (fun f k hk => by unfold sA2 at hk; simp only [Bool.or_eq_false_iff] at hk; exact hk.1.1.1)
theorem sB2_w {B B1 : sm_M} (h : Fr scB B B1) : Fr sB2 B B1 := Fr_w h (fun f k hk => by unfold sB2 at hk; simp only [Bool.or_eq_false_iff] at hk; exact hk.1.1.1.1)
def RB (B : sm_M) : sm_M := fun f i k => if 50 ≤ f ∧ f ≤ 73 then B f i k else 0
theorem sB2_0 : ∀ f, f < 74 → 50 ≤ f → (Nat.beq f 75 = false ∧ Nat.beq f 11 = false ∧ Nat.beq f 80 = false ∧ Nat.beq f 93 = false ∧ Nat.beq f 94 = false) := by decide
theorem RB_s2 {B B1 : sm_M} (h : Fr sB2 B B1) : RB B1 = RB B := by
  funext f i k
  unfold RB
  by_cases hf : 50 ≤ f ∧ f ≤ 73
  · rw [if_pos hf, if_pos hf]
    obtain ⟨h1, h2, h3, h4, h5⟩ := sB2_0 f (by omega) hf.1
    exact h f i k (by unfold sB2 scB; rw [h1, h2, h3, h4, h5]; rfl)
  · rw [if_neg hf, if_neg hf]
theorem wrule_RB (B : sm_M) (y : Int32) : ∀ n, wrule (RB B) y n = wrule B y n
  | 0 => rfl
  | n + 1 => by
    have ih := wrule_RB B y n
    unfold wrule
    rw [ih]
    cases wrule B y n <;> rfl
theorem wlat_RB (B : sm_M) (c y : Int32) (s : Nat) : ∀ i, wlat (RB B) c y s i = wlat B c y s i
  | 0 => rfl
  | i + 1 => by
    have ih := wlat_RB B c y s i
    unfold wlat
    rw [ih]; rfl
theorem wab_RB (B : sm_M) (o : Option Nat) (p q : Nat) : wab (RB B) o p q = wab B o p q := by cases o <;> rfl
theorem wcnt_RB (B : sm_M) (o : Option Nat) (L : Nat → Option Nat) (p : Nat) : ∀ q, wcnt (RB B) o L p q = wcnt B o L p q
  | 0 => rfl
  | q + 1 => by
    have ih := wcnt_RB B o L p q
    unfold wcnt
    rw [ih, wab_RB]
theorem wbs_RB (B : sm_M) (o : Option Nat) (L : Nat → Option Nat) (s : Nat) : ∀ p, wbs (RB B) o L s p = wbs B o L s p
  | 0 => rfl
  | p + 1 => by
    have ih := wbs_RB B o L s p
    unfold wbs
    rw [ih, wcnt_RB]
theorem wqs_RB (B : sm_M) (L : Nat → Option Nat) (bt b : Nat) : ∀ s, wqs (RB B) L bt b s = wqs B L bt b s
  | 0 => rfl
  | s + 1 => by
    have ih := wqs_RB B L bt b s
    unfold wqs
    rw [ih]
    cases L s <;> rfl
theorem wlh_RB (B : sm_M) (c y z : Int32) : ∀ i, wlh (RB B) c y z i = wlh B c y z i
  | 0 => rfl
  | i + 1 => by
    have ih := wlh_RB B c y z i
    unfold wlh
    rw [ih]; rfl
theorem WW_RB (B : sm_M) (o : Option Nat) (c y : Int32) (t s : Nat) : WW (RB B) o c y t s = WW B o c y t s := by
  have h : WL (RB B) c y t = WL B c y t := by funext k; exact wlat_RB B c y k t
  unfold WW
  rw [h, wbs_RB]
  simp only [wqs_RB]
theorem LW_RB (B : sm_M) (o : Option Nat) (c y : Int32) (t s : Nat) : LW (RB B) o c y t s = LW B o c y t s := by
  unfold LW WT
  rw [WW_RB, wlh_RB]; rfl
theorem LW_s2 {B B1 : sm_M} (h : Fr sB2 B B1) (o : Option Nat) (c y : Int32) (t s : Nat) : LW B1 o c y t s = LW B o c y t s := by rw [← LW_RB, RB_s2 h, LW_RB]
theorem wrule_s2 {B B1 : sm_M} (h : Fr sB2 B B1) (y : Int32) (n : Nat) : wrule B1 y n = wrule B y n := by rw [← wrule_RB, RB_s2 h, wrule_RB]
theorem VW_s2 {A B A1 B1 : sm_M} {t s : Nat} (h : VW A B t s) (hA : Fr sA2 A A1) (hB : Fr sB2 B B1) : VW A1 B1 t s := by
  obtain ⟨h1, h2, h3, h4, h5, h6, h7, h8⟩ := h
  refine ⟨h1, h2, (hA 14 0 3 rfl).trans h3, (hA 14 0 1 rfl).trans h4, (hB 11 0 13 rfl).trans h5, (hB 11 0 3 rfl).trans h6, fun i hi => ?_, fun i hi => ?_⟩
  · have := h7 i hi
    unfold K_thg at this ⊢
    rw [hA 42 i 1 rfl, hA 42 i 2 rfl, hA 42 i 3 rfl, hA 42 i 4 rfl, hA 42 i 5 rfl, hA 42 i 6 rfl, hB 59 0 i rfl, hB 60 0 i rfl, hB 61 0 i rfl, hB 62 0 i rfl, hB 63 0 i rfl, hB 64 0 i rfl]
    exact this
  · have := h8 i hi
    rw [hA 41 i 0 rfl, hA 41 i 1 rfl, hA 41 i 2 rfl, hB 50 0 i rfl, hB 51 0 i rfl, hB 52 0 i rfl]
    exact this
theorem RO_s2 {A B A1 : sm_M} {o : Option Nat} {f i : Nat} (h : RO A B o f i) (hA : Fr sA2 A A1) : RO A1 B o f i := by
  obtain ⟨h1, h2, h3⟩ := h
  refine ⟨h1, h2, ?_⟩
  rcases h2 with rfl | rfl
  · rw [hA 34 i 2 rfl, hA 34 i 3 rfl, hA 34 i 4 rfl, hA 34 i 6 rfl, hA 34 i 7 rfl]; exact h3
  · rw [hA 36 i 2 rfl, hA 36 i 3 rfl, hA 36 i 4 rfl, hA 36 i 6 rfl, hA 36 i 7 rfl]; exact h3
/-! least water: its range -/
def inF (x : Int32) : Prop := x = -1000000 ∨ (¬ x < -99 ∧ ¬ 999 < x)
theorem wls_rng {a b : Int32} (ha : inF a) (hb : inF b) : inF (wls a b) := by
  unfold wls
  split
  · exact hb
  · split
    · exact ha
    · split
      · exact hb
      · exact ha
theorem wlh_rng {A B : sm_M} {t s : Nat} (hV : VW A B t s) (c y : Int32) : ∀ i, i ≤ t → inF (wlh B c y (-1000000) i)
  | 0, _ => .inl rfl
  | i + 1, h => by
    have h1 := wlh_rng hV c y i (by omega)
    unfold wlh
    split
    · exact wls_rng h1 (.inr (hV.2.2.2.2.2.2.1 i (by omega)).2.2.2.2.2.2.2.2.2.1)
    · exact h1
theorem LW_rng {A B : sm_M} {t s : Nat} (hV : VW A B t s) (o : Option Nat) (c y : Int32) : inF (LW B o c y t s) := by
  unfold LW
  refine wls_rng ?_ (wlh_rng hV c y t (Nat.le_refl _))
  unfold WT
  cases hW : WW B o c y t s with
  | none => exact .inl rfl
  | some v =>
    obtain ⟨bt, w, q⟩ := v
    exact .inr (hV.2.2.2.2.2.2.1 w (WW_p hW).2.1).2.2.2.2.2.2.2.2.2.1
/-! cells of a sheet -/
def wce (c q i : Nat) : Nat := c + 8 * (i / q) + i % q
theorem wce_lt {c r q i : Nat} (hq : 1 ≤ q) (hc : c % 8 + q ≤ 8) (hr : c / 8 + r ≤ 6) (hi : i < r * q) : wce c q i < 48 := by
  unfold wce
  have h1 : i / q < r := Nat.div_lt_of_lt_mul (by rw [Nat.mul_comm]; exact hi)
  have h2 := Nat.mod_lt i (show 0 < q by omega)
  omega
theorem wce_e {c q i : Nat} (hq : 1 ≤ q) (hq4 : q ≤ 4) (hi : i < 2 ^ 20) : nI c + 8 * (nI i / nI q) + (nI i - nI i / nI q * nI q) = nI (wce c q i) := by
  rw [pk_rem (by omega) hq (by omega), pk_div (by omega) hq (by omega), show (8 : Int32) = nI 8 from rfl, pk_mul, nI_add, nI_add]; rfl
