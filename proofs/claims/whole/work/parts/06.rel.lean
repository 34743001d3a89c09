/-! THE RELATION of the small machine's memory and the kit's heap -/
theorem tst_good : (goodWord (.native arraycopyName), goodWord (.laysStatic "a" "b" "c"), goodWord (.stringRef "a" 1 "b"), goodWord (.constant "a" 1 2), goodWord (.classLink "a" 1 "b"), goodWord (.instantiable "a" 1), goodWord (.arrayOver .int)) = (true, false, false, true, true, true, false) := by decide +kernel
def sq_rv (ad : Nat → Nat → Nat) (r : sm_R) : Value := match r with
  | none => .null
  | some (f, i) => .ref (ad f i)
def sq_v (ad : Nat → Nat → Nat) (v : sm_V) : Value := match v with
  | .inl x => .int x
  | .inr (.inl y) => .long y
  | .inr (.inr r) => sq_rv ad r
def sq_sl (ad : Nat → Nat → Nat) (G : sm_G) (M : sm_M) (f i k : Nat) : Value := cond (sm_tr (sm_fc f) k) (sq_rv ad (G.2.2.2 f i k)) (.int (M f i k))
def sq_ft (c : Nat) : FieldType := match c with
  | 100 => .int
  | 101 => .byte
  | 102 => .boolean
  | c => .object (sm_on (c - 110))
def sq_an (c : Nat) : String := "[" ++ (sq_ft c).toString
def sq_cell (D : va_G) (cA : Nat → ClassId) (ad : Nat → Nat → Nat) (G : sm_G) (M : sm_M) (f i : Nat) (H : Heap) : Prop :=
  (sm_fc f < 99 → t_OB (ad f i) (D.1 (sm_fc f)) (sm_nf (sm_fc f)) (D.2 (sm_fc f)) H (sq_sl ad G M f i)) ∧
  (99 < sm_fc f → H[ad f i]? = some (arrV (cA (sm_fc f)) (sm_ln f) (sq_sl ad G M f i)))
def sq_K (D : va_G) (cA : Nat → ClassId) (G : sm_G) (U : State) : Prop :=
  (∀ ci, ci < 13 → u_Kn U (sm_on ci) (sm_ct ci) (sm_nf ci) (D.1 ci) (D.2 ci)) ∧
  (∀ c, cA c = (U.vm.findClass (sq_an c)).getD 0) ∧
  (∀ f, 10 ≤ f → 99 < sm_fc f → 0 < G.2.2.1 f → ArrOfT U (cA (sm_fc f)) (sq_ft (sm_fc f)) ∧ va_RA U (cA (sm_fc f)) (sq_ft (sm_fc f)))
theorem sq_K.moved {D : va_G} {cA : Nat → ClassId} {G : sm_G} {u U : State} (hvm : u.vm.Alike U.vm) (h : sq_K D cA G u) : sq_K D cA G U :=
  ⟨fun ci hc => u_Kn_moved hvm (h.1 ci hc), fun c => by rw [hvm.findClass]; exact h.2.1 c, fun f h1 h2 h3 => ⟨arrOfT_moved hvm (h.2.2 f h1 h2 h3).1, (h.2.2 f h1 h2 h3).2.moved hvm⟩⟩
def sq_arr (U : State) (H : Heap) (a n : Nat) (g : Nat → Int32) : Prop := ∃ cell : Cell, H[a]? = some cell ∧ U.isArrayOf cell .int ∧ cell.vm ≠ .unknown ∧ n ≤ cell.slots.size ∧ cell.slots.size.toInt32 = Int32.ofNat n ∧ ∀ j, j < n → cell.slots[j]? = some (.int (g j))
theorem sq_arr.moved {u U : State} {H : Heap} {a n : Nat} {g : Nat → Int32} (hvm : u.vm.Alike U.vm) (h : sq_arr u H a n g) : sq_arr U H a n g := by
  obtain ⟨cell, h1, h2, h3⟩ := h
  exact ⟨cell, h1, State.isArrayOf_alike hvm h2, h3⟩
/-- the constant rows by family -/
def sq_tb (f k : Nat) : Int32 := (cond (Nat.beq f 1) [10, 20, 20, 40, 10, 20, 70] (cond (Nat.beq f 2) [11, 11, 30, 30, 50, 30, 11] (cond (Nat.beq f 3) [12, 12, 31, 31, 12, 60, 12] [1, 3, 7, 15, 17, 39, 65])) : List Int32).getD k 0
def sq_sn (f : Nat) : String × String := cond (Nat.beq f 1) ("FathomRoom$Acts", "SHOWS") (cond (Nat.beq f 2) ("FathomRoom$Acts", "WARNS") (cond (Nat.beq f 3) ("FathomRoom$Acts", "ENDS") ("FathomRoom$Thing", "LINEAGE")))
def sq_tx (f : Nat) : String := cond (Nat.beq f 5) "rankyearnearspanlatetell" (cond (Nat.beq f 6) "lwe" "dulws")
/-- what the text's own methods read -/
def sq_JS (U : State) (H0 : Heap) : Prop := va_Z "java/lang/String" "COMPACT_STRINGS" "Z" (.int 1) (fun q => H0.size ≤ q) U H0 ∧ ∃ v : Value, (v = .null ∨ ∃ a, v = .ref a) ∧ va_Z "jdk/internal/util/Preconditions" "SIOOBE_FORMATTER" "Ljava/util/function/BiFunction;" v (fun q => H0.size ≤ q) U H0
theorem sq_JS.moved {u U : State} {H0 : Heap} (hvm : u.vm.Alike U.vm) (h : sq_JS u H0) : sq_JS U H0 := by
  obtain ⟨h1, v, h2, h3⟩ := h
  exact ⟨h1.moved hvm, v, h2, h3.moved hvm⟩
/-- what stands in the old part of the heap, and what the tables say of it -/
def sq_O (H0 : Heap) (ad0 : Nat → Nat) (L0 : Nat) (xs : Nat → Int32) (adV : Nat → Nat) (U : State) : Prop :=
  (ad0 0 < H0.size ∧ sq_arr U H0 (ad0 0) L0 xs) ∧
  (∀ f, 1 ≤ f → f ≤ 4 → ad0 f < H0.size ∧ sq_arr U H0 (ad0 f) 7 (sq_tb f) ∧ va_Z (sq_sn f).1 (sq_sn f).2 "[I" (.ref (ad0 f)) (fun q => H0.size ≤ q) U H0) ∧
  (∀ q, 5 ≤ (sm_sl q).1 → (sm_sl q).1 ≤ 7 → vk_R (sm_on (q / 2048)) (q % 2048) (sq_tx (sm_sl q).1) (ad0 (sm_sl q).1) U) ∧
  vk_S 3 [24, 3, 5] [sm_tx5, sm_tx6, sm_tx7] (fun i => ad0 (5 + i)) adV (fun q => H0.size ≤ q) U H0 ∧
  (∀ a i x h, Cond.methodLinkNest a i x h ∈ lw_tbl → va_Nw (.methodLinkNest a i x h) U) ∧
  (∀ C, Cond.arrayOver (.object C) ∈ lw_tbl → va_AO C U) ∧
  sq_JS U H0
theorem sq_O.warm {H0 : Heap} {ad0 : Nat → Nat} {L0 : Nat} {xs : Nat → Int32} {adV : Nat → Nat} {s U : State} (hW : s.WarmedH U.vm) (h : sq_O H0 ad0 L0 xs adV s) : sq_O H0 ad0 L0 xs adV U := by
  obtain ⟨⟨h0, h1⟩, h2, h3, h4, h5, h6, h7⟩ := h
  exact ⟨⟨h0, h1.moved hW.alike⟩, fun f a b => ⟨(h2 f a b).1, (h2 f a b).2.1.moved hW.alike, (h2 f a b).2.2.moved hW.alike⟩, fun q a b => (h3 q a b).warm hW, h4.moved hW.alike, fun a i x hh hm => va_Nw.warmM hW (h5 a i x hh hm), fun C hC => (h6 C hC).moved hW.alike, h7.moved hW.alike⟩
theorem sq_O.same {H0 : Heap} {ad0 : Nat → Nat} {L0 : Nat} {xs : Nat → Int32} {adV : Nat → Nat} {u U : State} (hv : U.vm = u.vm) (h : sq_O H0 ad0 L0 xs adV u) : sq_O H0 ad0 L0 xs adV U := by
  obtain ⟨⟨h0, h1⟩, h2, h3, h4, h5, h6, h7⟩ := h
  have ha : u.vm.Alike U.vm := by rw [hv]; exact Vm.Alike.refl _
  exact ⟨⟨h0, h1.moved ha⟩, fun f a b => ⟨(h2 f a b).1, (h2 f a b).2.1.moved ha, (h2 f a b).2.2.moved ha⟩, fun q a b => (h3 q a b).same hv, h4.moved ha, fun a i x hh hm => va_Nw.same rfl hv.symm (h5 a i x hh hm), fun C hC => (h6 C hC).moved ha, h7.moved ha⟩
/-- a reference to something that is there -/
def sq_ok (G : sm_G) (r : sm_R) : Prop := match r with
  | none => True
  | some (f, i) => (f < 8 ∧ i = 0) ∨ (10 ≤ f ∧ i < G.2.2.1 f)
def sq_okv (G : sm_G) (v : sm_V) : Prop := match v with
  | .inr (.inr r) => sq_ok G r
  | _ => True
section
variable (H0 : Heap) (ad0 : Nat → Nat) (L0 : Nat) (xs : Nat → Int32) (adV : Nat → Nat) (D : va_G) (cA : Nat → ClassId)
def sq_R (ad : Nat → Nat → Nat) (G : sm_G) (M : sm_M) (U : State) (H : Heap) : Prop :=
  (H0.size ≤ H.size ∧ ∀ q, q < H0.size → H[q]? = H0[q]?) ∧
  (∀ f i, 10 ≤ f → i < G.2.2.1 f → H0.size ≤ ad f i ∧ sq_cell D cA ad G M f i H) ∧
  (∀ f i g j, 10 ≤ f → i < G.2.2.1 f → 10 ≤ g → j < G.2.2.1 g → ad f i = ad g j → f = g ∧ i = j) ∧
  (∀ f i k, 10 ≤ f → i < G.2.2.1 f → (99 < sm_fc f → k < sm_ln f) → sq_ok G (G.2.2.2 f i k)) ∧
  (∀ f, f < 10 → ad f 0 = ad0 f) ∧
  (G.2.2.1 0 = L0 ∧ (∀ k, k < L0 → M 0 0 k = xs k) ∧ ∀ f k, 1 ≤ f → f ≤ 4 → k < 7 → M f 0 k = sq_tb f k) ∧
  sq_K D cA G U ∧ sq_O H0 ad0 L0 xs adV U
def sq_L (ad : Nat → Nat → Nat) (G : sm_G) (n : Nat) (L : sm_L) (ls : Array Slot) : Prop :=
  L.length = n ∧ ls.size = n ∧ lv_wf ls ∧ ∀ j v, sm_at L j = some v → ls[j]? = some (.val (sq_v ad v)) ∧ sq_okv G v
/-- a state of a method's body -/
def sq_X (ad : Nat → Nat → Nat) (G : sm_G) (M : sm_M) (U : State) (H : Heap) (n : Nat) (L : sm_L) (S : sm_S) (ls : Array Slot) (locs : List Loc) : Prop :=
  sq_R H0 ad0 L0 xs adV D cA ad G M U H ∧ sq_L ad G n L ls ∧ (∀ v ∈ S, sq_okv G v) ∧ ∀ q ∈ locs, H0.size ≤ q.base
end
/-- the addresses of what was there stay -/
def sq_ag (G : sm_G) (ad ad1 : Nat → Nat → Nat) : Prop := ∀ f i, 10 ≤ f → i < G.2.2.1 f → ad1 f i = ad f i
theorem sq_ag.rf {G : sm_G} {ad : Nat → Nat → Nat} : sq_ag G ad ad := fun _ _ _ _ => rfl
theorem sq_fc10 : ∀ f, f < 10 → 99 ≤ sm_fc f := by decide
theorem sq_fc10b {f c : Nat} (h : sm_fc f = c) (hc : c < 99) : 10 ≤ f := by
  rcases Nat.lt_or_ge f 10 with q | q
  · have := sq_fc10 f q; omega
  · exact q
theorem sq_t_OB_ext {o : Nat} {cC : ClassId} {N : Nat} {iS : Nat → Nat} {H H1 : Heap} {V V1 : Nat → Value} (h : t_OB o cC N iS H V) (hH : H1[o]? = H[o]?) (hV : ∀ k, k < N → V k = V1 k) : t_OB o cC N iS H1 V1 := (h.kept hH).to hV
theorem arrV_ext {c : ClassId} {N : Nat} {f g : Nat → Value} (h : ∀ k, k < N → f k = g k) : arrV c N f = arrV c N g := by
  unfold arrV
  congr 1
  exact congrArg Array.ofFn (funext fun j => h j.val j.isLt)
