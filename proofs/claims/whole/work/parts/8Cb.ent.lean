/-! the law's entry -/
def wF : List Cond := flatC (Jvm.Cond.and given_1 narrow_1)
def wtm (i : Nat) : Term := .string "FathomRoom$Rules" (([76, 84, 97] : List Nat).getD i 0)
theorem wf_tb : ∀ f, f < 5 → 1 ≤ f → (Cond.arrayOf (.static (sq_sn f).1 (sq_sn f).2 "[I") .int ∈ wF ∧ Cond.eq (.length (.static (sq_sn f).1 (sq_sn f).2 "[I")) (.int (Int32.ofNat 7)) ∈ wF ∧ ∀ j, j < 7 → Cond.eq (.elem (.static (sq_sn f).1 (sq_sn f).2 "[I") (.int (Int32.ofNat j))) (.int (sq_tb f j)) ∈ wF) := by decide +kernel
theorem wf_st : ∀ i, i < 3 → (Cond.exactly (wtm i) "java/lang/String" ∈ wF ∧ Cond.eq (.field (wtm i) "java/lang/String" "coder" "B") (.int 0) ∈ wF ∧ Cond.arrayOf (.field (wtm i) "java/lang/String" "value" "[B") .byte ∈ wF ∧ Cond.eq (.length (.field (wtm i) "java/lang/String" "value" "[B")) (.int (Int32.ofNat (([24, 3, 5] : List Nat).getD i 0))) ∈ wF) := by decide +kernel
theorem wf_se : ∀ i, i < 3 → ∀ j, j < ([24, 3, 5] : List Nat).getD i 0 → Cond.eq (.elem (.field (wtm i) "java/lang/String" "value" "[B") (.int (Int32.ofNat j))) (.int ((([sm_tx5, sm_tx6, sm_tx7] : List (List Int32)).getD i []).getD j 0)) ∈ wF := by decide +kernel
theorem wf_ne : ∀ i, i < 3 → ∀ j, j < 3 → i ≠ j → (Cond.not (.eq (wtm i) (wtm j)) ∈ wF ∨ Cond.not (.eq (wtm j) (wtm i)) ∈ wF) := by decide +kernel
theorem wf_js : Cond.eq (.static "java/lang/String" "COMPACT_STRINGS" "Z") (.int 1) ∈ wF ∧ Cond.isRef (.static "jdk/internal/util/Preconditions" "SIOOBE_FORMATTER" "Ljava/util/function/BiFunction;") ∈ wF := by decide +kernel
theorem wf_ls : ∀ f, f < 5 → 1 ≤ f → (sm_wt (([0, 5076, 5086, 5092, 5110] : List Nat).getD f 0) (.laysStatic (sq_sn f).1 (sq_sn f).2 "[I") && sm_wt (([0, 1008, 1008, 1008, 1007] : List Nat).getD f 0) (.initialized (sq_sn f).1)) = true := by decide +kernel
theorem wf_lj : (sm_wt 3161 (.laysStatic "java/lang/String" "COMPACT_STRINGS" "Z") && sm_wt 1015 (.initialized "java/lang/String") && sm_wt 3169 (.laysStatic "jdk/internal/util/Preconditions" "SIOOBE_FORMATTER" "Ljava/util/function/BiFunction;") && sm_wt 1017 (.initialized "jdk/internal/util/Preconditions")) = true := by decide +kernel
theorem wf_sr : (sm_wt 3151 (.stringRef "FathomRoom$Rules" 76 "rankyearnearspanlatetell") && sm_wt 3204 (.stringRef "FathomRoom$Rules" 84 "lwe") && sm_wt 3224 (.stringRef "FathomRoom$Rules" 97 "dulws")) = true := by decide +kernel
theorem wf_sl (q : Nat) (h7 : (sm_sl q).1 ≤ 7) : q = 10316 ∨ q = 10324 ∨ q = 10337 := by
  by_cases e1 : q = 10316
  · exact .inl e1
  by_cases e2 : q = 10324
  · exact .inr (.inl e2)
  by_cases e3 : q = 10337
  · exact .inr (.inr e3)
  exfalso
  unfold sm_sl at h7
  rw [sl_beq, sl_beq, sl_beq, decide_eq_false e1, decide_eq_false e2, decide_eq_false e3] at h7
  cases h1 : Nat.ble q 10323 <;> cases h2 : Nat.ble q 10336 <;> rw [h1] at h7 <;> (try rw [h2] at h7) <;> exact absurd h7 (by decide)
/-- the script's and the tables' memory -/
def lw_M (xs : Nat → Int32) : sm_M := fun f _ k => cond (Nat.beq f 0) (xs k) (sq_tb f k)
theorem lw_rel {s : State} {b L : Nat} {xs : Nat → Int32} (hts : ∀ w ∈ lw_tbl, w.before #[Value.ref b] s = true) (hX : va_X b L xs s s.heap) (hb : b < s.heap.size) (hgv : (Jvm.Cond.and given_1 narrow_1).before #[Value.ref b] s = true) :
    ∃ Z : sq_Z, Z.1 = s.heap ∧ Z.2.1 0 = b ∧ sq_RZ Z (fun f _ => Z.2.1 f) (sl_g L (0, 0, [], [])) (lw_M xs) s s.heap := by
  have hs : ∀ c ∈ wF, c.before #[Value.ref b] s = true := flat_of_before _ hgv
  have hts' : ∀ w ∈ sm_ts, w.before #[Value.ref b] s = true := fun w hw => hts w (List.mem_filter.mp hw).1
  have hA : ∀ a : Nat, a < s.heap.size → ¬ (s.heap.size ≤ a) := fun a h => Nat.not_le.mpr h
  have hst : ∀ f : Nat, ∃ t : Nat, 1 ≤ f → f ≤ 4 → (Term.static (sq_sn f).1 (sq_sn f).2 "[I").eval #[Value.ref b] s none [] s = some (.ref t) ∧ va_T .int t 7 (fun j => .int (sq_tb f j)) (fun q => s.heap.size ≤ q) s s.heap := by
    intro f
    by_cases h : 1 ≤ f ∧ f ≤ 4
    · obtain ⟨w1, w2, w3⟩ := wf_tb f (by omega) h.1
      obtain ⟨t, ht, hT⟩ := va_Tof (A := fun q => s.heap.size ≤ q) (f := fun j => .int (sq_tb f j)) (N := 7) (by decide) (hs _ w1) (va_eqt (hs _ w2)) (fun j hj => va_eqt (hs _ (w3 j hj))) hA
      exact ⟨t, fun _ _ => ⟨ht, hT⟩⟩
    · exact ⟨0, fun a c => absurd ⟨a, c⟩ h⟩
  obtain ⟨tS, hS⟩ := Classical.axiomOfChoice hst
  obtain ⟨adK, adV, hK, hKt⟩ := vk_Sof (args := #[Value.ref b]) (s := s) (N := 3) (tm := wtm) (len := [24, 3, 5]) (byt := [sm_tx5, sm_tx6, sm_tx7]) (A := fun q => s.heap.size ≤ q) (by decide) (fun i hi => hs _ (wf_st i hi).1) (fun i hi => hs _ (wf_st i hi).2.1) (fun i hi => hs _ (wf_st i hi).2.2.1) (fun i hi => hs _ (wf_st i hi).2.2.2) (fun i hi j hj => hs _ (wf_se i hi j hj)) (fun i j hi hj hne => (wf_ne i hi j hj hne).imp (fun h => hs _ h) (fun h => hs _ h)) hA
  have hDx : ∀ ci : Nat, ∃ q : ClassId × (Nat → Nat), ci < 13 → u_Kn s (sm_on ci) (sm_ct ci) (sm_nf ci) q.1 q.2 := by
    intro ci
    by_cases h : ci < 13
    · obtain ⟨cC, iS, hk⟩ := u_known (ws := sm_ts) hts' (lay_ok h) (hts' _ (inst_ok h))
      exact ⟨(cC, iS), fun _ => hk⟩
    · exact ⟨(0, fun _ => 0), fun q => absurd q h⟩
  obtain ⟨D, hD⟩ := Classical.axiomOfChoice hDx
  obtain ⟨ad0, e0, e1, e2⟩ : ∃ ad0 : Nat → Nat, ad0 0 = b ∧ (∀ f, 1 ≤ f → f ≤ 4 → ad0 f = tS f) ∧ ∀ i, ad0 (5 + i) = adK i := by
    refine ⟨fun f => if f = 0 then b else if f ≤ 4 then tS f else adK (f - 5), if_pos rfl, fun f a c => ?_, fun i => ?_⟩
    · show (if f = 0 then b else if f ≤ 4 then tS f else adK (f - 5)) = tS f
      rw [if_neg (by omega), if_pos c]
    · show (if 5 + i = 0 then b else if 5 + i ≤ 4 then tS (5 + i) else adK (5 + i - 5)) = adK i
      rw [if_neg (by omega), if_neg (by omega), show 5 + i - 5 = i by omega]
  have c0 : ∀ f, 10 ≤ f → (sl_g L (0, 0, [], [])).2.2.1 f = 0 := fun f hf => sl_c10 hf
  have nz : ∀ {f i : Nat} {p : Prop}, 10 ≤ f → i < (sl_g L (0, 0, [], [])).2.2.1 f → p := fun {f i p} hf hi => by
    rw [c0 f hf] at hi
    exact absurd hi (Nat.not_lt_zero _)
  refine ⟨(s.heap, ad0, L, xs, adV, (fun ci => (D ci).1, fun ci => (D ci).2), fun c => (s.vm.findClass (sq_an c)).getD 0), rfl, e0, ?_⟩
  refine ⟨⟨Nat.le_refl _, fun _ _ => rfl⟩, fun f i hf hi => nz hf hi, fun f i g j hf hi _ _ => nz hf hi, fun f i k hf hi => nz hf hi, fun f _ => rfl, ⟨rfl, fun k _ => rfl, fun f k a _ _ => ?_⟩, ⟨fun ci hc => hD ci hc, fun c => rfl, fun f h1 h2 h3 => nz h1 h3⟩, ?_⟩
  · show cond (Nat.beq f 0) (xs k) (sq_tb f k) = sq_tb f k
    have : Nat.beq f 0 = false := by rw [sl_beq]; exact decide_eq_false (by omega)
    rw [this]; rfl
  have hsr := wf_sr
  have hlj := wf_lj
  simp only [Bool.and_eq_true] at hsr hlj
  refine ⟨⟨?_, ?_⟩, fun f a c => ?_, fun q a c => ?_, ?_, fun a i x h hm => va_tabs rfl rfl (hts _ hm), fun C hC => va_AO.of (hts _ hC), ?_⟩
  · show ad0 0 < _
    rw [e0]; exact hb
  · show sq_arr s s.heap (ad0 0) L xs
    rw [e0]
    obtain ⟨scr, h1, h2, h3, h4, h5⟩ := hX
    exact ⟨scr, h1, h2, h3, Nat.le_of_eq h4.symm, by rw [h4], h5⟩
  · show ad0 f < s.heap.size ∧ sq_arr s s.heap (ad0 f) 7 (sq_tb f) ∧ va_Z (sq_sn f).1 (sq_sn f).2 "[I" (.ref (ad0 f)) (fun q => s.heap.size ≤ q) s s.heap
    rw [e1 f a c]
    obtain ⟨ht, cell, h1, h2, h3, h4, h5, h6, h7⟩ := hS f a c
    have hl := wf_ls f (by omega) a
    rw [Bool.and_eq_true] at hl
    exact ⟨(Array.getElem?_eq_some_iff.mp h1).1, ⟨cell, h1, h2, h3, h4, h5, h6⟩, va_Zref (hts _ (sm_wt_in hl.1)) (hts _ (sm_wt_in hl.2)) ht hA⟩
  · rcases wf_sl q c with rfl | rfl | rfl
    · show vk_R "FathomRoom$Rules" 76 "rankyearnearspanlatetell" (ad0 (5 + 0)) s
      rw [e2]
      exact vk_R.of (hts _ (sm_wt_in hsr.1.1)) (hKt 0 (by decide))
    · show vk_R "FathomRoom$Rules" 84 "lwe" (ad0 (5 + 1)) s
      rw [e2]
      exact vk_R.of (hts _ (sm_wt_in hsr.1.2)) (hKt 1 (by decide))
    · show vk_R "FathomRoom$Rules" 97 "dulws" (ad0 (5 + 2)) s
      rw [e2]
      exact vk_R.of (hts _ (sm_wt_in hsr.2)) (hKt 2 (by decide))
  · show vk_S 3 [24, 3, 5] [sm_tx5, sm_tx6, sm_tx7] (fun i => ad0 (5 + i)) adV (fun q => s.heap.size ≤ q) s s.heap
    rw [show (fun i => ad0 (5 + i)) = adK from funext e2]
    exact hK
  · refine ⟨va_Zof (hts _ (sm_wt_in hlj.1.1.1)) (hts _ (sm_wt_in hlj.1.1.2)) (va_eqt (hs _ wf_js.1)) hA, ?_⟩
    rcases va_Zqof (hts _ (sm_wt_in hlj.1.2)) (hts _ (sm_wt_in hlj.2)) (hs _ wf_js.2) hA with h | ⟨t, h⟩
    · exact ⟨.null, .inl rfl, h⟩
    · exact ⟨.ref t, .inr ⟨t, rfl⟩, h⟩
