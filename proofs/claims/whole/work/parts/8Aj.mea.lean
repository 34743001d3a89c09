/-! the reference's water -/
theorem wrule_sc {B B1 : sm_M} (hB : Fr scB B B1) (y : Int32) : ∀ n, wrule B1 y n = wrule B y n
  | 0 => rfl
  | n + 1 => by
    have h := wrule_sc hB y n
    unfold wrule
    rw [h, hB 70 0 n rfl]
    cases wrule B y n with
    | none => rfl
    | some k => simp only [hB 70 0 k rfl]
theorem wcl_sc {B B1 : sm_M} (hB : Fr scB B B1) (o : Option Nat) (j : Nat) : wcl B1 o j = wcl B o j := by
  cases o with
  | none => rfl
  | some k => exact hB 71 0 _ rfl
theorem wrk_sc {B B1 : sm_M} (hB : Fr scB B B1) (o : Option Nat) : wrk B1 o = wrk B o := by
  cases o with
  | none => rfl
  | some k => exact hB 72 0 _ rfl
theorem wab_sc {B B1 : sm_M} (hB : Fr scB B B1) (o : Option Nat) (p q : Nat) : wab B1 o p q = wab B o p q := by
  unfold wab wab2
  rw [wcl_sc hB, wrk_sc hB, hB 51 0 p rfl, hB 51 0 q rfl, hB 50 0 p rfl, hB 50 0 q rfl]
theorem r216q {A B : sm_M} {t s b bt : Nat} {L : Nat → Option Nat} (nL : Nat) (hV : VW A B t s) (hLp : ∀ k j, L k = some j → j < t ∧ B 61 0 j = nI k) (hb : b < s) (hbt : L b = some bt) : ∀ j i B1, i + j = s → Fr scB B B1 → (∀ k, k < s → B1 75 0 k = wnr (L k)) → B1 11 0 35 = nI bt → B1 11 0 36 = nI (wqs B L bt b i).1 → B1 11 0 37 = nI (wqs B L bt b i).2 → ∃ B2, (∀ d Q o0 o1 o3 o5 o6, sm_W (d + 3) 216 225 [vo 11, o0, o1, vi (nI b), o3, vi (nI i), o5, o6] [] (sm_G0 nL) B1 Q = Q (vi 1) (sm_G0 nL) B2) ∧ Fr scB B B2 ∧ B2 11 0 35 = nI bt ∧ B2 11 0 36 = nI (wqs B L bt b s).1 ∧ B2 11 0 37 = nI (wqs B L bt b s).2 := by
  have hLt : ∀ k j, L k = some j → j < t := fun k j h => (hLp k j h).1
  obtain ⟨hbt1, hbt2⟩ := hLp b bt hbt
  obtain ⟨ht, hs, ta, sa, tb, sb, hT, hS⟩ := id hV
  obtain ⟨b0, b1, b2, b3, b4, -⟩ := mm_six hb hs
  have bti : sm_in (nI bt) 90 = true := mm_in (by omega) (by decide)
  have btc : (nI bt).toNatClampNeg = bt := nI_clamp (by omega)
  intro j
  induction j with
  | zero =>
    intro i B1 hi hB hL e7 e8 e9
    have hi' : i = s := by omega
    subst hi'
    have sb1 : B1 11 0 3 = nI i := (hB 11 0 3 rfl).trans sb
    exact ⟨B1, fun d Q o0 o1 o3 o5 o6 => by rw [T216_225, sb1, mm_bf (nI_nlt (Nat.le_refl _) (by omega))], hB, e7, e8, e9⟩
  | succ j ih =>
    intro i B1 hi hB hL e7 e8 e9
    have sb1 : B1 11 0 3 = nI s := (hB 11 0 3 rfl).trans sb
    obtain ⟨p0, p1, p2, p3, p4, -⟩ := mm_six (show i < s by omega) hs
    obtain ⟨hq1, hq2⟩ := wqs_p (B := B) (b := b) hbt1 hLt i
    have hw : wqs B L bt b (i + 1) = match L i with
      | none => wqs B L bt b i
      | some k => if wqc B bt b i k = true then (wtk B bt (wqs B L bt b i).1 k, (wqs B L bt b i).2 + 1) else wqs B L bt b i := rfl
    have e62 : ∀ i, B1 62 0 i = B 62 0 i := fun i => hB 62 0 i rfl
    have e52 : ∀ i, B1 52 0 i = B 52 0 i := fun i => hB 52 0 i rfl
    cases hl : L i with
    | none =>
      rw [hl] at hw
      simp only at hw
      obtain ⟨B2, g⟩ := ih (i + 1) B1 (by omega) hB hL e7 (by rw [hw]; exact e8) (by rw [hw]; exact e9)
      refine ⟨B2, fun d Q o0 o1 o3 o5 o6 => ?_, g.2⟩
      rw [T216_225, sb1, mm_bt p1, mm_ck p3, p4, hL i (by omega), hl, mm_bt (show wnr none < 0 from mm_m1), nI_1]; exact g.1 d Q _ _ _ _ _
    | some k =>
      rw [hl] at hw
      simp only at hw
      obtain ⟨hk1, hk2⟩ := hLp i k hl
      have hw0 : (wqs B L bt b i).1 < 90 := by omega
      generalize hww : (wqs B L bt b i).1 = w at *
      have hL' : B1 75 0 i = nI k := by rw [hL i (by omega), hl]; rfl
      have k0 : ¬ nI k < 0 := nI_pos (by omega)
      have ki : sm_in (nI k) 90 = true := mm_in (by omega) (by decide)
      have kc : (nI k).toNatClampNeg = k := nI_clamp (by omega)
      have wi : sm_in (nI w) 90 = true := mm_in (by omega) (by decide)
      have wc : (nI w).toNatClampNeg = w := nI_clamp (by omega)
      have u62 : ∀ v i, sm_u B1 11 0 37 v 62 0 i = B 62 0 i := fun v i => e62 i
      have u36 : ∀ v, sm_u B1 11 0 37 v 11 0 36 = nI w := fun v => (mm_un (by omega)).trans e8
      have u35 : ∀ v, sm_u B1 11 0 37 v 11 0 35 = nI bt := fun v => (mm_un (by omega)).trans e7
      have hwb : (nI w = nI bt) = (w = bt) := propext (nI_eq (by omega) (by omega))
      have hkw : (nI k < nI w) = (k < w) := propext (nI_ltI (by omega) (by omega))
      have hz : ∀ v, sm_u (sm_u B1 11 0 37 v) 11 0 36 (nI w) = sm_u B1 11 0 37 v := fun v => by
        conv => lhs; rw [← u36 v]
        exact mm_us
      by_cases hq : wqc B bt b i k = true
      · obtain ⟨B2, g⟩ := ih (i + 1) (sm_u (sm_u B1 11 0 37 (nI ((wqs B L bt b i).2 + 1))) 11 0 36 (nI (wtk B bt w k))) (by omega) (Fr_u (Fr_u hB rfl) rfl) hL ((mm_un (by omega)).trans (u35 _)) (by rw [hw, if_pos hq]; exact mm_up) (by rw [hw, if_pos hq]; exact (mm_un (by omega)).trans mm_up)
        refine ⟨B2, fun d Q o0 o1 o3 o5 o6 => ?_, g.2⟩
        have g1 := fun o => g.1 d Q o0 o1 o3 o o6
        have hq2' := of_decide_eq_true hq
        rw [T216_225, sb1, mm_bt p1, mm_ck p3, p4, hL', mm_bf k0, mm_ck ki, e7, mm_ck bti, kc, btc, e62, e62, e8, e9, nI_1, nI_1]
        simp only [mm_ck p3, mm_ck b3, b4, mm_ck ki, mm_ck wi, kc, wc, e52, e62, u62, u36, u35, hwb, hkw]
        have fin : sm_Br (decide (B 62 0 k < B 62 0 w)) (sm_W (d + 3) 216 225 [vo 11, o0, o1, vi (nI b), o3, vi (nI (i + 1)), vi (nI k), o6] [] (sm_G0 nL) (sm_u (sm_u B1 11 0 37 (nI ((wqs B L bt b i).2 + 1))) 11 0 36 (nI k)) Q) (sm_Br (decide (B 62 0 k = B 62 0 w)) (sm_Br (decide (w = bt)) (sm_W (d + 3) 216 225 [vo 11, o0, o1, vi (nI b), o3, vi (nI (i + 1)), vi (nI k), o6] [] (sm_G0 nL) (sm_u B1 11 0 37 (nI ((wqs B L bt b i).2 + 1))) Q) (sm_Br (decide (k < w)) (sm_W (d + 3) 216 225 [vo 11, o0, o1, vi (nI b), o3, vi (nI (i + 1)), vi (nI k), o6] [] (sm_G0 nL) (sm_u (sm_u B1 11 0 37 (nI ((wqs B L bt b i).2 + 1))) 11 0 36 (nI k)) Q) (sm_W (d + 3) 216 225 [vo 11, o0, o1, vi (nI b), o3, vi (nI (i + 1)), vi (nI k), o6] [] (sm_G0 nL) (sm_u B1 11 0 37 (nI ((wqs B L bt b i).2 + 1))) Q))) (sm_W (d + 3) 216 225 [vo 11, o0, o1, vi (nI b), o3, vi (nI (i + 1)), vi (nI k), o6] [] (sm_G0 nL) (sm_u B1 11 0 37 (nI ((wqs B L bt b i).2 + 1))) Q)) = Q (vi 1) (sm_G0 nL) B2 := by
          have g2 := g1 (vi (nI k))
          unfold wtk at g2
          by_cases h1 : B 62 0 k < B 62 0 w
          · rw [if_pos h1] at g2; rw [mm_bt h1]; exact g2
          · rw [if_neg h1] at g2; rw [mm_bf h1]
            by_cases h2 : B 62 0 k = B 62 0 w
            · rw [if_pos h2] at g2; rw [mm_bt h2]
              by_cases h3 : w = bt
              · rw [if_pos h3, hz] at g2; rw [mm_bt h3]; exact g2
              · rw [if_neg h3] at g2; rw [mm_bf h3]
                by_cases h4 : k < w
                · rw [if_pos h4] at g2; rw [mm_bt h4]; exact g2
                · rw [if_neg h4, hz] at g2; rw [mm_bf h4]; exact g2
            · rw [if_neg h2, hz] at g2; rw [mm_bf h2]; exact g2
        by_cases hx : B 62 0 k < B 62 0 bt
        · rw [if_pos hx] at hq2'
          rw [mm_bt hx, mm_bt hq2']; exact fin
        · rw [if_neg hx] at hq2'
          rw [mm_bf hx, mm_bt hq2']; exact fin
      · obtain ⟨B2, g⟩ := ih (i + 1) B1 (by omega) hB hL e7 (by rw [hw, if_neg hq, hww]; exact e8) (by rw [hw, if_neg hq]; exact e9)
        refine ⟨B2, fun d Q o0 o1 o3 o5 o6 => ?_, g.2⟩
        have hq2' := of_decide_eq_false (by simpa using hq : wqc B bt b i k = false)
        rw [T216_225, sb1, mm_bt p1, mm_ck p3, p4, hL', mm_bf k0, mm_ck ki, e7, mm_ck bti, kc, btc, e62, e62, nI_1]
        simp only [mm_ck p3, mm_ck b3, b4, e52]
        by_cases hx : B 62 0 k < B 62 0 bt
        · rw [if_pos hx] at hq2'
          rw [mm_bt hx, mm_bf hq2']; exact g.1 d Q _ _ _ _ _
        · rw [if_neg hx] at hq2'
          rw [mm_bf hx, mm_bf hq2']; exact g.1 d Q _ _ _ _ _
def BW (B2 : sm_M) : Option (Nat × Nat × Nat) → Prop
  | none => True
  | some (bt, w, q) => B2 11 0 35 = nI bt ∧ B2 11 0 36 = nI w ∧ B2 11 0 37 = nI q
theorem r216 {A B B0 : sm_M} {t s n : Nat} (nL : Nat) (c y : Int32) (hV : VW A B t s) (hn : n ≤ 10) (eb : B 11 0 27 = nI n) (hB0 : Fr scB B B0) : ∃ B2, (∀ d Q o2 o3 o4 o5 o6, sm_W (d + 3) 216 0 [vo 11, vi c, vi y, o2, o3, o4, o5, o6] [] (sm_G0 nL) B0 Q = Q (vi (mb (WW B (wrule B y n) c y t s).isSome)) (sm_G0 nL) B2) ∧ Fr scB B B2 ∧ BW B2 (WW B (wrule B y n) c y t s) := by
  obtain ⟨ht, hs, ta, sa, tb, sb, hT, hS⟩ := id hV
  obtain ⟨B1, g1, g2, g3⟩ := r216a (B := B) nL hs sb c y s 0 B0 (by omega) hB0 (fun k hk => absurd hk (Nat.not_lt_zero _))
  obtain ⟨B2, h1, h2, h3⟩ := r216b nL c y hV t 0 B1 (by omega) g2 g3
  have hLt : ∀ k j, WL B c y t k = some j → j < 90 := fun k j h => by have := (WL_p h).1; omega
  have hst : ∀ d Q o2 o3 o4 o5 o6, ∃ o5' o6', sm_W (d + 3) 216 0 [vo 11, vi c, vi y, o2, o3, o4, o5, o6] [] (sm_G0 nL) B0 Q = sm_W (d + 3) 216 88 [vo 11, vi c, vi y, vi (wb1 (wbs B (wrule B y n) (WL B c y t) s s)), vi (wb3 (wbs B (wrule B y n) (WL B c y t) s s)), vi (nI s), o5', o6'] [] (sm_G0 nL) B2 Q := fun d Q o2 o3 o4 o5 o6 => by
    rw [T216]
    obtain ⟨o5', o6', h⟩ := r216c (B1 := B2) nL hV hn eb h2 (wrule_sc h2 y n) (fun p q => wab_sc h2 _ p q) h3 hLt (vi c) s 0 (by omega) d Q o5 o6
    exact ⟨o5', o6', ((g1 d Q o3 o4 o5 o6).trans (h1 d Q o3 o4 o5 o6)).trans h⟩
  have sb2 : B2 11 0 3 = nI s := (h2 11 0 3 rfl).trans sb
  cases hb : wbs B (wrule B y n) (WL B c y t) s s with
  | none =>
    have hW : WW B (wrule B y n) c y t s = none := by unfold WW; rw [hb]
    rw [hb] at hst
    refine ⟨sm_u B2 11 0 37 0, fun d Q o2 o3 o4 o5 o6 => ?_, Fr_u h2 rfl, by rw [hW]; trivial⟩
    obtain ⟨o5', o6', h⟩ := hst d Q o2 o3 o4 o5 o6
    rw [h, T216_88, sb2, mm_bf (nI_nlt (Nat.le_refl _) (by omega)), mm_bt (show wb1 none < 0 from mm_m1), hW]; rfl
  | some bm =>
    obtain ⟨b, m⟩ := bm
    obtain ⟨hb1, -, bt, hbt⟩ := wbs_p hb
    have hW : WW B (wrule B y n) c y t s = some (bt, wqs B (WL B c y t) bt b s) := by unfold WW; rw [hb]; simp only [hbt]
    obtain ⟨p0, p1, p2, p3, p4, -⟩ := mm_six hb1 hs
    have hc : B2 75 0 b = nI bt := by rw [h3 b hb1]; show wnr (WL B c y t b) = _; rw [hbt]; rfl
    have frs : Fr scB B (sm_u (sm_u (sm_u B2 11 0 37 0) 11 0 35 (nI bt)) 11 0 36 (nI bt)) := Fr_u (Fr_u (Fr_u h2 rfl) rfl) rfl
    obtain ⟨B3, q1, q2, q3, q4, q5⟩ := r216q (A := A) (B := B) (L := WL B c y t) nL hV (fun k j h => WL_p h) hb1 hbt s 0 (sm_u (sm_u (sm_u B2 11 0 37 0) 11 0 35 (nI bt)) 11 0 36 (nI bt)) (by omega) frs h3 rfl rfl rfl
    rw [hb] at hst
    refine ⟨B3, fun d Q o2 o3 o4 o5 o6 => ?_, q2, by rw [hW]; exact ⟨q3, q4, q5⟩⟩
    obtain ⟨o5', o6', h⟩ := hst d Q o2 o3 o4 o5 o6
    have hc' : sm_u B2 11 0 37 0 75 0 b = nI bt := hc
    rw [h, T216_88, sb2, mm_bf (nI_nlt (Nat.le_refl _) (by omega)), mm_bf (show ¬ wb1 (some (b, m)) < 0 from p0), mm_ck (show sm_in (wb1 (some (b, m))) 12 = true from p3), show (wb1 (some (b, m))).toNatClampNeg = b from p4, hc', hW]
    exact q1 d Q _ _ _ _ _
theorem wls_as (a b c : Int32) : wls (wls a b) c = wls a (wls b c) := by
  unfold wls
  by_cases ha : a = -1000000
  · simp [ha]
  · by_cases hb : b = -1000000
    · simp [ha, hb]
    · by_cases hc : c = -1000000
      · by_cases h1 : b < a
        · simp [ha, hb, hc, h1]
        · simp [ha, hb, hc, h1]
      · simp only [ha, hb, hc, ↓reduceIte, Int32.lt_iff_toInt_lt]
        by_cases h1 : b.toInt < a.toInt <;> by_cases h2 : c.toInt < b.toInt <;> by_cases h3 : c.toInt < a.toInt <;> simp only [h1, h2, h3, ha, hb, hc, ↓reduceIte] <;> first | rfl | (exfalso; omega)
theorem wls_0 (a : Int32) : wls a (-1000000) = a := by
  unfold wls
  by_cases ha : a = -1000000
  · simp [ha]
  · simp [ha]
theorem wlh_z (B : sm_M) (c y z : Int32) : ∀ i, wlh B c y z i = wls z (wlh B c y (-1000000) i)
  | 0 => by show z = wls z (-1000000); rw [wls_0]
  | i + 1 => by
    have h := wlh_z B c y z i
    show (if whz B c y i = true then wls (wlh B c y z i) (B 62 0 i) else wlh B c y z i) = wls z (if whz B c y i = true then wls (wlh B c y (-1000000) i) (B 62 0 i) else wlh B c y (-1000000) i)
    by_cases hw : whz B c y i = true
    · rw [if_pos hw, if_pos hw, h, wls_as]
    · rw [if_neg hw, if_neg hw, h]
theorem r215a {A B B1 : sm_M} {t s : Nat} (d nL : Nat) (c y z : Int32) (hV : VW A B t s) (hB : Fr scB B B1) (Q : sm_Q) : ∀ j i, i + j = t → sm_W (d + 4) 215 27 [vo 11, vi c, vi y, vi (wlh B c y z i), vi (nI i)] [] (sm_G0 nL) B1 Q = Q (vi (wlh B c y z t)) (sm_G0 nL) B1 := by
  obtain ⟨ht, hs, ta, sa, tb, sb, hT, hS⟩ := hV
  have tb1 : B1 11 0 13 = nI t := (hB 11 0 13 rfl).trans tb
  intro j
  induction j with
  | zero =>
    intro i hi
    have hi' : i = t := by omega
    subst hi'
    rw [T215_27, tb1, mm_bf (nI_nlt (Nat.le_refl _) (by omega))]
  | succ j ih =>
    intro i hi
    have h3 := ih (i + 1) (by omega)
    have ei : sm_in (nI i) 90 = true := mm_in (by omega) (by decide)
    have ec : (nI i).toNatClampNeg = i := nI_clamp (by omega)
    have e59 : B1 59 0 i = B 59 0 i := hB 59 0 i rfl
    have e60 : B1 60 0 i = B 60 0 i := hB 60 0 i rfl
    have e62 : B1 62 0 i = B 62 0 i := hB 62 0 i rfl
    have hfe : ¬ B 62 0 i = -1000000 := fun h => (hT i (by omega)).2.2.2.2.2.2.2.2.2.1.1 (by rw [h]; decide)
    have hw : wlh B c y z (i + 1) = if whz B c y i = true then wls (wlh B c y z i) (B 62 0 i) else wlh B c y z i := rfl
    have tail : sm_W (d + 3) 193 0 [vo 11, vi (nI i), vi y] [] (sm_G0 nL) B1 (fun r G1 M1 => sm_W (d + 4) 215 67 [vo 11, vi c, vi y, vi (wlh B c y z i), vi (nI i)] (sm_push r []) G1 M1 Q) = sm_W (d + 4) 215 27 [vo 11, vi c, vi y, vi (if wst B y i = true then wls (wlh B c y z i) (B 62 0 i) else wlh B c y z i), vi (nI (i + 1))] [] (sm_G0 nL) B1 Q := by
      rw [r193 (d + 3) nL (show i < 90 by omega), sm_push_s, T215_67, wst_sc hB, nI_1]
      simp only [mm_ck ei, ec, e62]
      cases hs : wst B y i
      · rw [mm_bt (by decide)]; rfl
      · rw [mm_bf (by decide)]
        unfold wls
        by_cases g1 : wlh B c y z i = -1000000
        · rw [mm_bt g1, if_pos rfl, if_pos g1]
        · rw [mm_bf g1, if_pos rfl, if_neg g1, if_neg hfe]
          by_cases g2 : B 62 0 i < wlh B c y z i
          · rw [mm_bt g2, if_pos g2]
          · rw [mm_bf g2, if_neg g2]
    rw [T215_27, tb1, mm_bt (nI_lt (by omega) (by omega)), mm_ck ei, ec, e59, e60, nI_1, tail]
    simp only [mm_ck ei]
    unfold whz at hw
    by_cases hc : B 60 0 i = c
    · by_cases h2 : B 59 0 i = 2
      · rw [hw] at h3; simp only [h2, hc, decide_true, Bool.true_or, Bool.true_and] at h3
        rw [mm_bt h2, mm_bt hc]; exact h3
      · by_cases h3' : B 59 0 i = 3
        · rw [hw] at h3; simp only [h3', hc, decide_true, Bool.true_or, Bool.or_true, Bool.true_and] at h3
          rw [mm_bf h2, mm_bt h3', mm_bt hc]; exact h3
        · by_cases h5 : B 59 0 i = 5
          · rw [hw] at h3; simp only [h5, hc, decide_true, Bool.or_true, Bool.true_and] at h3
            rw [mm_bf h2, mm_bf h3', mm_bt h5, mm_bt hc]; exact h3
          · rw [hw] at h3; simp only [h2, h3', h5, decide_false, Bool.or_false, Bool.false_and, Bool.false_eq_true, ↓reduceIte] at h3
            rw [mm_bf h2, mm_bf h3', mm_bf h5]; exact h3
    · rw [hw] at h3; simp only [hc, decide_false, Bool.and_false, Bool.false_and, Bool.false_eq_true, ↓reduceIte] at h3
      rw [mm_bf hc]
      by_cases h2 : B 59 0 i = 2
      · rw [mm_bt h2]; exact h3
      · by_cases h3' : B 59 0 i = 3
        · rw [mm_bf h2, mm_bt h3']; exact h3
        · by_cases h5 : B 59 0 i = 5
          · rw [mm_bf h2, mm_bf h3', mm_bt h5]; exact h3
          · rw [mm_bf h2, mm_bf h3', mm_bf h5]; exact h3
theorem r215 {A B B0 : sm_M} {t s n : Nat} (nL : Nat) (c y : Int32) (hV : VW A B t s) (hn : n ≤ 10) (eb : B 11 0 27 = nI n) (hB0 : Fr scB B B0) : ∃ B2, (∀ d Q o2 o3, sm_W (d + 4) 215 0 [vo 11, vi c, vi y, o2, o3] [] (sm_G0 nL) B0 Q = Q (vi (LW B (wrule B y n) c y t s)) (sm_G0 nL) B2) ∧ Fr scB B B2 := by
  obtain ⟨B2, g1, g2, g3⟩ := r216 nL c y hV hn eb hB0
  refine ⟨B2, fun d Q o2 o3 => ?_, g2⟩
  rw [T215, g1, sm_push_s]
  unfold LW WT
  cases hW : WW B (wrule B y n) c y t s with
  | none =>
    rw [T215_6, mm_bt (by decide)]
    refine (r215a d nL c y (-1000000) hV g2 Q t 0 (by omega)).trans ?_
    show _ = Q (vi (wls (-1000000) (wlh B c y (-1000000) t))) _ _
    rw [← wlh_z]
  | some v =>
    obtain ⟨bt, w, q⟩ := v
    rw [hW] at g3
    obtain ⟨e5, e6, e7⟩ := g3
    have hp := WW_p hW
    have hw90 : w < 90 := by have := hV.1; have := hp.2.1; omega
    rw [T215_6, mm_bf (show ¬ mb (some (bt, w, q)).isSome = 0 from (by decide : ¬ mb true = 0)), e6, mm_ck (mm_in hw90 (by decide)), nI_clamp (by omega), g2 62 0 w rfl]
    refine (r215a d nL c y (B 62 0 w) hV g2 Q t 0 (by omega)).trans ?_
    rw [wlh_z]
