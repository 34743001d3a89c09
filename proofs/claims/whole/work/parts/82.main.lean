/-! ANY INSTRUCTION; THE BODY; THE METHOD -/
theorem lg_of {tag a k : Nat} (h : (if tag = 3 ∨ tag = 4 ∨ tag = 5 then Nat.beq a 0 || !sm_lg k (a - 1) else if tag = 70 then sm_lg k a && (Nat.beq a 0 || !sm_lg k (a - 1)) else true) = true ∨ tag = 99) : ((tag = 3 ∨ tag = 4 ∨ tag = 5) → a = 0 ∨ sm_lg k (a - 1) = false) ∧ (tag = 70 → sm_lg k a = true ∧ (a = 0 ∨ sm_lg k (a - 1) = false)) := by
  have hx : (Nat.beq a 0 || !sm_lg k (a - 1)) = true → a = 0 ∨ sm_lg k (a - 1) = false := fun q => by
    rcases (Bool.or_eq_true _ _).mp q with q | q
    · exact Or.inl (Nat.eq_of_beq_eq_true q)
    · exact Or.inr (by simpa using q)
  constructor
  · intro ht
    rcases h with h | h
    · rw [if_pos ht] at h; exact hx h
    · omega
  · intro ht
    rcases h with h | h
    · rw [if_neg (by omega), if_pos ht, Bool.and_eq_true] at h
      exact ⟨h.1, hx h.2⟩
    · omega
section
variable {Z : sq_Z} {p : Program} {l : Launch} {e : Env} {R : Room} {s : State} {m : MethodId} {args : Array Value} {below : List Frame} {meth : Method} {c : Code} {k d : Nat} {ad : Nat → Nat → Nat} {G : sm_G} {M : sm_M} {H : Heap} {locs : List Loc} {cells slots : Nat} {ls : Array Slot} {pc : Nat} {L : sm_L} {S : sm_S}
set_option maxHeartbeats 4000000 in
theorem sq_one (hC : sq_C p R s m args meth c k d) (hX : sq_XZ Z ad G M s H k L S ls locs) (hk : k < 276) : sq_N Z p l e R s m args below meth c k d ad G M H locs cells slots ls pc S (sm_nx k pc L S G M) := by
  have hck := ci_all k hk pc
  have hlg : ci_lg k pc = true ∨ (sm_ins k pc).1 = 99 := by
    rcases Nat.lt_or_ge pc (sm_sz k) with h | h
    · exact Or.inl (sm_upto_ok (sm_upto_ok ck_lg k hk) pc h)
    · have := so_all k hk (pc - sm_sz k)
      rw [show pc - sm_sz k + sm_sz k = pc by omega] at this
      exact Or.inr this
  unfold ci_ok at hck
  unfold ci_lg at hlg
  unfold sm_nx
  generalize sm_ins k pc = op at hck hlg ⊢
  obtain ⟨tag, a, b, nx, z⟩ := op
  dsimp only at hck hlg ⊢
  have hlg := lg_of hlg
  rcases (Bool.or_eq_true _ _).mp hck with h99 | hck
  · have h99 : tag = 99 := Nat.eq_of_beq_eq_true h99
    subst h99
    exact trivial
  cases hd : decode (sm_mb k) pc with
  | error er => rw [hd] at hck; cases hck
  | ok q =>
    obtain ⟨i, len⟩ := q
    rw [hd] at hck
    dsimp only at hck
    rw [Bool.and_eq_true] at hck
    obtain ⟨hnx, hci⟩ := hck
    have hnx := Nat.eq_of_beq_eq_true hnx
    subst hnx
    cases i
    all_goals first | exact absurd (show false = true from hci) Bool.false_ne_true | skip
    case iadd => exact sx_iadd hC hX hd hci
    case isub => exact sx_isub hC hX hd hci
    case imul => exact sx_imul hC hX hd hci
    case ishl => exact sx_ishl hC hX hd hci
    case ishr => exact sx_ishr hC hX hd hci
    case iand => exact sx_iand hC hX hd hci
    case ior => exact sx_ior hC hX hd hci
    case ixor => exact sx_ixor hC hX hd hci
    case iushr => exact sx_iushr hC hX hd hci
    case idiv => exact sx_idiv hC hX hd hci
    case irem => exact sx_irem hC hX hd hci
    case ineg => exact sx_ineg hC hX hd hci
    case i2b => exact sx_i2b hC hX hd hci
    case i2s => exact sx_i2s hC hX hd hci
    case i2l => exact sx_i2l hC hX hd hci
    case l2i => exact sx_l2i hC hX hd hci
    case ladd => exact sx_ladd hC hX hd hci
    case lcmp => exact sx_lcmp hC hX hd hci
    case iconst => exact sx_iconst hC hX hd hci
    case bipush => exact sx_bipush hC hX hd hci
    case sipush => exact sx_sipush hC hX hd hci
    case lconst => exact sx_lconst hC hX hd hci
    case aconst_null => exact sx_aconst_null hC hX hd hci
    case iload => exact sx_iload hC hX hd hci
    case iload_n => exact sx_iload_n hC hX hd hci
    case lload => exact sx_lload hC hX hd hci
    case lload_n => exact sx_lload_n hC hX hd hci
    case aload => exact sx_aload hC hX hd hci
    case aload_n => exact sx_aload_n hC hX hd hci
    case dup => exact sx_dup hC hX hd hci
    case dup2 => exact sx_dup2 hC hX hd hci
    case goto => exact sx_goto hC hX hd hci
    case if_icmp => exact sx_if_icmp hC hX hd hci
    case ifCond => exact sx_ifCond hC hX hd hci
    case ifnull => exact sx_ifnull hC hX hd hci
    case ifnonnull => exact sx_ifnonnull hC hX hd hci
    case iaload => exact sx_iaload hC hX hd hci
    case baload => exact sx_baload hC hX hd hci
    case aaload => exact sx_aaload hC hX hd hci
    case arraylength => exact sx_arraylength hC hX hd hci
    case iastore => exact sx_iastore hC hX hd hci
    case bastore => exact sx_bastore hC hX hd hci
    case aastore => exact sx_aastore hC hX hd hci
    case newarray => exact sx_newarray hC hX hd hci
    case lookupswitch => exact sx_lookupswitch hC hX hd hci
    case tableswitch => exact sx_tableswitch hC hX hd hci
    case ldc => exact sx_ldc hC hX hk hd hci
    case ldc_w => exact sx_ldc_w hC hX hk hd hci
    case getfield => exact sx_getfield hC hX hk hd hci
    case putfield => exact sx_putfield hC hX hk hd hci
    case new => exact sx_new hC hX hk hd hci
    case anewarray => exact sx_anewarray hC hX hk hd hci
    case getstatic => exact sx_getstatic hC hX hk hd hci
    case istore =>
      have ht : tag = 3 := by
        have h0 := hci
        simp only [ci_i, Bool.and_eq_true] at h0
        obtain ⟨⟨⟨h1, _⟩, _⟩, _⟩ := h0
        exact Nat.eq_of_beq_eq_true h1
      exact sx_istore hC hX (hlg.1 (by omega)) hd hci
    case istore_n =>
      have ht : tag = 3 := by
        have h0 := hci
        simp only [ci_i, Bool.and_eq_true] at h0
        obtain ⟨⟨⟨h1, _⟩, _⟩, _⟩ := h0
        exact Nat.eq_of_beq_eq_true h1
      exact sx_istore_n hC hX (hlg.1 (by omega)) hd hci
    case astore =>
      have ht : tag = 4 := by
        have h0 := hci
        simp only [ci_i, Bool.and_eq_true] at h0
        obtain ⟨⟨⟨h1, _⟩, _⟩, _⟩ := h0
        exact Nat.eq_of_beq_eq_true h1
      exact sx_astore hC hX (hlg.1 (by omega)) hd hci
    case astore_n =>
      have ht : tag = 4 := by
        have h0 := hci
        simp only [ci_i, Bool.and_eq_true] at h0
        obtain ⟨⟨⟨h1, _⟩, _⟩, _⟩ := h0
        exact Nat.eq_of_beq_eq_true h1
      exact sx_astore_n hC hX (hlg.1 (by omega)) hd hci
    case iinc =>
      have ht : tag = 5 := by
        have h0 := hci
        simp only [ci_i, Bool.and_eq_true] at h0
        obtain ⟨⟨⟨⟨h1, _⟩, _⟩, _⟩, _⟩ := h0
        exact Nat.eq_of_beq_eq_true h1
      exact sx_iinc hC hX (hlg.1 (by omega)) hd hci
    case lstore =>
      have ht : tag = 70 := by
        have h0 := hci
        simp only [ci_i, Bool.and_eq_true] at h0
        obtain ⟨⟨⟨h1, _⟩, _⟩, _⟩ := h0
        exact Nat.eq_of_beq_eq_true h1
      exact sx_lstore hC hX (hlg.2 ht).1 (hlg.2 ht).2 hd hci
    case if_acmp cnd off =>
      cases cnd with
      | ne => exact absurd (show false = true from hci) Bool.false_ne_true
      | eq => exact sx_if_acmp hC hX hd hci
    case invokevirtual idx =>
      simp only [ci_i, Bool.and_eq_true, Bool.or_eq_true] at hci
      obtain ⟨h2, hci⟩ := hci
      have h2 := Nat.eq_of_beq_eq_true h2
      subst h2
      rcases hci with (⟨⟨⟨⟨h1, h3⟩, h4⟩, h5⟩, h6⟩ | ⟨⟨h1, h3⟩, h4⟩) | ⟨⟨h1, h3⟩, h4⟩
      · have h1 := Nat.eq_of_beq_eq_true h1
        subst h1
        exact sq_call hC hX hk h3 (Or.inl ⟨hd, Nat.eq_of_beq_eq_true h4, by simpa using h5, by simpa using h6⟩)
      · have h1 := Nat.eq_of_beq_eq_true h1
        subst h1
        exact sx_strlen (a := a) (b := b) (z := z) hC hX hk (Nat.blt_eq ▸ h3) (nb_ne h4) hd
      · have h1 := Nat.eq_of_beq_eq_true h1
        subst h1
        exact sx_charAt (a := a) (b := b) (z := z) hC hX hk (Nat.blt_eq ▸ h3) (nb_ne h4) hd
    case invokespecial idx =>
      simp only [ci_i, Bool.and_eq_true, Bool.or_eq_true] at hci
      obtain ⟨h2, hci⟩ := hci
      have h2 := Nat.eq_of_beq_eq_true h2
      subst h2
      rcases hci with ⟨⟨⟨⟨⟨h1, h3⟩, h4⟩, h5⟩, h6⟩, h7⟩ | ⟨⟨h1, h3⟩, h4⟩
      · have h1 := Nat.eq_of_beq_eq_true h1
        subst h1
        exact sq_call hC hX hk h3 (Or.inr (Or.inl ⟨hd, Nat.eq_of_beq_eq_true h4, by simpa using h5, of_decide_eq_true h6, of_decide_eq_true h7⟩))
      · have h1 := Nat.eq_of_beq_eq_true h1
        subst h1
        exact sx_objInit (a := a) (b := b) (z := z) hC hX hk (Nat.blt_eq ▸ h3) (nb_ne h4) hd
    case invokestatic idx =>
      simp only [ci_i, Bool.and_eq_true, Bool.or_eq_true] at hci
      obtain ⟨h2, hci⟩ := hci
      have h2 := Nat.eq_of_beq_eq_true h2
      subst h2
      rcases hci with ⟨⟨⟨h1, h3⟩, h4⟩, h5⟩ | ⟨⟨h1, h3⟩, h4⟩
      · have h1 := Nat.eq_of_beq_eq_true h1
        subst h1
        exact sq_call hC hX hk h3 (Or.inr (Or.inr ⟨hd, Nat.eq_of_beq_eq_true h4, h5⟩))
      · have h1 := Nat.eq_of_beq_eq_true h1
        subst h1
        exact sx_arraycopy (a := a) (b := b) (z := z) hC hX hk (Nat.blt_eq ▸ h3) (nb_ne h4) hd
    case ireturn =>
      simp only [ci_i, Bool.and_eq_true, Bool.or_eq_true] at hci
      obtain ⟨⟨h1, h2⟩, h3⟩ := hci
      have h1 := Nat.eq_of_beq_eq_true h1
      have h2 := Nat.eq_of_beq_eq_true h2
      subst h1; subst h2
      rcases S with _ | ⟨x | x, _ | ⟨y, S⟩⟩
      all_goals try trivial
      intro hck
      refine Or.inl ⟨hd, x, rfl, rfl, ?_⟩
      rcases h3 with ⟨h3, h4⟩ | ⟨h3, h4⟩
      · exact Or.inl (of_decide_eq_true h4)
      · have h3 := Nat.eq_of_beq_eq_true h3
        subst h3
        refine Or.inr ⟨of_decide_eq_true h4, ?_⟩
        have hz : sm_zb x = true := hck
        simpa [sm_zb] using hz
    case areturn =>
      simp only [ci_i, Bool.and_eq_true] at hci
      obtain ⟨⟨h1, h2⟩, h3⟩ := hci
      have h1 := Nat.eq_of_beq_eq_true h1
      have h2 := Nat.eq_of_beq_eq_true h2
      subst h1; subst h2
      rcases S with _ | ⟨x | x | x, _ | ⟨y, S⟩⟩
      all_goals try trivial
      intro _
      refine Or.inr (Or.inl ⟨hd, x, rfl, rfl, ?_⟩)
      cases hm : sm_mr k with
      | none => rw [hm] at h3; cases h3
      | some t => rw [hm] at h3; exact ⟨t, rfl, h3⟩
    case return_ =>
      simp only [ci_i, Bool.and_eq_true] at hci
      obtain ⟨⟨h1, h2⟩, h3⟩ := hci
      have h1 := Nat.eq_of_beq_eq_true h1
      have h2 := Nat.eq_of_beq_eq_true h2
      subst h1; subst h2
      rcases S with _ | ⟨x, S⟩
      all_goals try trivial
      intro _
      exact Or.inr (Or.inr ⟨hd, rfl, rfl, of_decide_eq_true h3⟩)
end
/-- THE BODY: what the small machine says from here on, the kit's does -/
theorem sq_frame {Z : sq_Z} {l : Launch} {d : Nat} (IH : ∀ d', d = d' + 1 → ∀ (n k : Nat) (L0 : sm_L) (G : sm_G) (M : sm_M) (r : Option sm_V) (G1 : sm_G) (M1 : sm_M), 0 < k → k < 276 → sm_run n d' k 0 L0 [] G M = some (r, G1, M1) → sq_Met Z l d' k L0 G M r G1 M1) (n : Nat) :
    ∀ {k pc : Nat} {L : sm_L} {S : sm_S} {G : sm_G} {M : sm_M} {r : Option sm_V} {G' : sm_G} {M' : sm_M}, sm_run n d k pc L S G M = some (r, G', M') → k < 276 →
    ∀ {p : Program} {e : Env} {R : Room} {s : State} {m : MethodId} {args : Array Value} {below : List Frame} {meth : Method} {c : Code} {ad : Nat → Nat → Nat} {H : Heap} {locs : List Loc} {cells slots : Nat} {ls : Array Slot},
      sq_C p R s m args meth c k d → sq_XZ Z ad G M s H k L S ls locs → cells + G'.1 ≤ R.cells + G.1 → slots + G'.2.1 ≤ R.slots + G.2.1 → ∀ {Q : State → Prop},
      (∀ ad1 H1 locs1 ls1 c1 s1 pc1 S1, sq_RZ Z ad1 G' M' s H1 → sq_ag G ad ad1 → (∀ v ∈ S1, sq_okv G' v) → (∀ q ∈ locs1, Z.1.size ≤ q.base) → c1 + G.1 = cells + G'.1 → s1 + G.2.1 = slots + G'.2.1 → sq_E k pc1 S1 r → W p l e R s m args below meth c H1 locs1 c1 s1 Q (F0 m pc1 ls1 (S1.map (sq_v ad1)))) →
      W p l e R s m args below meth c H locs cells slots Q (F0 m pc ls (S.map (sq_v ad))) := by
  induction n with
  | zero => intro k pc L S G M r G' M' h; simp [sm_run] at h
  | succ n ih =>
    intro k pc L S G M r G' M' h hk p e R s m args below meth c ad H locs cells slots ls hC hX hcell hslot Q fin
    have hone := sq_one (l := l) (e := e) (below := below) (cells := cells) (slots := slots) (pc := pc) hC hX hk
    rw [sm_run] at h
    have go : ∀ {pc1 : Nat} {L1 : sm_L} {S1 : sm_S} {G1 : sm_G} {M1 : sm_M}, sq_S Z p l e R s m args below meth c k ad G H locs cells slots ls pc S pc1 L1 S1 G1 M1 → sm_ge G G1 → sm_run n d k pc1 L1 S1 G1 M1 = some (r, G', M') → W p l e R s m args below meth c H locs cells slots Q (F0 m pc ls (S.map (sq_v ad))) := by
      intro pc1 L1 S1 G1 M1 hS hge hr
      have hm := sm_run_mon n hr
      have g1 := hge.1
      have g2 := hge.2.1
      have m1 := hm.1
      have m2 := hm.2.1
      refine hS (by omega) (by omega) Q (fun ad1 H1 locs1 ls1 c1 s1 hX1 hag e1 e2 => ?_)
      refine ih hr hk hC hX1 (by omega) (by omega) (fun ad2 H2 locs2 ls2 c2 s2 pc2 S2 hR2 hag2 hok2 hl2 e3 e4 hE => ?_)
      exact fin ad2 H2 locs2 ls2 c2 s2 pc2 S2 hR2 (fun f i hf hi => (hag2 f i hf (Nat.lt_of_lt_of_le hi (hge.2.2 f))).trans (hag f i hf hi)) hok2 hl2 (by omega) (by omega) hE
    have hmN : sm_Nm G (sm_nx k pc L S G M) := by
      unfold sm_nx
      generalize sm_ins k pc = op
      obtain ⟨tag, a, b, nx, z⟩ := op
      exact sm_dis_mon a b nx z L S G M tag
    generalize sm_nx k pc L S G M = N at h hone hmN
    rcases N with _ | ⟨pc1, L1, S1, G1, M1⟩ | ⟨t, pc1, L1, S1, G1, M1⟩ | ⟨t, p1, p2, L1, S1⟩ | ⟨y, t, f, L1, S1⟩ | ⟨t, k', L0, pc1, L1, S1⟩ | ⟨t, r1⟩
    · simp [sm_F] at h
    · exact go hone hmN h
    · cases t
      · simp [sm_F] at h
      · exact go (hone rfl) hmN (by simpa [sm_F] using h)
    · cases t
      · exact go (hone.2 (by decide)) sm_ge.rf (by simpa [sm_F] using h)
      · exact go (hone.1 rfl) sm_ge.rf (by simpa [sm_F] using h)
    · exact go hone sm_ge.rf h
    · cases t
      · simp [sm_F] at h
      · cases d with
        | zero => simp [sm_F] at h
        | succ d' =>
          simp only [sm_F, if_true] at h
          cases hr : sm_run n d' k' 0 L0 [] G M with
          | none => rw [hr] at h; simp at h
          | some q =>
            obtain ⟨r1, G1, M1⟩ := q
            rw [hr] at h
            obtain ⟨hk', hcall⟩ := hone rfl
            exact go (hcall d' r1 G1 M1 rfl (IH d' rfl n k' L0 G M r1 G1 M1 hk'.1 hk'.2 hr)) (sm_run_mon n hr) h
    · cases t
      · simp [sm_F] at h
      · simp only [sm_F, if_true, Option.some.injEq, Prod.mk.injEq] at h
        obtain ⟨rfl, rfl, rfl⟩ := h
        exact fin ad H locs ls cells slots pc S hX.1 sq_ag.rf hX.2.2.1 hX.2.2.2 rfl rfl (hone rfl)
