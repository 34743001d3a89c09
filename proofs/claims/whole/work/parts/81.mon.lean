/-! making alone changes the counts, and it raises them -/
def sm_ge (G G1 : sm_G) : Prop := G.1 ≤ G1.1 ∧ G.2.1 ≤ G1.2.1 ∧ ∀ f, G.2.2.1 f ≤ G1.2.2.1 f
theorem sm_ge.rf {G : sm_G} : sm_ge G G := ⟨Nat.le_refl _, Nat.le_refl _, fun _ => Nat.le_refl _⟩
theorem sm_ge.tr {G G1 G2 : sm_G} (h : sm_ge G G1) (h1 : sm_ge G1 G2) : sm_ge G G2 := ⟨Nat.le_trans h.1 h1.1, Nat.le_trans h.2.1 h1.2.1, fun f => Nat.le_trans (h.2.2 f) (h1.2.2 f)⟩
def sm_Nm (G : sm_G) (N : sm_N) : Prop := match N with
  | some (.inl (_, _, _, G1, _)) => sm_ge G G1
  | some (.inr (.inl (_, _, _, _, G1, _))) => sm_ge G G1
  | _ => True
theorem sm_Nm_c {G : sm_G} (c : Bool) (x y : sm_N) (hx : sm_Nm G x) (hy : sm_Nm G y) : sm_Nm G (cond c x y) := by cases c; exact hy; exact hx
theorem sm_cu_ge (c : Nat → Nat) (a : Nat) : ∀ f, c f ≤ sm_cu c a (c a + 1) f := fun f => by
  unfold sm_cu
  split
  · rename_i e; subst e; omega
  · omega
section
variable (a b nx : Nat) (z : Int32) (L : sm_L) (S : sm_S) (G : sm_G) (M : sm_M)
theorem sm_mt0 : sm_Nm G (sm_t0 a b nx z L S G M) := by
  unfold sm_t0
  (try split) <;> first | exact sm_ge.rf | trivial
theorem sm_mt1 : sm_Nm G (sm_t1 a b nx z L S G M) := by
  unfold sm_t1
  (try split) <;> first | exact sm_ge.rf | trivial
theorem sm_mt2 : sm_Nm G (sm_t2 a b nx z L S G M) := by
  unfold sm_t2
  (try split) <;> first | exact sm_ge.rf | trivial
theorem sm_mt3 : sm_Nm G (sm_t3 a b nx z L S G M) := by
  unfold sm_t3
  (try split) <;> first | exact sm_ge.rf | trivial
theorem sm_mt4 : sm_Nm G (sm_t4 a b nx z L S G M) := by
  unfold sm_t4
  (try split) <;> first | exact sm_ge.rf | trivial
theorem sm_mt5 : sm_Nm G (sm_t5 a b nx z L S G M) := by
  unfold sm_t5
  (try split) <;> first | exact sm_ge.rf | trivial
theorem sm_mt9 : sm_Nm G (sm_t9 a b nx z L S G M) := by
  unfold sm_t9
  (try split) <;> first | exact sm_ge.rf | trivial
theorem sm_mt10 : sm_Nm G (sm_t10 a b nx z L S G M) := by
  unfold sm_t10
  (try split) <;> first | exact sm_ge.rf | trivial
theorem sm_mt11 : sm_Nm G (sm_t11 a b nx z L S G M) := by
  unfold sm_t11
  (try split) <;> first | exact sm_ge.rf | trivial
theorem sm_mt18 : sm_Nm G (sm_t18 a b nx z L S G M) := by
  unfold sm_t18
  (try split) <;> first | exact sm_ge.rf | trivial
theorem sm_mt19 : sm_Nm G (sm_t19 a b nx z L S G M) := by
  unfold sm_t19
  (try split) <;> first | exact sm_ge.rf | trivial
theorem sm_mt20 (tag : Nat) : sm_Nm G (sm_t20 tag a b nx z L S G M) := by
  unfold sm_t20
  split
  · unfold sm_cmp; split <;> trivial
  · trivial
theorem sm_mt26 (tag : Nat) : sm_Nm G (sm_t26 tag a b nx z L S G M) := by
  unfold sm_t26
  split
  · unfold sm_cmp; split <;> trivial
  · trivial
theorem sm_mt32 : sm_Nm G (sm_t32 a b nx z L S G M) := by
  unfold sm_t32
  (try split) <;> first | exact sm_ge.rf | trivial
theorem sm_mt33 : sm_Nm G (sm_t33 a b nx z L S G M) := by
  unfold sm_t33
  (try split) <;> first | exact sm_ge.rf | trivial
theorem sm_mt34 : sm_Nm G (sm_t34 a b nx z L S G M) := by
  unfold sm_t34
  (try split) <;> first | exact sm_ge.rf | trivial
theorem sm_mt35 : sm_Nm G (sm_t35 a b nx z L S G M) := by
  unfold sm_t35
  split
  · exact sm_Nm_c _ _ _ trivial trivial
  · trivial
theorem sm_mt37 : sm_Nm G (sm_t37 a b nx z L S G M) := by
  unfold sm_t37
  (try split) <;> first | exact sm_ge.rf | trivial
theorem sm_mt38 : sm_Nm G (sm_t38 a b nx z L S G M) := by
  unfold sm_t38
  (try split) <;> first | exact sm_ge.rf | trivial
theorem sm_mt39 : sm_Nm G (sm_t39 a b nx z L S G M) := by
  unfold sm_t39
  (try split) <;> first | exact sm_ge.rf | trivial
theorem sm_mt40 : sm_Nm G (sm_t40 a b nx z L S G M) := by
  unfold sm_t40
  (try split) <;> first | exact sm_ge.rf | trivial
theorem sm_mt41 : sm_Nm G (sm_t41 a b nx z L S G M) := by
  unfold sm_t41
  (try split) <;> first | exact sm_ge.rf | trivial
theorem sm_mt42 : sm_Nm G (sm_t42 a b nx z L S G M) := by
  unfold sm_t42
  (try split) <;> first | exact sm_ge.rf | trivial
theorem sm_mt43 : sm_Nm G (sm_t43 a b nx z L S G M) := by
  unfold sm_t43
  (try split) <;> first | exact sm_ge.rf | trivial
theorem sm_mt44 : sm_Nm G (sm_t44 a b nx z L S G M) := by
  unfold sm_t44
  (try split) <;> first | exact sm_ge.rf | trivial
theorem sm_mt45 : sm_Nm G (sm_t45 a b nx z L S G M) := by
  unfold sm_t45
  (try split) <;> first | exact sm_ge.rf | trivial
theorem sm_mt46 : sm_Nm G (sm_t46 a b nx z L S G M) := by
  unfold sm_t46
  (try split) <;> first | exact sm_ge.rf | trivial
theorem sm_mt47 : sm_Nm G (sm_t47 a b nx z L S G M) := by
  unfold sm_t47
  (try split) <;> first | exact sm_ge.rf | trivial
theorem sm_mt48 : sm_Nm G (sm_t48 a b nx z L S G M) := by
  unfold sm_t48
  (try split) <;> first | exact sm_ge.rf | trivial
theorem sm_mt49 : sm_Nm G (sm_t49 a b nx z L S G M) := by
  unfold sm_t49
  exact ⟨Nat.le_succ _, Nat.le_add_right _ _, sm_cu_ge _ _⟩
theorem sm_mt50 : sm_Nm G (sm_t50 a b nx z L S G M) := by
  unfold sm_t50
  split
  · exact ⟨Nat.le_succ _, Nat.le_add_right _ _, sm_cu_ge _ _⟩
  · trivial
theorem sm_mt51 : sm_Nm G (sm_t51 a b nx z L S G M) := by
  unfold sm_t51
  (try split) <;> first | exact sm_ge.rf | trivial
theorem sm_mt52 : sm_Nm G (sm_t52 a b nx z L S G M) := by
  unfold sm_t52
  (try split) <;> first | exact sm_ge.rf | trivial
theorem sm_mt53 : sm_Nm G (sm_t53 a b nx z L S G M) := by
  unfold sm_t53
  (try split) <;> first | exact sm_ge.rf | trivial
theorem sm_mt54 : sm_Nm G (sm_t54 a b nx z L S G M) := by
  unfold sm_t54
  (try split) <;> first | exact sm_ge.rf | trivial
theorem sm_mt55 : sm_Nm G (sm_t55 a b nx z L S G M) := by
  unfold sm_t55
  (try split) <;> first | exact sm_ge.rf | trivial
theorem sm_mt56 : sm_Nm G (sm_t56 a b nx z L S G M) := by
  unfold sm_t56
  (try split) <;> first | exact sm_ge.rf | trivial
theorem sm_mt57 : sm_Nm G (sm_t57 a b nx z L S G M) := by
  unfold sm_t57
  (try split) <;> first | exact sm_ge.rf | trivial
theorem sm_mt58 : sm_Nm G (sm_t58 a b nx z L S G M) := by
  unfold sm_t58
  (try split) <;> first | exact sm_ge.rf | trivial
theorem sm_mt62 : sm_Nm G (sm_t62 a b nx z L S G M) := by
  unfold sm_t62
  (try split) <;> first | exact sm_ge.rf | trivial
theorem sm_mt63 : sm_Nm G (sm_t63 a b nx z L S G M) := by
  unfold sm_t63
  (try split) <;> first | exact sm_ge.rf | trivial
theorem sm_mt64 : sm_Nm G (sm_t64 a b nx z L S G M) := by
  unfold sm_t64
  (try split) <;> first | exact sm_ge.rf | trivial
theorem sm_mt65 : sm_Nm G (sm_t65 a b nx z L S G M) := by
  unfold sm_t65
  (try split) <;> first | exact sm_ge.rf | trivial
theorem sm_mt66 : sm_Nm G (sm_t66 a b nx z L S G M) := by
  unfold sm_t66
  (try split) <;> first | exact sm_ge.rf | trivial
theorem sm_mt67 : sm_Nm G (sm_t67 a b nx z L S G M) := by
  unfold sm_t67
  (try split) <;> first | exact sm_ge.rf | trivial
theorem sm_mt68 : sm_Nm G (sm_t68 a b nx z L S G M) := by
  unfold sm_t68
  (try split) <;> first | exact sm_ge.rf | trivial
theorem sm_mt69 : sm_Nm G (sm_t69 a b nx z L S G M) := by
  unfold sm_t69
  (try split) <;> first | exact sm_ge.rf | trivial
theorem sm_mt70 : sm_Nm G (sm_t70 a b nx z L S G M) := by
  unfold sm_t70
  (try split) <;> first | exact sm_ge.rf | trivial
theorem sm_mt71 : sm_Nm G (sm_t71 a b nx z L S G M) := by
  unfold sm_t71
  (try split) <;> first | exact sm_ge.rf | trivial
theorem sm_mt72 : sm_Nm G (sm_t72 a b nx z L S G M) := by
  unfold sm_t72
  (try split) <;> first | exact sm_ge.rf | trivial
theorem sm_mt6 (tag : Nat) : sm_Nm G (sm_t6 tag a b nx z L S G M) := by
  unfold sm_t6
  (try split) <;> first | exact sm_ge.rf | trivial
theorem sm_dis_mon (tag : Nat) : sm_Nm G (sm_dis tag a b nx z L S G M) := by
  unfold sm_dis
  repeat' (refine sm_Nm_c _ _ _ ?_ ?_)
  all_goals first | trivial | exact sm_mt0 _ _ _ _ _ _ _ _ | exact sm_mt1 _ _ _ _ _ _ _ _ | exact sm_mt2 _ _ _ _ _ _ _ _ | exact sm_mt3 _ _ _ _ _ _ _ _ | exact sm_mt4 _ _ _ _ _ _ _ _ | exact sm_mt5 _ _ _ _ _ _ _ _ | exact sm_mt9 _ _ _ _ _ _ _ _ | exact sm_mt10 _ _ _ _ _ _ _ _ | exact sm_mt11 _ _ _ _ _ _ _ _ | exact sm_mt18 _ _ _ _ _ _ _ _ | exact sm_mt19 _ _ _ _ _ _ _ _ | exact sm_mt20 _ _ _ _ _ _ _ _ _ | exact sm_mt26 _ _ _ _ _ _ _ _ _ | exact sm_mt32 _ _ _ _ _ _ _ _ | exact sm_mt33 _ _ _ _ _ _ _ _ | exact sm_mt34 _ _ _ _ _ _ _ _ | exact sm_mt35 _ _ _ _ _ _ _ _ | exact sm_mt37 _ _ _ _ _ _ _ _ | exact sm_mt38 _ _ _ _ _ _ _ _ | exact sm_mt39 _ _ _ _ _ _ _ _ | exact sm_mt40 _ _ _ _ _ _ _ _ | exact sm_mt41 _ _ _ _ _ _ _ _ | exact sm_mt42 _ _ _ _ _ _ _ _ | exact sm_mt43 _ _ _ _ _ _ _ _ | exact sm_mt44 _ _ _ _ _ _ _ _ | exact sm_mt45 _ _ _ _ _ _ _ _ | exact sm_mt46 _ _ _ _ _ _ _ _ | exact sm_mt47 _ _ _ _ _ _ _ _ | exact sm_mt48 _ _ _ _ _ _ _ _ | exact sm_mt49 _ _ _ _ _ _ _ _ | exact sm_mt50 _ _ _ _ _ _ _ _ | exact sm_mt51 _ _ _ _ _ _ _ _ | exact sm_mt52 _ _ _ _ _ _ _ _ | exact sm_mt53 _ _ _ _ _ _ _ _ | exact sm_mt54 _ _ _ _ _ _ _ _ | exact sm_mt55 _ _ _ _ _ _ _ _ | exact sm_mt56 _ _ _ _ _ _ _ _ | exact sm_mt57 _ _ _ _ _ _ _ _ | exact sm_mt58 _ _ _ _ _ _ _ _ | exact sm_mt62 _ _ _ _ _ _ _ _ | exact sm_mt63 _ _ _ _ _ _ _ _ | exact sm_mt64 _ _ _ _ _ _ _ _ | exact sm_mt65 _ _ _ _ _ _ _ _ | exact sm_mt66 _ _ _ _ _ _ _ _ | exact sm_mt67 _ _ _ _ _ _ _ _ | exact sm_mt68 _ _ _ _ _ _ _ _ | exact sm_mt69 _ _ _ _ _ _ _ _ | exact sm_mt70 _ _ _ _ _ _ _ _ | exact sm_mt71 _ _ _ _ _ _ _ _ | exact sm_mt72 _ _ _ _ _ _ _ _ | exact sm_mt6 _ _ _ _ _ _ _ _ _
end
theorem sm_run_mon (n : Nat) : ∀ {d k pc : Nat} {L : sm_L} {S : sm_S} {G : sm_G} {M : sm_M} {r : Option sm_V} {G' : sm_G} {M' : sm_M}, sm_run n d k pc L S G M = some (r, G', M') → sm_ge G G' := by
  induction n with
  | zero => intro d k pc L S G M r G' M' h; simp [sm_run] at h
  | succ n ih =>
    intro d k pc L S G M r G' M' h
    have hm : sm_Nm G (sm_nx k pc L S G M) := by
      unfold sm_nx
      generalize sm_ins k pc = op
      obtain ⟨tag, a, b, nx, z⟩ := op
      exact sm_dis_mon a b nx z L S G M tag
    rw [sm_run] at h
    generalize sm_nx k pc L S G M = N at h hm
    rcases N with _ | ⟨pc1, L1, S1, G1, M1⟩ | ⟨c, pc1, L1, S1, G1, M1⟩ | ⟨c, p1, p2, L1, S1⟩ | ⟨y, t, e, L1, S1⟩ | ⟨c, k', L0, pc1, L1, S1⟩ | ⟨c, r1⟩
    · simp [sm_F] at h
    · exact sm_ge.tr hm (ih h)
    · cases c
      · simp [sm_F] at h
      · exact sm_ge.tr hm (ih (by simpa [sm_F] using h))
    · cases c
      · exact ih (by simpa [sm_F] using h)
      · exact ih (by simpa [sm_F] using h)
    · exact ih h
    · cases c
      · simp [sm_F] at h
      · cases d with
        | zero => simp [sm_F] at h
        | succ d' =>
          simp only [sm_F, if_true] at h
          cases hr : sm_run n d' k' 0 L0 [] G M with
          | none => rw [hr] at h; simp at h
          | some q =>
            obtain ⟨r1, G1, M1⟩ := q
            rw [hr] at h
            exact sm_ge.tr (ih hr) (ih h)
    · cases c
      · simp [sm_F] at h
      · simp only [sm_F, if_true, Option.some.injEq, Prod.mk.injEq] at h
        obtain ⟨-, rfl, -⟩ := h
        exact sm_ge.rf
