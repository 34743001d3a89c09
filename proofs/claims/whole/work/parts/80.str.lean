/-! texts and System.arraycopy -/
theorem Met.ofWF {l : Launch} {y : MethodName} {ws ws' : List Cond} {rm : Room} {Pc : Array Value → State → Prop} {Qc : Array Value → State → Outcome → State → Prop} {mc ms : Nat} {free : Addr → Prop} {cc : ByteArray} {maxL : Nat} {ret : Option FieldType}
    (hy : plainFor y = true) (hw : ws = Cond.code y cc maxL ret :: ws')
    (body : ∀ p e s m args below meth c s₁, BodyLoose p l y (headSpec ws rm) cc maxL ret e s m args below meth c s₁ → c.maxLocals = maxL → Pc args s →
      W p l e (headSpec ws rm).room s m args below meth c s.heap [] 0 0 (MQ below Qc args s mc ms free) (entryFrame m args maxL)) : Met l y ws rm Pc Qc mc ms free := by
  refine MetFree.of_bodySF (code := cc) (maxLocals := maxL) (ret := ret) hy ?_ ?_
  · intro args s m h hn
    obtain ⟨meth, c, h1, h2, h3, h4, h5, h6, -, -⟩ := Cond.code_spec hn (atoms_spec (ws := ws) h _ (by rw [hw]; exact List.mem_cons_self))
    exact ⟨meth, c, h1, h2, h3, h4, h5, h6⟩
  · intro p e s m args below meth c s₁ B hml hP _
    have hh0 : s₁.heap = s.heap := by rw [B.state]; rfl
    obtain ⟨t, a1, o, b1, b2, b3⟩ := body p e s m args below meth c s₁ B hml hP s₁ hh0 (Stand.of_body B)
    exact ⟨t, o, a1, b1, b2, ⟨b3.1, b3.2⟩⟩
def jy_len : MethodName := ⟨"java/lang/String", "length", "()I"⟩
def jy_cod : MethodName := ⟨"java/lang/String", "coder", "()B"⟩
def jy_chr : MethodName := ⟨"java/lang/String", "charAt", "(I)C"⟩
def jy_lat : MethodName := ⟨"java/lang/String", "isLatin1", "()Z"⟩
def jy_lch : MethodName := ⟨"java/lang/StringLatin1", "charAt", "([BI)C"⟩
def jy_chk : MethodName := ⟨"java/lang/String", "checkIndex", "(II)V"⟩
def jy_pre : MethodName := ⟨"jdk/internal/util/Preconditions", "checkIndex", "(IILjava/util/function/BiFunction;)I"⟩
/-- a method of the JDK's that leaves the world as it is -/
def sj_Met (Z : sq_Z) (l : Launch) (y : MethodName) (cc : ByteArray) (ml : Nat) (rt : Option FieldType) (fr lo : Nat) (vs : List Value) (ad : Nat → Nat → Nat) (G : sm_G) (M : sm_M) (r : Option Value) : Prop :=
  Met l y (Cond.code y cc ml rt :: sm_ts) { frames := fr, cells := 0, slots := 0, locals := lo } (fun v U => v = vs.toArray ∧ sq_RZ Z ad G M U U.heap) (fun _ _ oc t => sq_RZ Z ad G M t t.heap ∧ oc = .returned r) 0 0 (fun q => Z.1.size ≤ q)
theorem sj_of {Z : sq_Z} {l : Launch} {y : MethodName} {cc : ByteArray} {ml : Nat} {rt : Option FieldType} {fr lo : Nat} {vs : List Value} {ad : Nat → Nat → Nat} {G : sm_G} {M : sm_M} {r : Option Value} (hy : plainFor y = true) (hlen : (lg_sl vs).length ≤ ml)
    (body : ∀ (p : Program) (e : Env) (R : Room) (s : State) (m : MethodId) (args : Array Value) (below : List Frame) (meth : Method) (c : Code) (ls : Array Slot), p.tables.exec = Jvm.exec → c.code = cc → c.maxLocals = ml → s.vm.findClass y.cls = some m.cls → (∀ w ∈ sm_ts, w.before args s = true) → meth.sig.returnType = rt → meth.locks = false → fr ≤ R.frames → lo ≤ R.locals → sq_RZ Z ad G M s s.heap → lv_has ls ml (lv_args 0 vs) →
      W p l e R s m args below meth c s.heap [] 0 0 (MQ below (fun _ _ oc t => sq_RZ Z ad G M t t.heap ∧ oc = .returned r) args s 0 0 (fun q => Z.1.size ≤ q)) (F0 m 0 ls [])) : sj_Met Z l y cc ml rt fr lo vs ad G M r := by
  refine Met.ofWF (cc := cc) (maxL := ml) (ret := rt) hy rfl ?_
  intro p e s m args below meth c s₁ B hml hv
  obtain ⟨rfl, hR⟩ := hv
  have hts0 := atoms_spec (ws := Cond.code y cc ml rt :: sm_ts) B.pre
  have hown : s.vm.findClass y.cls = some m.cls := findClass_of_methodNamed B.named
  rw [lg_entry_eq]
  exact body p e _ s m _ below meth c _ B.exec B.bytes hml hown (fun w hw => hts0 w (List.mem_cons_of_mem _ hw)) B.returns B.notSynchronized (Nat.le_refl _) (Nat.le_refl _) hR (lv_entry vs hlen)
theorem sj_blind (Z : sq_Z) (ad : Nat → Nat → Nat) (G : sm_G) (M : sm_M) (vs : List Value) : FrameBlind (fun v U => v = vs.toArray ∧ sq_RZ Z ad G M U U.heap) := by
  intro a U g mk h
  have hR : sq_R _ _ _ _ _ _ _ ad G M U U.heap := h.2
  exact ⟨h.1, sq_R_vm (U' := U.calling g mk a) hR (sq_K.moved (u := U) (U := U.calling g mk a) (Vm.Alike.refl U.vm) hR.2.2.2.2.2.2.1) (sq_O.same (u := U) (U := U.calling g mk a) rfl hR.2.2.2.2.2.2.2)⟩
section
variable {Z : sq_Z} {p : Program} {l : Launch} {e : Env} {R : Room} {s : State} {m : MethodId} {args : Array Value} {below : List Frame} {meth : Method} {c : Code} {ad : Nat → Nat → Nat} {G : sm_G} {M : sm_M} {H : Heap} {locs : List Loc} {cells slots : Nat} {ls : Array Slot} {pc : Nat} {cc : ByteArray} {Q : State → Prop} {rest : List Value}
theorem sj_move (hR : sq_RZ Z ad G M s H) {t : State} (ht : t.heap = H) (hW : s.WarmedH t.vm) : sq_RZ Z ad G M t t.heap := by
  have hR : sq_R _ _ _ _ _ _ _ ad G M s H := hR
  rw [ht]
  exact sq_R_vm (U' := t) hR (sq_K.moved hW.alike hR.2.2.2.2.2.2.1) (sq_O.warm hW hR.2.2.2.2.2.2.2)
theorem sj_preS (hR : sq_RZ Z ad G M s H) (vs : List Value) : PreS s H (fun v U => v = vs.toArray ∧ sq_RZ Z ad G M U U.heap) vs :=
  ⟨sj_blind Z ad G M vs, fun U hU hW => ⟨rfl, sj_move hR hU hW⟩⟩
/-- behind a call -/
theorem sj_back (hR : sq_RZ Z ad G M s H) (hlocs : ∀ q ∈ locs, Z.1.size ≤ q.base) {r : Option Value} {st : List Value}
    (hrun : va_Run p l e R s m args below meth c H locs cells slots 0 0 (F0 m pc ls st) rest (fun _ oc t => sq_RZ Z ad G M t t.heap ∧ oc = .returned r) (fun q => Z.1.size ≤ q))
    (kk : ∀ H1 locs1, sq_RZ Z ad G M s H1 → (∀ q ∈ locs1, Z.1.size ≤ q.base) → W p l e R s m args below meth c H1 locs1 cells slots Q (F0 m (pc + 3) ls (r.toList ++ rest))) : W p l e R s m args below meth c H locs cells slots Q (F0 m pc ls st) := by
  intro T hT X
  obtain ⟨v, st0, t, T', Ls, -, X', hL, eh, ev, ⟨hR1, hv⟩, hgo⟩ := hrun T hT X
  have hR : sq_R _ _ _ _ _ _ _ ad G M s H := hR
  have hR1 : sq_R _ _ _ _ _ _ _ ad G M t t.heap := hR1
  have hal : t.vm.Alike s.vm := by rw [← ev]; exact X'.warmed.alike.symm
  have hRs : sq_R _ _ _ _ _ _ _ ad G M s t.heap := sq_R_vm (U' := s) hR1 (sq_K.moved hal hR1.2.2.2.2.2.2.1) hR.2.2.2.2.2.2.2
  have hv := Outcome.returned.inj hv
  subst hv
  obtain ⟨tt, a1, b1⟩ := kk t.heap (locs ++ Ls) hRs (fun q hq => by
    rcases List.mem_append.mp hq with h | h
    · exact hlocs q h
    · exact hL q h) T' eh X'
  exact ⟨tt, hgo tt a1, b1⟩
/-- a static read -/
theorem sj_gets (hx : p.tables.exec = Jvm.exec) (hb : c.code = cc) (hR : sq_RZ Z ad G M s H) {own C n d : String} {index : Nat} {v : Value} (hZ : va_Z C n d v (fun q => Z.1.size ≤ q) s Z.1) (hown : s.vm.findClass own = some m.cls) (hlink : (Cond.fieldLink own index C n d).before args s = true) (hdg : decode cc pc = .ok (.getstatic index, 3))
    (kk : W p l e R s m args below meth c H locs cells slots Q (F0 m (pc + 3) ls (v :: rest))) : W p l e R s m args below meth c H locs cells slots Q (F0 m pc ls rest) := by
  obtain ⟨cf, kf, fi, f, a1, cell, g1, g2, g3, g4, g5, g6, g7, g8⟩ := hZ
  have hR : sq_R _ _ _ _ _ _ _ ad G M s H := hR
  have hlt : a1 < Z.1.size := Nat.not_le.mp g8
  exact W.gets hx hb hown hlink g1 g2 g3 g4 (by rw [hR.1.2 a1 hlt]; exact g5) (fun q => by rw [q] at g6; cases g6) g7 rfl hdg kk
/-- a field of a text read -/
theorem sj_getf (hx : p.tables.exec = Jvm.exec) (hb : c.code = cc) (hR : sq_RZ Z ad G M s H) {own C n d : String} {index q : Nat} {v : Value} (hE : va_OF C n d v q (fun q => Z.1.size ≤ q) s Z.1) (hown : s.vm.findClass own = some m.cls) (hlink : (Cond.fieldLink own index C n d).before args s = true) (hdg : decode cc pc = .ok (.getfield index, 3))
    (kk : W p l e R s m args below meth c H locs cells slots Q (F0 m (pc + 3) ls (v :: rest))) : W p l e R s m args below meth c H locs cells slots Q (F0 m pc ls (.ref q :: rest)) := by
  obtain ⟨cf, k, fi, f, cell, h1, h2, h3, h4, h5, h6⟩ := hE
  have hR : sq_R _ _ _ _ _ _ _ ad G M s H := hR
  have hlt : q < Z.1.size := Nat.not_le.mp h6
  exact W.getf hx hb hown hlink h1 h2 (by rw [hR.1.2 q hlt]; exact h3) h4 (v := v) h5 rfl rfl hdg kk
theorem sj_JS (hR : sq_RZ Z ad G M s H) : sq_JS s Z.1 := by
  have hR : sq_R _ _ _ _ _ _ _ ad G M s H := hR
  exact hR.2.2.2.2.2.2.2.2.2.2.2.2.2
theorem sj_S (hR : sq_RZ Z ad G M s H) {i : Nat} (hi : i < 3) : (∃ cell : Cell, H[Z.2.1 (5 + i)]? = some cell ∧ cell.vm.isStatics = false ∧ s.vm.findClass "java/lang/String" = some cell.cls) ∧ va_OF "java/lang/String" "coder" "B" (.int 0) (Z.2.1 (5 + i)) (fun q => Z.1.size ≤ q) s Z.1 ∧ va_OF "java/lang/String" "value" "[B" (.ref (Z.2.2.2.2.1 i)) (Z.2.1 (5 + i)) (fun q => Z.1.size ≤ q) s Z.1 ∧
    ∃ cell : Cell, H[Z.2.2.2.2.1 i]? = some cell ∧ s.isArrayOf cell .byte ∧ cell.vm ≠ .unknown ∧ sm_ln (5 + i) ≤ cell.slots.size ∧ cell.slots.size.toInt32 = Int32.ofNat (sm_ln (5 + i)) ∧ ∀ j : Nat, j < sm_ln (5 + i) → cell.slots[j]? = some (.int (sm_sc (5 + i) j)) := by
  have hR : sq_R _ _ _ _ _ _ _ ad G M s H := hR
  obtain ⟨⟨c1, a1, a2, a3, a4⟩, b, c, ⟨c2, d1, d2, d3, d4, d5, d6, d7⟩⟩ := hR.2.2.2.2.2.2.2.2.2.2.1.1 i hi
  have e1 : ([24, 3, 5] : List Nat).getD i 0 = sm_ln (5 + i) := by
    rcases (show i = 0 ∨ i = 1 ∨ i = 2 by omega) with rfl | rfl | rfl <;> rfl
  have e2 : ∀ j, (([sm_tx5, sm_tx6, sm_tx7] : List (List Int32)).getD i []).getD j 0 = sm_sc (5 + i) j := by
    intro j
    rcases (show i = 0 ∨ i = 1 ∨ i = 2 by omega) with rfl | rfl | rfl <;> rfl
  rw [e1] at d4 d5 d6
  refine ⟨⟨c1, ?_, a2, a3⟩, b, c, c2, ?_, d2, d3, d4, d5, fun j hj => ?_⟩
  · rw [hR.1.2 _ (Nat.not_le.mp a4)]; exact a1
  · rw [hR.1.2 _ (Nat.not_le.mp d7)]; exact d1
  · exact (d6 j hj).trans (congrArg (fun x => some (Value.int x)) (e2 j))
end
section
variable {Z : sq_Z} {l : Launch} {ad : Nat → Nat → Nat} {G : sm_G} {M : sm_M}
theorem jd_cod_0 : decode prog_17_method_152_code 0 = .ok (.getstatic 38, 3) := by decide +kernel
theorem jd_cod_3 : decode prog_17_method_152_code 3 = .ok (.ifCond .eq 10, 3) := by decide +kernel
theorem jd_cod_6 : decode prog_17_method_152_code 6 = .ok (.aload_n 0, 1) := by decide +kernel
theorem jd_cod_7 : decode prog_17_method_152_code 7 = .ok (.getfield 15, 3) := by decide +kernel
theorem jd_cod_10 : decode prog_17_method_152_code 10 = .ok (.goto 4, 3) := by decide +kernel
theorem jd_cod_14 : decode prog_17_method_152_code 14 = .ok (.ireturn, 1) := by decide +kernel
theorem jd_lat_0 : decode prog_17_method_154_code 0 = .ok (.getstatic 38, 3) := by decide +kernel
theorem jd_lat_3 : decode prog_17_method_154_code 3 = .ok (.ifCond .eq 14, 3) := by decide +kernel
theorem jd_lat_6 : decode prog_17_method_154_code 6 = .ok (.aload_n 0, 1) := by decide +kernel
theorem jd_lat_7 : decode prog_17_method_154_code 7 = .ok (.getfield 15, 3) := by decide +kernel
theorem jd_lat_10 : decode prog_17_method_154_code 10 = .ok (.ifCond .ne 7, 3) := by decide +kernel
theorem jd_lat_13 : decode prog_17_method_154_code 13 = .ok (.iconst 1, 1) := by decide +kernel
theorem jd_lat_14 : decode prog_17_method_154_code 14 = .ok (.goto 4, 3) := by decide +kernel
theorem jd_lat_18 : decode prog_17_method_154_code 18 = .ok (.ireturn, 1) := by decide +kernel
theorem jd_pre_0 : decode prog_21_method_11_code 0 = .ok (.iload_n 0, 1) := by decide +kernel
theorem jd_pre_1 : decode prog_21_method_11_code 1 = .ok (.ifCond .lt 8, 3) := by decide +kernel
theorem jd_pre_4 : decode prog_21_method_11_code 4 = .ok (.iload_n 0, 1) := by decide +kernel
theorem jd_pre_5 : decode prog_21_method_11_code 5 = .ok (.iload_n 1, 1) := by decide +kernel
theorem jd_pre_6 : decode prog_21_method_11_code 6 = .ok (.if_icmp .lt 10, 3) := by decide +kernel
theorem jd_pre_16 : decode prog_21_method_11_code 16 = .ok (.iload_n 0, 1) := by decide +kernel
theorem jd_pre_17 : decode prog_21_method_11_code 17 = .ok (.ireturn, 1) := by decide +kernel
theorem jd_chk_0 : decode prog_17_method_155_code 0 = .ok (.iload_n 0, 1) := by decide +kernel
theorem jd_chk_1 : decode prog_17_method_155_code 1 = .ok (.iload_n 1, 1) := by decide +kernel
theorem jd_chk_2 : decode prog_17_method_155_code 2 = .ok (.getstatic 1053, 3) := by decide +kernel
theorem jd_chk_5 : decode prog_17_method_155_code 5 = .ok (.invokestatic 1059, 3) := by decide +kernel
theorem jd_chk_8 : decode prog_17_method_155_code 8 = .ok (.pop, 1) := by decide +kernel
theorem jd_chk_9 : decode prog_17_method_155_code 9 = .ok (.return_, 1) := by decide +kernel
theorem jd_lch_0 : decode prog_18_method_2_code 0 = .ok (.iload_n 1, 1) := by decide +kernel
theorem jd_lch_1 : decode prog_18_method_2_code 1 = .ok (.aload_n 0, 1) := by decide +kernel
theorem jd_lch_2 : decode prog_18_method_2_code 2 = .ok (.arraylength, 1) := by decide +kernel
theorem jd_lch_3 : decode prog_18_method_2_code 3 = .ok (.invokestatic 9, 3) := by decide +kernel
theorem jd_lch_6 : decode prog_18_method_2_code 6 = .ok (.aload_n 0, 1) := by decide +kernel
theorem jd_lch_7 : decode prog_18_method_2_code 7 = .ok (.iload_n 1, 1) := by decide +kernel
theorem jd_lch_8 : decode prog_18_method_2_code 8 = .ok (.baload, 1) := by decide +kernel
theorem jd_lch_9 : decode prog_18_method_2_code 9 = .ok (.sipush 255, 3) := by decide +kernel
theorem jd_lch_12 : decode prog_18_method_2_code 12 = .ok (.iand, 1) := by decide +kernel
theorem jd_lch_13 : decode prog_18_method_2_code 13 = .ok (.i2c, 1) := by decide +kernel
theorem jd_lch_14 : decode prog_18_method_2_code 14 = .ok (.ireturn, 1) := by decide +kernel
theorem jd_chr_0 : decode prog_17_method_56_code 0 = .ok (.aload_n 0, 1) := by decide +kernel
theorem jd_chr_1 : decode prog_17_method_56_code 1 = .ok (.invokevirtual 492, 3) := by decide +kernel
theorem jd_chr_4 : decode prog_17_method_56_code 4 = .ok (.ifCond .eq 12, 3) := by decide +kernel
theorem jd_chr_7 : decode prog_17_method_56_code 7 = .ok (.aload_n 0, 1) := by decide +kernel
theorem jd_chr_8 : decode prog_17_method_56_code 8 = .ok (.getfield 9, 3) := by decide +kernel
theorem jd_chr_11 : decode prog_17_method_56_code 11 = .ok (.iload_n 1, 1) := by decide +kernel
theorem jd_chr_12 : decode prog_17_method_56_code 12 = .ok (.invokestatic 495, 3) := by decide +kernel
theorem jd_chr_15 : decode prog_17_method_56_code 15 = .ok (.ireturn, 1) := by decide +kernel
theorem jd_len_0 : decode prog_17_method_54_code 0 = .ok (.aload_n 0, 1) := by decide +kernel
theorem jd_len_1 : decode prog_17_method_54_code 1 = .ok (.getfield 9, 3) := by decide +kernel
theorem jd_len_4 : decode prog_17_method_54_code 4 = .ok (.arraylength, 1) := by decide +kernel
theorem jd_len_5 : decode prog_17_method_54_code 5 = .ok (.aload_n 0, 1) := by decide +kernel
theorem jd_len_6 : decode prog_17_method_54_code 6 = .ok (.invokevirtual 335, 3) := by decide +kernel
theorem jd_len_9 : decode prog_17_method_54_code 9 = .ok (.ishr, 1) := by decide +kernel
theorem jd_len_10 : decode prog_17_method_54_code 10 = .ok (.ireturn, 1) := by decide +kernel
theorem jw_1 : (sm_w 3160 (.fieldLink "java/lang/String" 38 "java/lang/String" "COMPACT_STRINGS" "Z") && sm_w 8090 (.fieldLink "java/lang/String" 15 "java/lang/String" "coder" "B") && sm_w 8091 (.fieldLink "java/lang/String" 9 "java/lang/String" "value" "[B") && sm_w 3168 (.fieldLink "java/lang/String" 1053 "jdk/internal/util/Preconditions" "SIOOBE_FORMATTER" "Ljava/util/function/BiFunction;")) = true := by decide +kernel
theorem jw_2 : (sm_w 3213 (.methodLink "java/lang/String" 335 jy_cod) && sm_w 3214 (.instanceMethod jy_cod) && sm_w 3215 (.selects "java/lang/String" jy_cod jy_cod) && sm_w 3216 (.code jy_cod prog_17_method_152_code 1 (some .byte))) = true := by decide +kernel
theorem jw_3 : (sm_w 3156 (.methodLink "java/lang/String" 492 jy_lat) && sm_w 3157 (.instanceMethod jy_lat) && sm_w 3158 (.selects "java/lang/String" jy_lat jy_lat) && sm_w 3159 (.code jy_lat prog_17_method_154_code 1 (some .boolean))) = true := by decide +kernel
theorem jw_4 : (sm_w 3162 (.methodLink "java/lang/String" 495 jy_lch) && sm_w 3163 (.static jy_lch) && sm_w 3164 (.code jy_lch prog_18_method_2_code 2 (some .char)) && sm_w 3165 (.methodLink "java/lang/StringLatin1" 9 jy_chk) && sm_w 3166 (.static jy_chk) && sm_w 3167 (.code jy_chk prog_17_method_155_code 2 none)) = true := by decide +kernel
theorem jw_5 : (sm_w 3170 (.methodLink "java/lang/String" 1059 jy_pre) && sm_w 3171 (.static jy_pre) && sm_w 3172 (.code jy_pre prog_21_method_11_code 3 (some .int))) = true := by decide +kernel
theorem jw_6 : (sm_w 3210 (.instanceMethod jy_len) && sm_w 3211 (.selects "java/lang/String" jy_len jy_len) && sm_w 3212 (.code jy_len prog_17_method_54_code 1 (some .int)) && sm_w 3153 (.instanceMethod jy_chr) && sm_w 3154 (.selects "java/lang/String" jy_chr jy_chr) && sm_w 3155 (.code jy_chr prog_17_method_56_code 2 (some .char)) && sm_w 1015 (.initialized "java/lang/String") && sm_w 1016 (.initialized "java/lang/StringLatin1") && sm_w 1017 (.initialized "jdk/internal/util/Preconditions")) = true := by decide +kernel
theorem jw_7 : (sm_w 5148 (.static arraycopyName) && sm_w 5149 (.native arraycopyName) && sm_w 1020 (.initialized "java/lang/System")) = true := by decide +kernel
theorem sj_gi {y : MethodName} {cc : ByteArray} {ml : Nat} {rt : Option FieldType} (h : Cond.code y cc ml rt ∈ sm_ts) : GoodIn sm_ts (Cond.code y cc ml rt :: sm_ts) := by
  intro w hw
  rcases List.mem_cons.mp hw with rfl | hw
  · exact ⟨h, Or.inl rfl⟩
  · exact ⟨hw, good_of_word (List.mem_filter.mp hw).2⟩
theorem sj_cod {i : Nat} (hi : i < 3) : sj_Met Z l jy_cod prog_17_method_152_code 1 (some .byte) 0 0 [.ref (Z.2.1 (5 + i))] ad G M (some (.int 0)) := by
  refine sj_of (by decide +kernel) (Nat.le_refl _) ?_
  intro p e R s m args below meth c ls hx hb hml hown hts hret hlk hfr hlo hR hl
  have hw := jw_1
  simp only [Bool.and_eq_true] at hw
  obtain ⟨-, hc, -, -⟩ := sj_S hR hi
  refine sj_gets hx hb hR (sj_JS hR).1 hown (hts _ (sm_w_ts hw.1.1.1)) jd_cod_0 ?_
  refine lv_if_eq (off := 10) (tgt := 13) hx hb jd_cod_3 rfl (fun h => absurd h (by decide)) (fun _ => ?_)
  refine lv_aload_n (k := 0) (i := 0) hx hb jd_cod_6 rfl (lv_at hl 0 rfl) ?_
  refine sj_getf hx hb hR hc hown (hts _ (sm_w_ts hw.1.1.2)) jd_cod_7 ?_
  refine lv_goto (off := 4) (tgt := 14) hx hb jd_cod_10 rfl ?_
  exact W.zret (ty := .byte) hx hb hret rfl (fun t ht hW => ⟨sj_move hR ht hW, rfl⟩) (fun q hq => absurd hq List.not_mem_nil) jd_cod_14 hlk
theorem sj_lat {i : Nat} (hi : i < 3) : sj_Met Z l jy_lat prog_17_method_154_code 1 (some .boolean) 0 0 [.ref (Z.2.1 (5 + i))] ad G M (some (.int 1)) := by
  refine sj_of (by decide +kernel) (Nat.le_refl _) ?_
  intro p e R s m args below meth c ls hx hb hml hown hts hret hlk hfr hlo hR hl
  have hw := jw_1
  simp only [Bool.and_eq_true] at hw
  obtain ⟨-, hc, -, -⟩ := sj_S hR hi
  refine sj_gets hx hb hR (sj_JS hR).1 hown (hts _ (sm_w_ts hw.1.1.1)) jd_lat_0 ?_
  refine lv_if_eq (off := 14) (tgt := 17) hx hb jd_lat_3 rfl (fun h => absurd h (by decide)) (fun _ => ?_)
  refine lv_aload_n (k := 0) (i := 0) hx hb jd_lat_6 rfl (lv_at hl 0 rfl) ?_
  refine sj_getf hx hb hR hc hown (hts _ (sm_w_ts hw.1.1.2)) jd_lat_7 ?_
  refine lv_if_ne (off := 7) (tgt := 17) hx hb jd_lat_10 rfl (fun h => absurd rfl h) (fun _ => ?_)
  refine lv_iconst (n := 1) (v := 1) hx hb jd_lat_13 (by decide) ?_
  refine lv_goto (off := 4) (tgt := 18) hx hb jd_lat_14 rfl ?_
  exact W.zret (ty := .boolean) hx hb hret rfl (fun t ht hW => ⟨sj_move hR ht hW, rfl⟩) (fun q hq => absurd hq List.not_mem_nil) jd_lat_18 hlk
theorem sj_pre {j n : Int32} (h0 : ¬ j < 0) (h1 : j < n) {v : Value} (hv : v = .null ∨ ∃ a, v = .ref a) : sj_Met Z l jy_pre prog_21_method_11_code 3 (some .int) 0 0 [.int j, .int n, v] ad G M (some (.int j)) := by
  refine sj_of (by decide +kernel) (by rcases hv with rfl | ⟨a, rfl⟩ <;> exact Nat.le_refl _) ?_
  intro p e R s m args below meth c ls hx hb hml hown hts hret hlk hfr hlo hR hl
  refine lv_iload_n (k := 0) (i := 0) hx hb jd_pre_0 rfl (lv_at hl 0 rfl) ?_
  refine lv_if_lt (off := 8) (tgt := 9) hx hb jd_pre_1 rfl (fun h => absurd h h0) (fun _ => ?_)
  refine lv_iload_n (k := 0) (i := 0) hx hb jd_pre_4 rfl (lv_at hl 0 rfl) ?_
  refine lv_iload_n (k := 1) (i := 1) hx hb jd_pre_5 rfl (lv_at hl 1 rfl) ?_
  refine lv_icmp_lt (off := 10) (tgt := 16) hx hb jd_pre_6 rfl (fun _ => ?_) (fun h => absurd h1 h)
  refine lv_iload_n (k := 0) (i := 0) hx hb jd_pre_16 rfl (lv_at hl 0 rfl) ?_
  exact W.iret hx hb hret (fun t ht hW => ⟨sj_move hR ht hW, rfl⟩) (fun q hq => absurd hq List.not_mem_nil) jd_pre_17 hlk
theorem sj_chk {j n : Int32} (h0 : ¬ j < 0) (h1 : j < n) : sj_Met Z l jy_chk prog_17_method_155_code 2 none 1 30 [.int j, .int n] ad G M none := by
  refine sj_of (by decide +kernel) (Nat.le_refl _) ?_
  intro p e R s m args below meth c ls hx hb hml hown hts hret hlk hfr hlo hR hl
  have hw := jw_1
  have hw5 := jw_5
  have hw6 := jw_6
  simp only [Bool.and_eq_true] at hw hw5 hw6
  obtain ⟨-, v, hv, hZ⟩ := sj_JS hR
  have hfix : CallFix p m c prog_17_method_155_code 2 s args sm_ts "java/lang/String" := ⟨hx, hb, hml, hown, hts⟩
  refine lv_iload_n (k := 0) (i := 0) hx hb jd_chk_0 rfl (lv_at hl 0 rfl) ?_
  refine lv_iload_n (k := 1) (i := 1) hx hb jd_chk_1 rfl (lv_at hl 1 rfl) ?_
  refine sj_gets hx hb hR hZ hown (hts _ (sm_w_ts hw.2)) jd_chk_2 ?_
  refine sj_back (rest := []) hR (fun q hq => absurd hq List.not_mem_nil) (va_runS hfix (sj_pre (Z := Z) (ad := ad) (G := G) (M := M) h0 h1 hv) ⟨callB_of 3 hts (sj_gi (sm_w_ts hw5.2)) rfl rfl rfl (hts _ (sm_w_ts hw6.2)) (hts _ (sm_w_ts hw5.1.1)) ⟨by decide +kernel, by decide +kernel, by decide +kernel⟩ ⟨by show 0 + 1 ≤ R.frames; omega, by show 8 + (3 + 11) + 0 ≤ R.locals; omega⟩, hts _ (sm_w_ts hw5.1.2)⟩ (sj_preS hR _) rfl rfl hl.1 rfl (lv_room (Nat.zero_le _)) jd_chk_5 ⟨Nat.zero_le _, Nat.zero_le _⟩) (fun H1 locs1 hR1 hl1 => ?_)
  refine lv_pop hx hb jd_chk_8 rfl ?_
  exact W.vret hx hb hret (fun t ht hW => ⟨sj_move hR1 ht hW, rfl⟩) hl1 jd_chk_9 hlk
theorem sj_lt {x : Int32} {n : Nat} (h : sm_in x n = true) (hn : n < 100) : ¬ x < 0 ∧ x < Int32.ofNat n := by
  have h := sm_in_iff.mp h
  have h0 : ¬ x < 0 := fun q => h (Or.inl q)
  have h1 : x.toNatClampNeg < n := Nat.not_le.mp (fun q => h (Or.inr q))
  have hz0 : (0 : Int) ≤ x.toInt := by
    have := Int32.not_lt.mp h0
    simpa using Int32.le_iff_toInt_le.mp this
  have h2 : x.toInt.toNat < n := h1
  refine ⟨h0, ?_⟩
  have e : ∀ n, n < 100 → (Int32.ofNat n).toInt = (n : Int) := by decide +kernel
  rw [Int32.lt_iff_toInt_lt, e n hn]
  omega
theorem sj_ln {i : Nat} (hi : i < 3) : sm_ln (5 + i) < 100 := by
  rcases (show i = 0 ∨ i = 1 ∨ i = 2 by omega) with rfl | rfl | rfl <;> decide
theorem sj_char : ∀ i, i < 3 → ∀ j, j < sm_ln (5 + i) → ((sm_sc (5 + i) j &&& 255).toUInt32 % 65536).toInt32 = sm_sc (5 + i) j ∧ narrow .char (.int (sm_sc (5 + i) j)) = .int (sm_sc (5 + i) j) := by decide +kernel
theorem sj_lch {i : Nat} (hi : i < 3) {j : Int32} (hj : sm_in j (sm_ln (5 + i)) = true) : sj_Met Z l jy_lch prog_18_method_2_code 2 (some .char) 2 60 [.ref (Z.2.2.2.2.1 i), .int j] ad G M (some (.int (sm_sc (5 + i) j.toNatClampNeg))) := by
  refine sj_of (by decide +kernel) (Nat.le_refl _) ?_
  intro p e R s m args below meth c ls hx hb hml hown hts hret hlk hfr hlo hR hl
  have hw4 := jw_4
  have hw6 := jw_6
  simp only [Bool.and_eq_true] at hw4 hw6
  obtain ⟨-, -, -, cell, d1, d2, d3, d4, d5, d6⟩ := sj_S hR hi
  obtain ⟨j0, j1⟩ := sj_lt hj (sj_ln hi)
  have jc := sq_clamp hj
  have hfix : CallFix p m c prog_18_method_2_code 2 s args sm_ts "java/lang/StringLatin1" := ⟨hx, hb, hml, hown, hts⟩
  refine lv_iload_n (k := 1) (i := 1) hx hb jd_lch_0 rfl (lv_at hl 1 rfl) ?_
  refine lv_aload_n (k := 0) (i := 0) hx hb jd_lch_1 rfl (lv_at hl 0 rfl) ?_
  refine W.alen hx hb d1 d2 d5 rfl rfl jd_lch_2 ?_
  refine sj_back (rest := []) hR (fun q hq => absurd hq List.not_mem_nil) (va_runS hfix (sj_chk (Z := Z) (ad := ad) (G := G) (M := M) j0 j1) ⟨callB_of 2 hts (sj_gi (sm_w_ts hw4.2)) rfl rfl rfl (hts _ (sm_w_ts hw6.1.1.2)) (hts _ (sm_w_ts hw4.1.1.2)) ⟨by decide +kernel, by decide +kernel, by decide +kernel⟩ ⟨by show 1 + 1 ≤ R.frames; omega, by show 8 + (2 + 11) + 30 ≤ R.locals; omega⟩, hts _ (sm_w_ts hw4.1.2)⟩ (sj_preS hR _) rfl rfl hl.1 rfl (lv_room (Nat.zero_le _)) jd_lch_3 ⟨Nat.zero_le _, Nat.zero_le _⟩) (fun H1 locs1 hR1 hl1 => ?_)
  obtain ⟨-, -, -, cell1, q1, q2, q3, q4, q5, q6⟩ := sj_S hR1 hi
  obtain ⟨k1, k2⟩ := sj_char i hi _ jc
  refine lv_aload_n (k := 0) (i := 0) hx hb jd_lch_6 rfl (lv_at hl 0 rfl) ?_
  refine lv_iload_n (k := 1) (i := 1) hx hb jd_lch_7 rfl (lv_at hl 1 rfl) ?_
  refine W.bald (v := .int (sm_sc (5 + i) j.toNatClampNeg)) hx hb q1 q2 q3 (fun q => by rcases q with q | q; exact j0 q; omega) (q6 _ jc) rfl rfl jd_lch_8 ?_
  refine lv_sipush (n := 255) (v := 255) hx hb jd_lch_9 (by decide) ?_
  refine lv_iand hx hb jd_lch_12 ?_
  refine lv_i2c hx hb jd_lch_13 k1 ?_
  exact W.zret (ty := .char) hx hb hret k2 (fun t ht hW => ⟨sj_move hR1 ht hW, rfl⟩) hl1 jd_lch_14 hlk
theorem sj_chr {i : Nat} (hi : i < 3) {j : Int32} (hj : sm_in j (sm_ln (5 + i)) = true) : sj_Met Z l jy_chr prog_17_method_56_code 2 (some .char) 3 90 [.ref (Z.2.1 (5 + i)), .int j] ad G M (some (.int (sm_sc (5 + i) j.toNatClampNeg))) := by
  refine sj_of (by decide +kernel) (Nat.le_refl _) ?_
  intro p e R s m args below meth c ls hx hb hml hown hts hret hlk hfr hlo hR hl
  have hw := jw_1
  have hw3 := jw_3
  have hw4 := jw_4
  have hw6 := jw_6
  simp only [Bool.and_eq_true] at hw hw3 hw4 hw6
  obtain ⟨hrc, -, hv, -⟩ := sj_S hR hi
  have jc := sq_clamp hj
  have hfix : CallFix p m c prog_17_method_56_code 2 s args sm_ts "java/lang/String" := ⟨hx, hb, hml, hown, hts⟩
  refine lv_aload_n (k := 0) (i := 0) hx hb jd_chr_0 rfl (lv_at hl 0 rfl) ?_
  refine sj_back (rest := []) hR (fun q hq => absurd hq List.not_mem_nil) (va_runV (As := []) hfix (sj_lat (Z := Z) (ad := ad) (G := G) (M := M) hi) ⟨callB_of 0 hts (sj_gi (sm_w_ts hw3.2)) rfl rfl rfl (hts _ (sm_w_ts hw6.1.1.2)) (hts _ (sm_w_ts hw3.1.1.1)) ⟨by decide +kernel, by decide +kernel, by decide +kernel⟩ ⟨by show 0 + 1 ≤ R.frames; omega, by show 8 + (1 + 11) + 0 ≤ R.locals; omega⟩, hts _ (sm_w_ts hw3.1.1.2), hts _ (sm_w_ts hw3.1.2)⟩ ⟨sj_blind Z ad G M _, hrc, (sj_preS hR [.ref (Z.2.1 (5 + i))]).2⟩ rfl rfl hl.1 rfl (lv_room (Nat.zero_le _)) jd_chr_1 ⟨Nat.zero_le _, Nat.zero_le _⟩) (fun H1 locs1 hR1 hl1 => ?_)
  refine lv_if_eq (off := 12) (tgt := 16) hx hb jd_chr_4 rfl (fun h => absurd h (by decide)) (fun _ => ?_)
  refine lv_aload_n (k := 0) (i := 0) hx hb jd_chr_7 rfl (lv_at hl 0 rfl) ?_
  refine sj_getf hx hb hR1 hv hown (hts _ (sm_w_ts hw.1.2)) jd_chr_8 ?_
  refine lv_iload_n (k := 1) (i := 1) hx hb jd_chr_11 rfl (lv_at hl 1 rfl) ?_
  refine sj_back (rest := []) hR1 hl1 (va_runS hfix (sj_lch (Z := Z) (ad := ad) (G := G) (M := M) hi hj) ⟨callB_of 2 hts (sj_gi (sm_w_ts hw4.1.1.1.2)) rfl rfl rfl (hts _ (sm_w_ts hw6.1.2)) (hts _ (sm_w_ts hw4.1.1.1.1.1)) ⟨by decide +kernel, by decide +kernel, by decide +kernel⟩ ⟨by show 2 + 1 ≤ R.frames; omega, by show 8 + (2 + 11) + 60 ≤ R.locals; omega⟩, hts _ (sm_w_ts hw4.1.1.1.1.2)⟩ (sj_preS hR1 _) rfl rfl hl.1 rfl (lv_room (Nat.zero_le _)) jd_chr_12 ⟨Nat.zero_le _, Nat.zero_le _⟩) (fun H2 locs2 hR2 hl2 => ?_)
  exact W.zret (ty := .char) hx hb hret (sj_char i hi _ jc).2 (fun t ht hW => ⟨sj_move hR2 ht hW, rfl⟩) hl2 jd_chr_15 hlk
theorem sj_len {i : Nat} (hi : i < 3) : sj_Met Z l jy_len prog_17_method_54_code 1 (some .int) 1 30 [.ref (Z.2.1 (5 + i))] ad G M (some (.int (Int32.ofNat (sm_ln (5 + i))))) := by
  refine sj_of (by decide +kernel) (Nat.le_refl _) ?_
  intro p e R s m args below meth c ls hx hb hml hown hts hret hlk hfr hlo hR hl
  have hw := jw_1
  have hw2 := jw_2
  have hw6 := jw_6
  simp only [Bool.and_eq_true] at hw hw2 hw6
  obtain ⟨hrc, -, hv, cell, d1, d2, d3, d4, d5, d6⟩ := sj_S hR hi
  have hfix : CallFix p m c prog_17_method_54_code 1 s args sm_ts "java/lang/String" := ⟨hx, hb, hml, hown, hts⟩
  refine lv_aload_n (k := 0) (i := 0) hx hb jd_len_0 rfl (lv_at hl 0 rfl) ?_
  refine sj_getf hx hb hR hv hown (hts _ (sm_w_ts hw.1.2)) jd_len_1 ?_
  refine W.alen hx hb d1 d2 d5 rfl rfl jd_len_4 ?_
  refine lv_aload_n (k := 0) (i := 0) hx hb jd_len_5 rfl (lv_at hl 0 rfl) ?_
  refine sj_back (rest := [.int (Int32.ofNat (sm_ln (5 + i)))]) hR (fun q hq => absurd hq List.not_mem_nil) (va_runV (As := []) hfix (sj_cod (Z := Z) (ad := ad) (G := G) (M := M) hi) ⟨callB_of 0 hts (sj_gi (sm_w_ts hw2.2)) rfl rfl rfl (hts _ (sm_w_ts hw6.1.1.2)) (hts _ (sm_w_ts hw2.1.1.1)) ⟨by decide +kernel, by decide +kernel, by decide +kernel⟩ ⟨by show 0 + 1 ≤ R.frames; omega, by show 8 + (1 + 11) + 0 ≤ R.locals; omega⟩, hts _ (sm_w_ts hw2.1.1.2), hts _ (sm_w_ts hw2.1.2)⟩ ⟨sj_blind Z ad G M _, hrc, (sj_preS hR [.ref (Z.2.1 (5 + i))]).2⟩ rfl rfl hl.1 rfl (lv_room (Nat.le_of_ble_eq_true rfl)) jd_len_6 ⟨Nat.zero_le _, Nat.zero_le _⟩) (fun H1 locs1 hR1 hl1 => ?_)
  refine lv_ishr hx hb jd_len_9 ?_
  have e : Int32.ofNat (sm_ln (5 + i)) >>> ((0 : Int32) &&& 31) = Int32.ofNat (sm_ln (5 + i)) := by
    rcases (show i = 0 ∨ i = 1 ∨ i = 2 by omega) with rfl | rfl | rfl <;> decide
  rw [e]
  exact W.iret hx hb hret (fun t ht hW => ⟨sj_move hR1 ht hW, rfl⟩) hl1 jd_len_10 hlk
end
section
variable {Z : sq_Z} {p : Program} {l : Launch} {e : Env} {R : Room} {s : State} {m : MethodId} {args : Array Value} {below : List Frame} {meth : Method} {c : Code} {k d : Nat} {ad : Nat → Nat → Nat} {G : sm_G} {M : sm_M} {H : Heap} {locs : List Loc} {cells slots : Nat} {ls : Array Slot} {pc : Nat} {L : sm_L} {S : sm_S}
theorem sj_fam {f i : Nat} (h : sq_ok G (some (f, i))) (hf : sm_fc f = 99) : ∃ q, q < 3 ∧ f = 5 + q ∧ i = 0 := by
  have h10 := sm_fc99 hf
  rcases h with ⟨h8, rfl⟩ | ⟨h1, -⟩
  · have : ∀ f, f < 8 → sm_fc f = 99 → 5 ≤ f := by decide
    have := this f h8 hf
    exact ⟨f - 5, by omega, by omega, rfl⟩
  · omega
theorem sx_strlen (hC : sq_C p R s m args meth c k d) (hX : sq_XZ Z ad G M s H k L S ls locs) (hk : k < 276) {a b : Nat} {z : Int32} {idx : Nat} (hi : idx < 2048) (hl : sm_ll (sm_oc k * 2048 + idx) ≠ 0) (hd : decode (sm_mb k) pc = .ok (.invokevirtual idx, 3)) : sq_N Z p l e R s m args below meth c k d ad G M H locs cells slots ls pc S (sm_t62 a b (pc + 3) z L S G M) := by
  obtain ⟨hx, hb, hml, hown, hts, hini, hfr, hlo⟩ := hC
  rcases S with _ | ⟨x | x | _ | ⟨f, i⟩, S⟩
  all_goals try trivial
  intro hck
  rw [Bool.and_eq_true, Bool.and_eq_true] at hck
  obtain ⟨⟨hf, hr⟩, ha⟩ := hck
  have hr := Nat.le_of_ble_eq_true hr
  obtain ⟨q, hq, rfl, rfl⟩ := sj_fam (hX.2.2.1 _ List.mem_cons_self) (Nat.eq_of_beq_eq_true hf)
  have hlink : Cond.methodLink (sm_on (sm_oc k)) idx jy_len ∈ sm_ts := by
    have hc := sm_upto_ok ck_ll _ (cp_lt hi (oc_lt k hk))
    unfold cf_ll at hc
    rw [cp_div hi, cp_mod hi] at hc
    rcases (Bool.or_eq_true _ _).mp hc with h6 | h6
    · exact absurd (Nat.eq_of_beq_eq_true h6) hl
    · exact sm_w_ts h6
  have hw6 := jw_6
  simp only [Bool.and_eq_true] at hw6
  have hR : sq_R _ _ _ _ _ _ _ ad G M s H := hX.1
  have had : ad (5 + q) 0 = Z.2.1 (5 + q) := hR.2.2.2.2.1 (5 + q) (by omega)
  obtain ⟨hrc, -⟩ := sj_S hX.1 hq
  have hsum : (((S).map (sq_v ad)).map fun v => v.category).sum ≤ 8 := sq_cats (fun v hv => sm_all1_mem ha v hv) (by omega)
  have hfix : CallFix p m c (sm_mb k) (sm_ml k) s args sm_ts (sm_on (sm_oc k)) := ⟨hx, hb, hml, hown, hts⟩
  have hsize : ls.size = sm_ml k := hX.2.1.1.2.1
  have hS1 : ∀ v ∈ (.inl (Int32.ofNat (sm_ln (5 + q))) :: S : sm_S), sq_okv G v := fun v hv => by
    rcases List.mem_cons.mp hv with rfl | hv
    · trivial
    · exact hX.2.2.1 v (List.mem_cons_of_mem _ hv)
  intro hcc hss Q kk0
  have hcc : cells + G.1 ≤ R.cells + G.1 := hcc
  have hss : slots + G.2.1 ≤ R.slots + G.2.1 := hss
  have kk := fun (H1 : Heap) (locs1 : List Loc) (hr : sq_RZ Z ad G M s H1) (hl : ∀ q ∈ locs1, Z.1.size ≤ q.base) => kk0 ad H1 locs1 ls cells slots ⟨hr, hX.2.1, hS1, hl⟩ sq_ag.rf rfl rfl
  · refine sj_back (rest := S.map (sq_v ad)) hX.1 hX.2.2.2 (va_runV (As := []) (b := Z.2.1 (5 + q)) hfix (sj_len (Z := Z) (ad := ad) (G := G) (M := M) hq) ⟨callB_of 0 hts (sj_gi (sm_w_ts hw6.1.1.1.1.1.1.2)) rfl rfl rfl (hts _ (sm_w_ts hw6.1.1.2)) (hts _ hlink) ⟨by decide +kernel, by decide +kernel, by decide +kernel⟩ ⟨by show 1 + 1 ≤ R.frames; omega, by show 8 + (1 + 11) + 30 ≤ R.locals; omega⟩, hts _ (sm_w_ts hw6.1.1.1.1.1.1.1.1), hts _ (sm_w_ts hw6.1.1.1.1.1.1.1.2)⟩ ⟨sj_blind Z ad G M _, hrc, (sj_preS hX.1 [.ref (Z.2.1 (5 + q))]).2⟩ rfl rfl hsize (by show Value.ref (ad (5 + q) 0) :: _ = _; rw [had]; rfl) (lv_room hsum) hd ⟨by omega, by omega⟩) (fun H1 locs1 hR1 hl1 => ?_)
    exact kk H1 locs1 hR1 hl1
theorem sx_charAt (hC : sq_C p R s m args meth c k d) (hX : sq_XZ Z ad G M s H k L S ls locs) (hk : k < 276) {a b : Nat} {z : Int32} {idx : Nat} (hi : idx < 2048) (hl : sm_al (sm_oc k * 2048 + idx) ≠ 0) (hd : decode (sm_mb k) pc = .ok (.invokevirtual idx, 3)) : sq_N Z p l e R s m args below meth c k d ad G M H locs cells slots ls pc S (sm_t63 a b (pc + 3) z L S G M) := by
  obtain ⟨hx, hb, hml, hown, hts, hini, hfr, hlo⟩ := hC
  rcases S with _ | ⟨x | x, _ | ⟨y | y | _ | ⟨f, i⟩, S⟩⟩
  all_goals try trivial
  intro hck
  rw [Bool.and_eq_true, Bool.and_eq_true, Bool.and_eq_true] at hck
  obtain ⟨⟨⟨hf, hr⟩, ha⟩, hin⟩ := hck
  have hr := Nat.le_of_ble_eq_true hr
  obtain ⟨q, hq, rfl, rfl⟩ := sj_fam (hX.2.2.1 _ (List.mem_cons_of_mem _ List.mem_cons_self)) (Nat.eq_of_beq_eq_true hf)
  have hlink : Cond.methodLink (sm_on (sm_oc k)) idx jy_chr ∈ sm_ts := by
    have hc := sm_upto_ok ck_al _ (cp_lt hi (oc_lt k hk))
    unfold cf_al at hc
    rw [cp_div hi, cp_mod hi] at hc
    rcases (Bool.or_eq_true _ _).mp hc with h6 | h6
    · exact absurd (Nat.eq_of_beq_eq_true h6) hl
    · exact sm_w_ts h6
  have hw6 := jw_6
  simp only [Bool.and_eq_true] at hw6
  have hR : sq_R _ _ _ _ _ _ _ ad G M s H := hX.1
  have had : ad (5 + q) 0 = Z.2.1 (5 + q) := hR.2.2.2.2.1 (5 + q) (by omega)
  obtain ⟨hrc, -⟩ := sj_S hX.1 hq
  have hsum : (((S).map (sq_v ad)).map fun v => v.category).sum ≤ 8 := sq_cats (fun v hv => sm_all1_mem ha v hv) (by omega)
  have hfix : CallFix p m c (sm_mb k) (sm_ml k) s args sm_ts (sm_on (sm_oc k)) := ⟨hx, hb, hml, hown, hts⟩
  have hsize : ls.size = sm_ml k := hX.2.1.1.2.1
  have hS1 : ∀ v ∈ (.inl (sm_sc (5 + q) x.toNatClampNeg) :: S : sm_S), sq_okv G v := fun v hv => by
    rcases List.mem_cons.mp hv with rfl | hv
    · trivial
    · exact hX.2.2.1 v (List.mem_cons_of_mem _ (List.mem_cons_of_mem _ hv))
  intro hcc hss Q kk0
  have hcc : cells + G.1 ≤ R.cells + G.1 := hcc
  have hss : slots + G.2.1 ≤ R.slots + G.2.1 := hss
  have kk := fun (H1 : Heap) (locs1 : List Loc) (hr : sq_RZ Z ad G M s H1) (hl : ∀ q ∈ locs1, Z.1.size ≤ q.base) => kk0 ad H1 locs1 ls cells slots ⟨hr, hX.2.1, hS1, hl⟩ sq_ag.rf rfl rfl
  · refine sj_back (rest := S.map (sq_v ad)) hX.1 hX.2.2.2 (va_runV (As := [.int x]) (b := Z.2.1 (5 + q)) hfix (sj_chr (Z := Z) (ad := ad) (G := G) (M := M) hq hin) ⟨callB_of 1 hts (sj_gi (sm_w_ts hw6.1.1.1.2)) rfl rfl rfl (hts _ (sm_w_ts hw6.1.1.2)) (hts _ hlink) ⟨by decide +kernel, by decide +kernel, by decide +kernel⟩ ⟨by show 3 + 1 ≤ R.frames; omega, by show 8 + (2 + 11) + 90 ≤ R.locals; omega⟩, hts _ (sm_w_ts hw6.1.1.1.1.1.2), hts _ (sm_w_ts hw6.1.1.1.1.2)⟩ ⟨sj_blind Z ad G M _, hrc, (sj_preS hX.1 [.ref (Z.2.1 (5 + q)), .int x]).2⟩ rfl rfl hsize (by show Value.int x :: Value.ref (ad (5 + q) 0) :: _ = _; rw [had]; rfl) (lv_room hsum) hd ⟨by omega, by omega⟩) (fun H1 locs1 hR1 hl1 => ?_)
    exact kk H1 locs1 hR1 hl1
theorem sx_arraycopy (hC : sq_C p R s m args meth c k d) (hX : sq_XZ Z ad G M s H k L S ls locs) (hk : k < 276) {a b : Nat} {z : Int32} {idx : Nat} (hi : idx < 2048) (hl : sm_yl (sm_oc k * 2048 + idx) ≠ 0) (hd : decode (sm_mb k) pc = .ok (.invokestatic idx, 3)) : sq_N Z p l e R s m args below meth c k d ad G M H locs cells slots ls pc S (sm_t64 a b (pc + 3) z L S G M) := by
  obtain ⟨hx, hb, hml, hown, hts, hini, hfr, hlo⟩ := hC
  rcases S with _ | ⟨n | x, _ | ⟨j | x, _ | ⟨y | y | _ | ⟨g, e'⟩, _ | ⟨i | x, _ | ⟨y | y | _ | ⟨f, h⟩, S⟩⟩⟩⟩⟩
  all_goals try trivial
  intro hck
  simp only [Bool.and_eq_true, Bool.not_eq_true', decide_eq_false_iff_not] at hck
  obtain ⟨⟨⟨⟨⟨⟨⟨⟨⟨⟨hf, hg⟩, hf10⟩, hg10⟩, hr⟩, ha⟩, h3⟩, h1⟩, h2⟩, h4⟩, h5⟩ := hck
  have hf := Nat.eq_of_beq_eq_true hf
  have hg := Nat.eq_of_beq_eq_true hg
  have hf10 := Nat.le_of_ble_eq_true hf10
  have hg10 := Nat.le_of_ble_eq_true hg10
  have hr := Nat.le_of_ble_eq_true hr
  have h4 := Nat.le_of_ble_eq_true h4
  have h5 := Nat.le_of_ble_eq_true h5
  rw [sm_len_ne (by omega)] at h4 h5
  have hlink : Cond.methodLink (sm_on (sm_oc k)) idx arraycopyName ∈ sm_ts := by
    have hc := sm_upto_ok ck_yl _ (cp_lt hi (oc_lt k hk))
    unfold cf_yl at hc
    rw [cp_div hi, cp_mod hi] at hc
    rcases (Bool.or_eq_true _ _).mp hc with h6 | h6
    · exact absurd (Nat.eq_of_beq_eq_true h6) hl
    · exact sm_w_ts h6
  have hw7 := jw_7
  simp only [Bool.and_eq_true] at hw7
  have hR : sq_R _ _ _ _ _ _ _ ad G M s H := hX.1
  have hg_i : e' < G.2.2.1 g := by
    rcases hX.2.2.1 _ (List.mem_cons_of_mem _ (List.mem_cons_of_mem _ List.mem_cons_self)) with ⟨h8, -⟩ | ⟨-, q⟩
    · omega
    · exact q
  have hf_i : h < G.2.2.1 f := by
    rcases hX.2.2.1 _ (List.mem_cons_of_mem _ (List.mem_cons_of_mem _ (List.mem_cons_of_mem _ (List.mem_cons_of_mem _ List.mem_cons_self)))) with ⟨h8, -⟩ | ⟨-, q⟩
    · omega
    · exact q
  have sl : ∀ (M : sm_M) (f i : Nat), sm_fc f = 100 → sq_sl ad G M f i = fun k => Value.int (M f i k) := by
    intro M f i hf
    funext k
    unfold sq_sl
    rw [hf, sm_tr100]; rfl
  have c0 := (hR.2.1 f h hf10 hf_i).2.2 (by omega)
  have c1 := (hR.2.1 g e' hg10 hg_i).2.2 (by omega)
  have A0 := (hR.2.2.2.2.2.2.1.2.2 f hf10 (by omega) (by omega)).1
  rw [hf] at A0 c0
  rw [hg] at c1
  rw [sl M f h hf] at c0
  rw [sl M g e' hg] at c1
  have hsum : (((S).map (sq_v ad)).map fun v => v.category).sum ≤ 8 := sq_cats (fun v hv => sm_all1_mem ha v hv) (by omega)
  have hnf : nativeFrameWords "java/lang/System" "arraycopy" 5 ≤ 100 := by decide +kernel
  have nn : ∀ z : Int32, ¬ z < 0 → z.toInt = (z.toNatClampNeg : Int) := by
    intro z hz
    have hz0 : (0 : Int) ≤ z.toInt := by
      have := Int32.not_lt.mp hz
      simpa using Int32.le_iff_toInt_le.mp this
    show z.toInt = ((z.toInt.toNat : Nat) : Int)
    omega
  refine sq_heap hX (S1 := S) (G1 := G) (M1 := sm_cp M f h i.toNatClampNeg g e' j.toNatClampNeg n.toNatClampNeg) rfl rfl rfl (fun v hv => hX.2.2.1 v (List.mem_cons_of_mem _ (List.mem_cons_of_mem _ (List.mem_cons_of_mem _ (List.mem_cons_of_mem _ (List.mem_cons_of_mem _ hv)))))) (fun Q kk => ?_)
  generalize hcA : Z.2.2.2.2.2.2 100 = cA at c0 c1 A0
  intro T hT X
  obtain ⟨-, k0, hk0, cm0, hkk0⟩ := A0 (sm_ln f) (fun q => Value.int (M f h q))
  obtain ⟨-, k1, hk1, cm1, hkk1⟩ := A0 (sm_ln g) (fun q => Value.int (M g e' q))
  obtain ⟨vm', X', step⟩ := X.arraycopy hx hown (hts _ hlink) (hts _ (sm_w_ts hw7.1.2)) (hts _ (sm_w_ts hw7.1.1)) (hts _ (sm_w_ts hw7.2)) (src := ad f h) (dst := ad g e') (cs := arrV cA (sm_ln f) (fun q => Value.int (M f h q))) (cd := arrV cA (sm_ln g) (fun q => Value.int (M g e' q))) (srcPos := i) (destPos := j) (n := n) (by rw [hT]; exact c0) (by rw [hT]; exact c1)
    (fun _ q => by cases q) (fun _ q => by cases q) (fun q => by cases q) (fun q => by cases q) hk0 hk1 hkk0 hkk1 (by simp [refKind]) h1 h2 h3
    (by rw [nn i h1, nn n h3, arrV_size]; omega)
    (by rw [nn j h2, nn n h3, arrV_size]; omega)
    (fun vm₁ _ q hq => by
      have e : (arrV cA (sm_ln f) (fun q => Value.int (M f h q))).slots.getD (i.toNatClampNeg + q) .null = .int (M f h (i.toNatClampNeg + q)) := by
        rw [Array.getD_eq_getD_getElem?, arrV_read _ _ (by omega)]
        rfl
      refine ⟨?_, ?_⟩
      · rw [e]; rfl
      · rw [e]; exact trivial)
    (g := F0 m pc ls (.int n :: .int j :: .ref (ad g e') :: .int i :: .ref (ad f h) :: S.map (sq_v ad))) rfl (by rw [hml]; exact hX.2.1.1.2.1) (rest := S.map (sq_v ad)) rfl (by rw [hb]; exact hd) (by omega) (by show 2 * 0 + _ + _ ≤ _; omega)
  have e1 : copied (arrV cA (sm_ln f) (fun q => Value.int (M f h q))) (arrV cA (sm_ln g) (fun q => Value.int (M g e' q))) i j n = arrV cA (sm_ln g) (fun q => Value.int (va_cpy (M f h) (M g e') i.toNatClampNeg j.toNatClampNeg n.toNatClampNeg q)) := va_copied (fun z => .int z) cA cA (M f h) (M g e') h4
  rw [e1] at X' step
  generalize hnew : arrV cA (sm_ln g) (fun q => Value.int (va_cpy (M f h) (M g e') i.toNatClampNeg j.toNatClampNeg n.toNatClampNeg q)) = new at X' step
  have hlt : ad g e' < H.size := (Array.getElem?_eq_some_iff.mp c1).1
  have hheap : ((T.setVm vm').setCell (ad g e') new).heap = H.setIfInBounds (ad g e') new := by rw [← hT]; rfl
  have oq : ∀ q : Nat, q ≠ ad g e' → (H.setIfInBounds (ad g e') new)[q]? = H[q]? := fun q hq => by simp [Array.getElem?_setIfInBounds, Ne.symm hq]
  have sz : Z.1.size ≤ ad g e' := (hR.2.1 g e' hg10 hg_i).1
  have hcell : sq_cell Z.2.2.2.2.2.1 Z.2.2.2.2.2.2 ad G (sm_cp M f h i.toNatClampNeg g e' j.toNatClampNeg n.toNatClampNeg) g e' (H.setIfInBounds (ad g e') new) := by
    refine ⟨fun hc => by omega, fun _ => ?_⟩
    rw [hg, hcA, sl _ g e' hg, Array.getElem?_setIfInBounds, if_pos rfl, if_pos hlt, ← hnew]
    refine congrArg some (arrV_ext fun q _ => ?_)
    show Value.int (va_cpy (M f h) (M g e') i.toNatClampNeg j.toNatClampNeg n.toNatClampNeg q) = Value.int (sm_cp M f h i.toNatClampNeg g e' j.toNatClampNeg n.toNatClampNeg g e' q)
    unfold va_cpy sm_cp
    by_cases hq : j.toNatClampNeg ≤ q ∧ q < j.toNatClampNeg + n.toNatClampNeg
    · rw [if_pos hq, if_pos ⟨rfl, rfl, hq.1, hq.2⟩]
    · rw [if_neg hq, if_neg (fun w => hq ⟨w.2.2.1, w.2.2.2⟩)]
  obtain ⟨t, a1, b1⟩ := kk (H.setIfInBounds (ad g e') new) _ (sq_R.upd (G' := G) (M' := sm_cp M f h i.toNatClampNeg g e' j.toNatClampNeg n.toNatClampNeg) hR hg10 hg_i rfl (by simp) oq (fun g' j' k' hne => if_neg (fun q => hne ⟨q.1, q.2.1⟩)) (fun _ _ _ _ => rfl) hcell (fun kx hkx => hR.2.2.2.1 g e' kx hg10 hg_i hkx)) (fun q hq => by
      rcases List.mem_append.mp hq with h | h
      · exact hX.2.2.2 q h
      · obtain ⟨z, -, hz⟩ := List.mem_map.mp h
        rw [← hz]
        exact sz) _ hheap X'
  exact ⟨t, step t a1, b1⟩
end
