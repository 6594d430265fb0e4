def sy_sln : MethodName := ⟨"java/lang/String", "length", "()I"⟩
theorem sc_sln : Cond.code sy_sln prog_15_method_54_code 1 (some .int) ∈ gw := gw_of (i := 492) (by decide +kernel) (by decide +kernel)
theorem si_sln : Cond.initialized sy_sln.cls ∈ gw := gw_of (i := 87) (by decide +kernel) (by decide +kernel)
theorem sn_sln : Cond.instanceMethod sy_sln ∈ gw := gw_of (i := 490) (by decide +kernel) (by decide +kernel)
theorem ss_sln : Cond.selects sy_sln.cls sy_sln sy_sln ∈ gw := gw_of (i := 491) (by decide +kernel) (by decide +kernel)
def sy_sch : MethodName := ⟨"java/lang/String", "charAt", "(I)C"⟩
theorem sc_sch : Cond.code sy_sch prog_15_method_56_code 2 (some .char) ∈ gw := gw_of (i := 502) (by decide +kernel) (by decide +kernel)
theorem si_sch : Cond.initialized sy_sch.cls ∈ gw := gw_of (i := 87) (by decide +kernel) (by decide +kernel)
theorem sn_sch : Cond.instanceMethod sy_sch ∈ gw := gw_of (i := 500) (by decide +kernel) (by decide +kernel)
theorem ss_sch : Cond.selects sy_sch.cls sy_sch sy_sch ∈ gw := gw_of (i := 501) (by decide +kernel) (by decide +kernel)
def sy_cod : MethodName := ⟨"java/lang/String", "coder", "()B"⟩
theorem sc_cod : Cond.code sy_cod prog_15_method_152_code 1 (some .byte) ∈ gw := gw_of (i := 496) (by decide +kernel) (by decide +kernel)
theorem si_cod : Cond.initialized sy_cod.cls ∈ gw := gw_of (i := 87) (by decide +kernel) (by decide +kernel)
theorem sn_cod : Cond.instanceMethod sy_cod ∈ gw := gw_of (i := 494) (by decide +kernel) (by decide +kernel)
theorem ss_cod : Cond.selects sy_cod.cls sy_cod sy_cod ∈ gw := gw_of (i := 495) (by decide +kernel) (by decide +kernel)
def sy_isl : MethodName := ⟨"java/lang/String", "isLatin1", "()Z"⟩
theorem sc_isl : Cond.code sy_isl prog_15_method_154_code 1 (some .boolean) ∈ gw := gw_of (i := 506) (by decide +kernel) (by decide +kernel)
theorem si_isl : Cond.initialized sy_isl.cls ∈ gw := gw_of (i := 87) (by decide +kernel) (by decide +kernel)
theorem sn_isl : Cond.instanceMethod sy_isl ∈ gw := gw_of (i := 504) (by decide +kernel) (by decide +kernel)
theorem ss_isl : Cond.selects sy_isl.cls sy_isl sy_isl ∈ gw := gw_of (i := 505) (by decide +kernel) (by decide +kernel)
def sy_chk : MethodName := ⟨"java/lang/String", "checkIndex", "(II)V"⟩
theorem sc_chk : Cond.code sy_chk prog_15_method_155_code 2 (none) ∈ gw := gw_of (i := 512) (by decide +kernel) (by decide +kernel)
theorem si_chk : Cond.initialized sy_chk.cls ∈ gw := gw_of (i := 87) (by decide +kernel) (by decide +kernel)
theorem st_chk : Cond.static sy_chk ∈ gw := gw_of (i := 511) (by decide +kernel) (by decide +kernel)
def sy_lch : MethodName := ⟨"java/lang/StringLatin1", "charAt", "([BI)C"⟩
theorem sc_lch : Cond.code sy_lch prog_16_method_2_code 2 (some .char) ∈ gw := gw_of (i := 509) (by decide +kernel) (by decide +kernel)
theorem si_lch : Cond.initialized sy_lch.cls ∈ gw := gw_of (i := 88) (by decide +kernel) (by decide +kernel)
theorem st_lch : Cond.static sy_lch ∈ gw := gw_of (i := 508) (by decide +kernel) (by decide +kernel)
def sy_pck : MethodName := ⟨"jdk/internal/util/Preconditions", "checkIndex", "(IILjava/util/function/BiFunction;)I"⟩
theorem sc_pck : Cond.code sy_pck prog_18_method_11_code 3 (some .int) ∈ gw := gw_of (i := 517) (by decide +kernel) (by decide +kernel)
theorem si_pck : Cond.initialized sy_pck.cls ∈ gw := gw_of (i := 89) (by decide +kernel) (by decide +kernel)
theorem st_pck : Cond.static sy_pck ∈ gw := gw_of (i := 516) (by decide +kernel) (by decide +kernel)
theorem sk_cod : Cond.methodLink "java/lang/String" 335 sy_cod ∈ gw := gw_of (i := 493) (by decide +kernel) (by decide +kernel)
theorem sk_isl : Cond.methodLink "java/lang/String" 492 sy_isl ∈ gw := gw_of (i := 503) (by decide +kernel) (by decide +kernel)
theorem sk_lch : Cond.methodLink "java/lang/String" 495 sy_lch ∈ gw := gw_of (i := 507) (by decide +kernel) (by decide +kernel)
theorem sk_chk : Cond.methodLink "java/lang/StringLatin1" 9 sy_chk ∈ gw := gw_of (i := 510) (by decide +kernel) (by decide +kernel)
theorem sk_pck : Cond.methodLink "java/lang/String" 1059 sy_pck ∈ gw := gw_of (i := 515) (by decide +kernel) (by decide +kernel)
theorem sf_cs : Cond.fieldLink "java/lang/String" 38 "java/lang/String" "COMPACT_STRINGS" "Z" ∈ gw := gw_of (i := 497) (by decide +kernel) (by decide +kernel)
theorem sf_sf : Cond.fieldLink "java/lang/String" 1053 "jdk/internal/util/Preconditions" "SIOOBE_FORMATTER" "Ljava/util/function/BiFunction;" ∈ gw := gw_of (i := 513) (by decide +kernel) (by decide +kernel)
theorem sf_val : Cond.fieldLink "java/lang/String" 9 "java/lang/String" "value" "[B" ∈ gw := gw_of (i := 1624) (by decide +kernel) (by decide +kernel)
theorem sf_cdr : Cond.fieldLink "java/lang/String" 15 "java/lang/String" "coder" "B" ∈ gw := gw_of (i := 1625) (by decide +kernel) (by decide +kernel)
theorem sd_sln_0 : decode prog_15_method_54_code 0 = .ok (.aload_n 0, 1) := by decide +kernel
theorem sd_sln_1 : decode prog_15_method_54_code 1 = .ok (.getfield 9, 3) := by decide +kernel
theorem sd_sln_4 : decode prog_15_method_54_code 4 = .ok (.arraylength, 1) := by decide +kernel
theorem sd_sln_5 : decode prog_15_method_54_code 5 = .ok (.aload_n 0, 1) := by decide +kernel
theorem sd_sln_6 : decode prog_15_method_54_code 6 = .ok (.invokevirtual 335, 3) := by decide +kernel
theorem sd_sln_9 : decode prog_15_method_54_code 9 = .ok (.ishr, 1) := by decide +kernel
theorem sd_sln_10 : decode prog_15_method_54_code 10 = .ok (.ireturn, 1) := by decide +kernel
theorem sd_sch_0 : decode prog_15_method_56_code 0 = .ok (.aload_n 0, 1) := by decide +kernel
theorem sd_sch_1 : decode prog_15_method_56_code 1 = .ok (.invokevirtual 492, 3) := by decide +kernel
theorem sd_sch_4 : decode prog_15_method_56_code 4 = .ok (.ifCond .eq 12, 3) := by decide +kernel
theorem sd_sch_7 : decode prog_15_method_56_code 7 = .ok (.aload_n 0, 1) := by decide +kernel
theorem sd_sch_8 : decode prog_15_method_56_code 8 = .ok (.getfield 9, 3) := by decide +kernel
theorem sd_sch_11 : decode prog_15_method_56_code 11 = .ok (.iload_n 1, 1) := by decide +kernel
theorem sd_sch_12 : decode prog_15_method_56_code 12 = .ok (.invokestatic 495, 3) := by decide +kernel
theorem sd_sch_15 : decode prog_15_method_56_code 15 = .ok (.ireturn, 1) := by decide +kernel
theorem sd_sch_16 : decode prog_15_method_56_code 16 = .ok (.aload_n 0, 1) := by decide +kernel
theorem sd_sch_17 : decode prog_15_method_56_code 17 = .ok (.getfield 9, 3) := by decide +kernel
theorem sd_sch_20 : decode prog_15_method_56_code 20 = .ok (.iload_n 1, 1) := by decide +kernel
theorem sd_sch_21 : decode prog_15_method_56_code 21 = .ok (.invokestatic 498, 3) := by decide +kernel
theorem sd_sch_24 : decode prog_15_method_56_code 24 = .ok (.ireturn, 1) := by decide +kernel
theorem sd_cod_0 : decode prog_15_method_152_code 0 = .ok (.getstatic 38, 3) := by decide +kernel
theorem sd_cod_3 : decode prog_15_method_152_code 3 = .ok (.ifCond .eq 10, 3) := by decide +kernel
theorem sd_cod_6 : decode prog_15_method_152_code 6 = .ok (.aload_n 0, 1) := by decide +kernel
theorem sd_cod_7 : decode prog_15_method_152_code 7 = .ok (.getfield 15, 3) := by decide +kernel
theorem sd_cod_10 : decode prog_15_method_152_code 10 = .ok (.goto 4, 3) := by decide +kernel
theorem sd_cod_13 : decode prog_15_method_152_code 13 = .ok (.iconst 1, 1) := by decide +kernel
theorem sd_cod_14 : decode prog_15_method_152_code 14 = .ok (.ireturn, 1) := by decide +kernel
theorem sd_isl_0 : decode prog_15_method_154_code 0 = .ok (.getstatic 38, 3) := by decide +kernel
theorem sd_isl_3 : decode prog_15_method_154_code 3 = .ok (.ifCond .eq 14, 3) := by decide +kernel
theorem sd_isl_6 : decode prog_15_method_154_code 6 = .ok (.aload_n 0, 1) := by decide +kernel
theorem sd_isl_7 : decode prog_15_method_154_code 7 = .ok (.getfield 15, 3) := by decide +kernel
theorem sd_isl_10 : decode prog_15_method_154_code 10 = .ok (.ifCond .ne 7, 3) := by decide +kernel
theorem sd_isl_13 : decode prog_15_method_154_code 13 = .ok (.iconst 1, 1) := by decide +kernel
theorem sd_isl_14 : decode prog_15_method_154_code 14 = .ok (.goto 4, 3) := by decide +kernel
theorem sd_isl_17 : decode prog_15_method_154_code 17 = .ok (.iconst 0, 1) := by decide +kernel
theorem sd_isl_18 : decode prog_15_method_154_code 18 = .ok (.ireturn, 1) := by decide +kernel
theorem sd_chk_0 : decode prog_15_method_155_code 0 = .ok (.iload_n 0, 1) := by decide +kernel
theorem sd_chk_1 : decode prog_15_method_155_code 1 = .ok (.iload_n 1, 1) := by decide +kernel
theorem sd_chk_2 : decode prog_15_method_155_code 2 = .ok (.getstatic 1053, 3) := by decide +kernel
theorem sd_chk_5 : decode prog_15_method_155_code 5 = .ok (.invokestatic 1059, 3) := by decide +kernel
theorem sd_chk_8 : decode prog_15_method_155_code 8 = .ok (.pop, 1) := by decide +kernel
theorem sd_chk_9 : decode prog_15_method_155_code 9 = .ok (.return_, 1) := by decide +kernel
theorem sd_lch_0 : decode prog_16_method_2_code 0 = .ok (.iload_n 1, 1) := by decide +kernel
theorem sd_lch_1 : decode prog_16_method_2_code 1 = .ok (.aload_n 0, 1) := by decide +kernel
theorem sd_lch_2 : decode prog_16_method_2_code 2 = .ok (.arraylength, 1) := by decide +kernel
theorem sd_lch_3 : decode prog_16_method_2_code 3 = .ok (.invokestatic 9, 3) := by decide +kernel
theorem sd_lch_6 : decode prog_16_method_2_code 6 = .ok (.aload_n 0, 1) := by decide +kernel
theorem sd_lch_7 : decode prog_16_method_2_code 7 = .ok (.iload_n 1, 1) := by decide +kernel
theorem sd_lch_8 : decode prog_16_method_2_code 8 = .ok (.baload, 1) := by decide +kernel
theorem sd_lch_9 : decode prog_16_method_2_code 9 = .ok (.sipush 255, 3) := by decide +kernel
theorem sd_lch_12 : decode prog_16_method_2_code 12 = .ok (.iand, 1) := by decide +kernel
theorem sd_lch_13 : decode prog_16_method_2_code 13 = .ok (.i2c, 1) := by decide +kernel
theorem sd_lch_14 : decode prog_16_method_2_code 14 = .ok (.ireturn, 1) := by decide +kernel
theorem sd_pck_0 : decode prog_18_method_11_code 0 = .ok (.iload_n 0, 1) := by decide +kernel
theorem sd_pck_1 : decode prog_18_method_11_code 1 = .ok (.ifCond .lt 8, 3) := by decide +kernel
theorem sd_pck_4 : decode prog_18_method_11_code 4 = .ok (.iload_n 0, 1) := by decide +kernel
theorem sd_pck_5 : decode prog_18_method_11_code 5 = .ok (.iload_n 1, 1) := by decide +kernel
theorem sd_pck_6 : decode prog_18_method_11_code 6 = .ok (.if_icmp .lt 10, 3) := by decide +kernel
theorem sd_pck_9 : decode prog_18_method_11_code 9 = .ok (.aload_n 2, 1) := by decide +kernel
theorem sd_pck_10 : decode prog_18_method_11_code 10 = .ok (.iload_n 0, 1) := by decide +kernel
theorem sd_pck_11 : decode prog_18_method_11_code 11 = .ok (.iload_n 1, 1) := by decide +kernel
theorem sd_pck_12 : decode prog_18_method_11_code 12 = .ok (.invokestatic 95, 3) := by decide +kernel
theorem sd_pck_15 : decode prog_18_method_11_code 15 = .ok (.athrow, 1) := by decide +kernel
theorem sd_pck_16 : decode prog_18_method_11_code 16 = .ok (.iload_n 0, 1) := by decide +kernel
theorem sd_pck_17 : decode prog_18_method_11_code 17 = .ok (.ireturn, 1) := by decide +kernel
/-! String.length and String.charAt of a String constant. -/
theorem gw_good {ws : List Cond} (h : ∀ w ∈ ws, w ∈ gw) : GoodIn gw ws := fun w hw => ⟨h w hw, good_of_word (List.mem_filter.mp (h w hw)).2⟩
theorem gw_cons {c : Cond} (h : c ∈ gw) : ∀ w ∈ c :: gw, w ∈ gw := fun w hw => (List.mem_cons.mp hw).elim (fun e => by rw [e]; exact h) id
theorem gw_V {own : String} {idx : Nat} {C : String} {y : MethodName} {c : Cond} (h1 : Cond.methodLink own idx y ∈ gw) (h2 : Cond.instanceMethod y ∈ gw) (h3 : Cond.selects C y y ∈ gw) (h4 : Cond.initialized C ∈ gw) (hc : c ∈ gw) : GoodIn gw (wsV own idx C y (c :: gw)) := gw_good (fun w hw => by
  rcases List.mem_append.mp hw with h | h
  · simp only [List.mem_cons, List.not_mem_nil, or_false] at h
    rcases h with rfl | rfl | rfl | rfl
    · exact h1
    · exact h2
    · exact h3
    · exact h4
  · exact gw_cons hc w h)
theorem gw_S {own : String} {idx : Nat} {y : MethodName} {c : Cond} (h1 : Cond.methodLink own idx y ∈ gw) (h2 : Cond.static y ∈ gw) (h4 : Cond.initialized y.cls ∈ gw) (hc : c ∈ gw) : GoodIn gw (va_wsS own idx y (c :: gw)) := gw_good (fun w hw => by
  rcases List.mem_append.mp hw with h | h
  · simp only [List.mem_cons, List.not_mem_nil, or_false] at h
    rcases h with rfl | rfl | rfl
    · exact h1
    · exact h2
    · exact h4
  · exact gw_cons hc w h)
def sq_P (E : se) (As : List Value) : Array Value → State → Prop := fun a U => a = As.toArray ∧ se_E E U U.heap
def sq_Q (v : Option Value) : Array Value → State → Outcome → State → Prop := fun _ st o t => o = .returned v ∧ t.heap = st.heap
theorem sq_blind (E : se) (As : List Value) : FrameBlind (sq_P E As) := fun a U g mk h => ⟨h.1, se_E.same (u := U) rfl h.2⟩
theorem sq_pre {E : se} {As : List Value} {s : State} {H : Heap} {locs : List Loc} (hE : se_E E s s.heap) (hS : va_S (se_A E) s.heap H locs) : PreS s H (sq_P E As) As := ⟨sq_blind E As, fun U hU hW => ⟨rfl, by rw [hU]; exact (se_E.warm hW hE).kept hS.1 hS.2.1⟩⟩
def sq_rm (f n : Nat) : Room := { frames := f, cells := 0, slots := 0, locals := n }
section SQ
variable {p : Program} {l : Launch} {e : Env} {R : Room} {s : State} {m : MethodId} {args : Array Value} {below : List Frame} {meth : Method} {c : Code} {H : Heap} {locs : List Loc} {cells slots : Nat} {Q : State → Prop}
theorem sq_call {v : Option Value} {a : Array Value} {g : JFrame} {rest : List Value} (hr : CallRun p l e R s m args below meth c H locs cells slots 0 0 g rest (sq_Q v a) (fun _ => False)) (kk : W p l e R s m args below meth c H locs cells slots Q { g with pc := g.pc + 3, stack := v.toList ++ rest }) : W p l e R s m args below meth c H locs cells slots Q g :=
  W.callX hr (fun x h => h.elim) (fun v' st₀ t h0 hq => by
    obtain ⟨hv, hh⟩ := hq
    cases hv
    rw [hh, h0]
    exact kk)
end SQ
theorem sq_tx : ∀ i, i < 10 → se_len.getD i 0 = (px_str i).length ∧ (px_str i).length < 1000 ∧ ∀ j, j < (px_str i).length → (se_byt.getD i []).getD j 0 = Int32.ofInt (px_lst (px_str i) j) ∧ (Int32.ofInt (px_lst (px_str i) j)).toInt = px_lst (px_str i) j ∧ (Int32.ofInt (px_lst (px_str i) j) &&& 255).toUInt32 % 65536 = (Int32.ofInt (px_lst (px_str i) j)).toUInt32 ∧ narrow .char (.int (Int32.ofInt (px_lst (px_str i) j))) = .int (Int32.ofInt (px_lst (px_str i) j)) := by decide +kernel
theorem sq_cod (l : Launch) (E : se) (i : Nat) (hi : i < 10) : Met l sy_cod (Cond.code sy_cod prog_15_method_152_code 1 (some .byte) :: gw) (sq_rm 0 0) (sq_P E [.ref (se_K E i)]) (sq_Q (some (.int 0))) 0 0 (fun _ => False) := by
  refine Met.ofW (cc := prog_15_method_152_code) (maxL := 1) (ret := some .byte) (by decide) rfl ?_
  intro p e s m args below meth c s₁ B hml hv
  obtain ⟨rfl, hE⟩ := hv
  have hx := B.exec
  have hb := B.bytes
  have hr := B.returns
  have hts0 := atoms_spec (ws := Cond.code sy_cod prog_15_method_152_code 1 (some .byte) :: gw) B.pre
  have hts : ∀ w ∈ gw, w.before _ s = true := fun w h => hts0 w (List.mem_cons_of_mem _ h)
  have hown : s.vm.findClass "java/lang/String" = some m.cls := findClass_of_methodNamed B.named
  have hlocks := B.notSynchronized
  have hS : va_S (se_A E) s.heap s.heap [] := va_S.rf
  have hl := lv_entry ([.ref (se_K E i)]) (n := 1) (Nat.le_of_ble_eq_true rfl)
  rw [lg_entry_eq]
  generalize (lg_sl ([.ref (se_K E i)]) ++ List.replicate (1 - (lg_sl ([.ref (se_K E i)])).length) Slot.unset).toArray = ls at hl ⊢
  have hl : lv_has ls 1 [(0, .ref (se_K E i))] := hl
  refine va_gets hx hb hE.2.2.1 hS hown (hts _ sf_cs) (fun _ h => h) sd_cod_0 ?_
  refine lv_if_eq (tgt := 13) hx hb sd_cod_3 (by decide) (fun h => absurd h (by decide)) (fun _ => ?_)
  refine lv_aload_n hx hb sd_cod_6 rfl (lv_at hl 0 rfl) ?_
  refine vk_getf hx hb (hE.2.2.2.2.2.1.1 i hi).2.1 hS hown (hts _ sf_cdr) (fun _ h => h) sd_cod_7 ?_
  refine lv_goto (tgt := 14) hx hb sd_cod_10 (by decide) ?_
  exact W.zret hx hb hr rfl (fun t ht _ => ⟨rfl, ht⟩) (fun q h => by cases h) sd_cod_14
theorem sq_isl (l : Launch) (E : se) (i : Nat) (hi : i < 10) : Met l sy_isl (Cond.code sy_isl prog_15_method_154_code 1 (some .boolean) :: gw) (sq_rm 0 0) (sq_P E [.ref (se_K E i)]) (sq_Q (some (.int 1))) 0 0 (fun _ => False) := by
  refine Met.ofW (cc := prog_15_method_154_code) (maxL := 1) (ret := some .boolean) (by decide) rfl ?_
  intro p e s m args below meth c s₁ B hml hv
  obtain ⟨rfl, hE⟩ := hv
  have hx := B.exec
  have hb := B.bytes
  have hr := B.returns
  have hts0 := atoms_spec (ws := Cond.code sy_isl prog_15_method_154_code 1 (some .boolean) :: gw) B.pre
  have hts : ∀ w ∈ gw, w.before _ s = true := fun w h => hts0 w (List.mem_cons_of_mem _ h)
  have hown : s.vm.findClass "java/lang/String" = some m.cls := findClass_of_methodNamed B.named
  have hlocks := B.notSynchronized
  have hS : va_S (se_A E) s.heap s.heap [] := va_S.rf
  have hl := lv_entry ([.ref (se_K E i)]) (n := 1) (Nat.le_of_ble_eq_true rfl)
  rw [lg_entry_eq]
  generalize (lg_sl ([.ref (se_K E i)]) ++ List.replicate (1 - (lg_sl ([.ref (se_K E i)])).length) Slot.unset).toArray = ls at hl ⊢
  have hl : lv_has ls 1 [(0, .ref (se_K E i))] := hl
  refine va_gets hx hb hE.2.2.1 hS hown (hts _ sf_cs) (fun _ h => h) sd_isl_0 ?_
  refine lv_if_eq (tgt := 17) hx hb sd_isl_3 (by decide) (fun h => absurd h (by decide)) (fun _ => ?_)
  refine lv_aload_n hx hb sd_isl_6 rfl (lv_at hl 0 rfl) ?_
  refine vk_getf hx hb (hE.2.2.2.2.2.1.1 i hi).2.1 hS hown (hts _ sf_cdr) (fun _ h => h) sd_isl_7 ?_
  refine lv_if_ne (tgt := 17) hx hb sd_isl_10 (by decide) (fun h => absurd h (by decide)) (fun _ => ?_)
  refine lv_iconst (v := 1) hx hb sd_isl_13 (by decide) ?_
  refine lv_goto (tgt := 18) hx hb sd_isl_14 (by decide) ?_
  exact W.zret hx hb hr rfl (fun t ht _ => ⟨rfl, ht⟩) (fun q h => by cases h) sd_isl_18
theorem sq_pck (l : Launch) (j n : Int32) (f : Value) (hf : f.category = 1) (h0 : ¬ j < 0) (h1 : j < n) : Met l sy_pck (Cond.code sy_pck prog_18_method_11_code 3 (some .int) :: gw) (sq_rm 0 0) (fun a _ => a = [Value.int j, .int n, f].toArray) (sq_Q (some (.int j))) 0 0 (fun _ => False) := by
  refine Met.ofW (cc := prog_18_method_11_code) (maxL := 3) (ret := some .int) (by decide) rfl ?_
  intro p e s m args below meth c s₁ B hml hv
  subst hv
  have hx := B.exec
  have hb := B.bytes
  have hr := B.returns
  have hlocks := B.notSynchronized
  have e1 : lg_sl [Value.int j, .int n, f] = [.val (.int j), .val (.int n), .val f] := by
    cases f <;> first | rfl | simp [Value.category] at hf
  have hl := lv_entry ([.int j, .int n, f]) (n := 3) (by rw [e1]; exact Nat.le_refl _)
  rw [lg_entry_eq]
  generalize (lg_sl ([.int j, .int n, f]) ++ List.replicate (3 - (lg_sl ([.int j, .int n, f])).length) Slot.unset).toArray = ls at hl ⊢
  have hl : lv_has ls 3 [(0, .int j), (1, .int n), (2, f)] := hl
  refine lv_iload_n hx hb sd_pck_0 rfl (lv_at hl 0 rfl) ?_
  refine lv_if_lt (tgt := 9) hx hb sd_pck_1 (by decide) (fun h => absurd h h0) (fun _ => ?_)
  refine lv_iload_n hx hb sd_pck_4 rfl (lv_at hl 0 rfl) ?_
  refine lv_iload_n hx hb sd_pck_5 rfl (lv_at hl 1 rfl) ?_
  refine lv_icmp_lt (tgt := 16) hx hb sd_pck_6 (by decide) (fun _ => ?_) (fun h => absurd h1 h)
  refine lv_iload_n hx hb sd_pck_16 rfl (lv_at hl 0 rfl) ?_
  exact W.iret hx hb hr (fun t ht _ => ⟨rfl, ht⟩) (fun q h => by cases h) sd_pck_17
theorem sq_chk (l : Launch) (E : se) (j n : Int32) (h0 : ¬ j < 0) (h1 : j < n) : Met l sy_chk (Cond.code sy_chk prog_15_method_155_code 2 (none) :: gw) (sq_rm 1 22) (sq_P E [.int j, .int n]) (sq_Q none) 0 0 (fun _ => False) := by
  refine Met.ofW (cc := prog_15_method_155_code) (maxL := 2) (ret := none) (by decide) rfl ?_
  intro p e s m args below meth c s₁ B hml hv
  obtain ⟨rfl, hE⟩ := hv
  have hx := B.exec
  have hb := B.bytes
  have hr := B.returns
  have hts0 := atoms_spec (ws := Cond.code sy_chk prog_15_method_155_code 2 (none) :: gw) B.pre
  have hts : ∀ w ∈ gw, w.before _ s = true := fun w h => hts0 w (List.mem_cons_of_mem _ h)
  have hown : s.vm.findClass "java/lang/String" = some m.cls := findClass_of_methodNamed B.named
  have hlocks := B.notSynchronized
  have hS : va_S (se_A E) s.heap s.heap [] := va_S.rf
  have hl := lv_entry ([.int j, .int n]) (n := 2) (Nat.le_of_ble_eq_true rfl)
  rw [lg_entry_eq]
  generalize (lg_sl ([.int j, .int n]) ++ List.replicate (2 - (lg_sl ([.int j, .int n])).length) Slot.unset).toArray = ls at hl ⊢
  have hl : lv_has ls 2 [(0, .int j), (1, .int n)] := hl
  refine lv_iload_n hx hb sd_chk_0 rfl (lv_at hl 0 rfl) ?_
  refine lv_iload_n hx hb sd_chk_1 rfl (lv_at hl 1 rfl) ?_
  have key : ∀ f : Value, f.category = 1 → W p l e (headSpec (Cond.code sy_chk prog_15_method_155_code 2 (none) :: gw) (sq_rm 1 22)).room s m [Value.int j, .int n].toArray below meth c s.heap [] 0 0 (MQ below (sq_Q none) [Value.int j, .int n].toArray s 0 0 (fun _ => False)) (F0 m 5 ls (f :: .int n :: [.int j])) := by
    intro f hf
    refine sq_call (v := some (.int j)) (rest := []) (W.runS (As := [.int j, .int n, f]) (n := 3) (own := "java/lang/String") (index := 1059) ⟨hx, hb, hml, hown, hts⟩ (sq_pck l j n f hf h0 h1) (va_cwS 3 hts (gw_S sk_pck st_pck si_pck sc_pck) rfl rfl rfl (by decide +kernel) ⟨Nat.le_of_ble_eq_true rfl, Nat.le_of_ble_eq_true rfl⟩) ⟨fun a U g mk h => h, fun U _ _ => rfl⟩ rfl rfl hl.1 rfl (lv_room (by decide)) sd_chk_5 ⟨Nat.le_refl _, Nat.le_refl _⟩) ?_
    refine lv_pop hx hb sd_chk_8 rfl ?_
    exact W.vret hx hb hr (fun t ht _ => ⟨rfl, ht⟩) (fun q h => by cases h) sd_chk_9
  rcases hE.2.2.2.1 with hZ | ⟨t, hZ⟩
  · exact va_gets hx hb hZ hS hown (hts _ sf_sf) (fun _ h => h) sd_chk_2 (key .null rfl)
  · exact va_gets hx hb hZ hS hown (hts _ sf_sf) (fun _ h => h) sd_chk_2 (key (.ref t) rfl)
theorem sq_sln (l : Launch) (E : se) (i : Nat) (hi : i < 10) : Met l sy_sln (Cond.code sy_sln prog_15_method_54_code 1 (some .int) :: gw) (sq_rm 1 20) (sq_P E [.ref (se_K E i)]) (sq_Q (some (.int (Int32.ofNat (px_str i).length)))) 0 0 (fun _ => False) := by
  refine Met.ofW (cc := prog_15_method_54_code) (maxL := 1) (ret := some .int) (by decide) rfl ?_
  intro p e s m args below meth c s₁ B hml hv
  obtain ⟨rfl, hE⟩ := hv
  have hx := B.exec
  have hb := B.bytes
  have hr := B.returns
  have hts0 := atoms_spec (ws := Cond.code sy_sln prog_15_method_54_code 1 (some .int) :: gw) B.pre
  have hts : ∀ w ∈ gw, w.before _ s = true := fun w h => hts0 w (List.mem_cons_of_mem _ h)
  have hown : s.vm.findClass "java/lang/String" = some m.cls := findClass_of_methodNamed B.named
  have hlocks := B.notSynchronized
  have hS : va_S (se_A E) s.heap s.heap [] := va_S.rf
  have hl := lv_entry ([.ref (se_K E i)]) (n := 1) (Nat.le_of_ble_eq_true rfl)
  rw [lg_entry_eq]
  generalize (lg_sl ([.ref (se_K E i)]) ++ List.replicate (1 - (lg_sl ([.ref (se_K E i)])).length) Slot.unset).toArray = ls at hl ⊢
  have hl : lv_has ls 1 [(0, .ref (se_K E i))] := hl
  have hSt := hE.2.2.2.2.2.1
  obtain ⟨cell, c1, c2, c3, c4, c5, c6, c7⟩ := (hSt.1 i hi).2.2.2
  obtain ⟨t1, t2, t3⟩ := sq_tx i hi
  rw [t1] at c5
  refine lv_aload_n hx hb sd_sln_0 rfl (lv_at hl 0 rfl) ?_
  refine vk_getf hx hb (hSt.1 i hi).2.2.1 hS hown (hts _ sf_val) (fun _ h => h) sd_sln_1 ?_
  refine W.alen (n := Int32.ofNat (px_str i).length) hx hb c1 c2 c5 rfl rfl sd_sln_4 ?_
  refine lv_aload_n hx hb sd_sln_5 rfl (lv_at hl 0 rfl) ?_
  refine sq_call (v := some (.int 0)) (rest := [.int (Int32.ofNat (px_str i).length)]) (W.runV (As := []) (n := 0) (own := "java/lang/String") (C := "java/lang/String") (index := 335) (b := se_K E i) ⟨hx, hb, hml, hown, hts⟩ (sq_cod l E i hi) (cwV 0 hts (gw_V sk_cod sn_cod ss_cod si_cod sc_cod) rfl rfl rfl (by decide +kernel) ⟨Nat.le_of_ble_eq_true rfl, Nat.le_of_ble_eq_true rfl⟩) ⟨sq_blind E _, vk_recv hSt hi hS, fun U hU hW => (sq_pre hE hS).2 U hU hW⟩ rfl rfl hl.1 rfl (lv_room (Nat.le_of_ble_eq_true rfl)) sd_sln_6 ⟨Nat.le_refl _, Nat.le_refl _⟩) ?_
  refine lv_ishr hx hb sd_sln_9 ?_
  have e0 : Int32.ofNat (px_str i).length >>> ((0 : Int32) &&& 31) = Int32.ofNat (px_str i).length := by
    have : ∀ i, i < 10 → Int32.ofNat (px_str i).length >>> ((0 : Int32) &&& 31) = Int32.ofNat (px_str i).length := by decide +kernel
    exact this i hi
  rw [e0]
  exact W.iret hx hb hr (fun t ht _ => ⟨rfl, ht⟩) (fun q h => by cases h) sd_sln_10
theorem sq_lch (l : Launch) (E : se) (i : Nat) (hi : i < 10) (j : Nat) (hj : j < (px_str i).length) : Met l sy_lch (Cond.code sy_lch prog_16_method_2_code 2 (some .char) :: gw) (sq_rm 2 43) (sq_P E [.ref (se_V E i), .int (Int32.ofNat j)]) (sq_Q (some (.int (Int32.ofInt (px_lst (px_str i) j))))) 0 0 (fun _ => False) := by
  refine Met.ofW (cc := prog_16_method_2_code) (maxL := 2) (ret := some .char) (by decide) rfl ?_
  intro p e s m args below meth c s₁ B hml hv
  obtain ⟨rfl, hE⟩ := hv
  have hx := B.exec
  have hb := B.bytes
  have hr := B.returns
  have hts0 := atoms_spec (ws := Cond.code sy_lch prog_16_method_2_code 2 (some .char) :: gw) B.pre
  have hts : ∀ w ∈ gw, w.before _ s = true := fun w h => hts0 w (List.mem_cons_of_mem _ h)
  have hown : s.vm.findClass "java/lang/StringLatin1" = some m.cls := findClass_of_methodNamed B.named
  have hlocks := B.notSynchronized
  have hS : va_S (se_A E) s.heap s.heap [] := va_S.rf
  have hl := lv_entry ([.ref (se_V E i), .int (Int32.ofNat j)]) (n := 2) (Nat.le_of_ble_eq_true rfl)
  rw [lg_entry_eq]
  generalize (lg_sl ([.ref (se_V E i), .int (Int32.ofNat j)]) ++ List.replicate (2 - (lg_sl ([.ref (se_V E i), .int (Int32.ofNat j)])).length) Slot.unset).toArray = ls at hl ⊢
  have hl : lv_has ls 2 [(0, .ref (se_V E i)), (1, .int (Int32.ofNat j))] := hl
  have hSt := hE.2.2.2.2.2.1
  obtain ⟨cell, c1, c2, c3, c4, c5, c6, c7⟩ := (hSt.1 i hi).2.2.2
  obtain ⟨t1, t2, t3⟩ := sq_tx i hi
  obtain ⟨t4, t5, t6, t7⟩ := t3 j hj
  rw [t1] at c4 c5 c6
  refine lv_iload_n hx hb sd_lch_0 rfl (lv_at hl 1 rfl) ?_
  refine lv_aload_n hx hb sd_lch_1 rfl (lv_at hl 0 rfl) ?_
  refine W.alen (n := Int32.ofNat (px_str i).length) hx hb c1 c2 c5 rfl rfl sd_lch_2 ?_
  refine sq_call (v := none) (rest := []) (W.runS (As := [.int (Int32.ofNat j), .int (Int32.ofNat (px_str i).length)]) (n := 2) (own := "java/lang/StringLatin1") (index := 9) ⟨hx, hb, hml, hown, hts⟩ (sq_chk l E _ _ (nI_pos (n := j) (by omega)) (nI_lt hj (by omega))) (va_cwS 2 hts (gw_S sk_chk st_chk si_chk sc_chk) rfl rfl rfl (by decide +kernel) ⟨Nat.le_of_ble_eq_true rfl, Nat.le_of_ble_eq_true rfl⟩) (sq_pre hE hS) rfl rfl hl.1 rfl (lv_room (by decide)) sd_lch_3 ⟨Nat.le_refl _, Nat.le_refl _⟩) ?_
  refine lv_aload_n hx hb sd_lch_6 rfl (lv_at hl 0 rfl) ?_
  refine lv_iload_n hx hb sd_lch_7 rfl (lv_at hl 1 rfl) ?_
  have hcl : (Int32.ofNat j).toNatClampNeg = j := nI_clamp (n := j) (by omega)
  refine W.bald (v := .int (Int32.ofInt (px_lst (px_str i) j))) hx hb c1 c2 c3 (fun q => ?_) (by rw [hcl, c6 j hj]; exact congrArg (fun z => some (Value.int z)) t4) rfl rfl sd_lch_8 ?_
  · rcases q with q | q
    · exact nI_pos (n := j) (by omega) q
    · rw [hcl] at q; omega
  refine lv_sipush (v := 255) hx hb sd_lch_9 (by decide) ?_
  refine lv_iand hx hb sd_lch_12 ?_
  refine lv_i2c (v := Int32.ofInt (px_lst (px_str i) j)) hx hb sd_lch_13 (by rw [t6]; exact Int32.toInt32_toUInt32 _) ?_
  exact W.zret hx hb hr t7 (fun t ht _ => ⟨rfl, ht⟩) (fun q h => by cases h) sd_lch_14
theorem sq_sch (l : Launch) (E : se) (i : Nat) (hi : i < 10) (j : Nat) (hj : j < (px_str i).length) : Met l sy_sch (Cond.code sy_sch prog_15_method_56_code 2 (some .char) :: gw) (sq_rm 3 64) (sq_P E [.ref (se_K E i), .int (Int32.ofNat j)]) (sq_Q (some (.int (Int32.ofInt (px_lst (px_str i) j))))) 0 0 (fun _ => False) := by
  refine Met.ofW (cc := prog_15_method_56_code) (maxL := 2) (ret := some .char) (by decide) rfl ?_
  intro p e s m args below meth c s₁ B hml hv
  obtain ⟨rfl, hE⟩ := hv
  have hx := B.exec
  have hb := B.bytes
  have hr := B.returns
  have hts0 := atoms_spec (ws := Cond.code sy_sch prog_15_method_56_code 2 (some .char) :: gw) B.pre
  have hts : ∀ w ∈ gw, w.before _ s = true := fun w h => hts0 w (List.mem_cons_of_mem _ h)
  have hown : s.vm.findClass "java/lang/String" = some m.cls := findClass_of_methodNamed B.named
  have hlocks := B.notSynchronized
  have hS : va_S (se_A E) s.heap s.heap [] := va_S.rf
  have hl := lv_entry ([.ref (se_K E i), .int (Int32.ofNat j)]) (n := 2) (Nat.le_of_ble_eq_true rfl)
  rw [lg_entry_eq]
  generalize (lg_sl ([.ref (se_K E i), .int (Int32.ofNat j)]) ++ List.replicate (2 - (lg_sl ([.ref (se_K E i), .int (Int32.ofNat j)])).length) Slot.unset).toArray = ls at hl ⊢
  have hl : lv_has ls 2 [(0, .ref (se_K E i)), (1, .int (Int32.ofNat j))] := hl
  have hSt := hE.2.2.2.2.2.1
  obtain ⟨t1, t2, t3⟩ := sq_tx i hi
  obtain ⟨t4, t5, t6, t7⟩ := t3 j hj
  refine lv_aload_n hx hb sd_sch_0 rfl (lv_at hl 0 rfl) ?_
  refine sq_call (v := some (.int 1)) (rest := []) (W.runV (As := []) (n := 0) (own := "java/lang/String") (C := "java/lang/String") (index := 492) (b := se_K E i) ⟨hx, hb, hml, hown, hts⟩ (sq_isl l E i hi) (cwV 0 hts (gw_V sk_isl sn_isl ss_isl si_isl sc_isl) rfl rfl rfl (by decide +kernel) ⟨Nat.le_of_ble_eq_true rfl, Nat.le_of_ble_eq_true rfl⟩) ⟨sq_blind E _, vk_recv hSt hi hS, fun U hU hW => (sq_pre hE hS).2 U hU hW⟩ rfl rfl hl.1 rfl (lv_room (by decide)) sd_sch_1 ⟨Nat.le_refl _, Nat.le_refl _⟩) ?_
  refine lv_if_eq (tgt := 16) hx hb sd_sch_4 rfl (fun h => absurd h (by decide)) (fun _ => ?_)
  refine lv_aload_n hx hb sd_sch_7 rfl (lv_at hl 0 rfl) ?_
  refine vk_getf hx hb (hSt.1 i hi).2.2.1 hS hown (hts _ sf_val) (fun _ h => h) sd_sch_8 ?_
  refine lv_iload_n hx hb sd_sch_11 rfl (lv_at hl 1 rfl) ?_
  refine sq_call (v := some (.int (Int32.ofInt (px_lst (px_str i) j)))) (rest := []) (W.runS (As := [.ref (se_V E i), .int (Int32.ofNat j)]) (n := 2) (own := "java/lang/String") (index := 495) ⟨hx, hb, hml, hown, hts⟩ (sq_lch l E i hi j hj) (va_cwS 2 hts (gw_S sk_lch st_lch si_lch sc_lch) rfl rfl rfl (by decide +kernel) ⟨Nat.le_of_ble_eq_true rfl, Nat.le_of_ble_eq_true rfl⟩) (sq_pre hE hS) rfl rfl hl.1 rfl (lv_room (by decide)) sd_sch_12 ⟨Nat.le_refl _, Nat.le_refl _⟩) ?_
  exact W.zret hx hb hr t7 (fun t ht _ => ⟨rfl, ht⟩) (fun q h => by cases h) sd_sch_15
