/-! Step by step. -/
def px_lok (i : Instr) (n : Nat) : Bool := match i with
  | .iconst _ => Nat.beq n 1
  | .lconst _ => Nat.beq n 1
  | .iload_n _ => Nat.beq n 1
  | .lload_n _ => Nat.beq n 1
  | .aload_n _ => Nat.beq n 1
  | .istore_n _ => Nat.beq n 1
  | .lstore_n _ => Nat.beq n 1
  | .astore_n _ => Nat.beq n 1
  | .iadd => Nat.beq n 1
  | .isub => Nat.beq n 1
  | .imul => Nat.beq n 1
  | .idiv => Nat.beq n 1
  | .irem => Nat.beq n 1
  | .ineg => Nat.beq n 1
  | .iand => Nat.beq n 1
  | .ior => Nat.beq n 1
  | .ishl => Nat.beq n 1
  | .ishr => Nat.beq n 1
  | .iushr => Nat.beq n 1
  | .ladd => Nat.beq n 1
  | .lsub => Nat.beq n 1
  | .lmul => Nat.beq n 1
  | .ldiv => Nat.beq n 1
  | .lrem => Nat.beq n 1
  | .land => Nat.beq n 1
  | .lshl => Nat.beq n 1
  | .lshr => Nat.beq n 1
  | .lushr => Nat.beq n 1
  | .lcmp => Nat.beq n 1
  | .i2l => Nat.beq n 1
  | .l2i => Nat.beq n 1
  | .i2b => Nat.beq n 1
  | .dup => Nat.beq n 1
  | .dup2 => Nat.beq n 1
  | .pop => Nat.beq n 1
  | .arraylength => Nat.beq n 1
  | .iaload => Nat.beq n 1
  | .baload => Nat.beq n 1
  | .laload => Nat.beq n 1
  | .aaload => Nat.beq n 1
  | .iastore => Nat.beq n 1
  | .bastore => Nat.beq n 1
  | .lastore => Nat.beq n 1
  | .aastore => Nat.beq n 1
  | .ireturn => Nat.beq n 1
  | .lreturn => Nat.beq n 1
  | .return_ => Nat.beq n 1
  | .bipush _ => Nat.beq n 2
  | .ldc _ => Nat.beq n 2
  | .iload _ => Nat.beq n 2
  | .lload _ => Nat.beq n 2
  | .aload _ => Nat.beq n 2
  | .istore _ => Nat.beq n 2
  | .lstore _ => Nat.beq n 2
  | .astore _ => Nat.beq n 2
  | .newarray _ => Nat.beq n 2
  | .sipush _ => Nat.beq n 3
  | .ldc_w _ => Nat.beq n 3
  | .ldc2_w _ => Nat.beq n 3
  | .goto _ => Nat.beq n 3
  | .getfield _ => Nat.beq n 3
  | .putfield _ => Nat.beq n 3
  | .getstatic _ => Nat.beq n 3
  | .new _ => Nat.beq n 3
  | .anewarray _ => Nat.beq n 3
  | .invokestatic _ => Nat.beq n 3
  | .invokevirtual _ => Nat.beq n 3
  | .invokespecial _ => Nat.beq n 3
  | .ifCond _ _ => Nat.beq n 3
  | .if_icmp _ _ => Nat.beq n 3
  | .iinc _ _ => Nat.beq n 3
  | .multianewarray _ _ => Nat.beq n 4
  | _ => true
def sr_C (E : se) (p : Program) (R : Room) (s : State) (m : MethodId) (args : Array Value) (meth : Method) (c : Code) (b : ByteArray) (M : pm) : Prop :=
  p.tables.exec = Jvm.exec ∧ c.code = b ∧ c.maxLocals = px_max M ∧ s.vm.findClass (px_nm (px_own M)) = some m.cls ∧ (∀ w ∈ gw, w.before args s = true) ∧ (px_ini M = true → meth.name = "<init>") ∧ (∀ e ∈ px_cod M, decode b e.1 = .ok e.2) ∧ (∀ e ∈ px_cod M, px_lok e.2.1 e.2.2 = true) ∧ px_dep M ≤ R.frames ∧ px_loc M ≤ R.locals ∧ se_b E ≤ s.heap.size ∧ se_E E s s.heap ∧ se_L E < 2 ^ 31 ∧ px_own M < 14
theorem px_i1_s {st : List pv} {k : Int → List pv → Option px_A} {a : px_A} (h : px_i1 st k = some a) : ∃ x st', st = (0, x) :: st' ∧ k x st' = some a := by
  unfold px_i1 at h
  split at h
  · exact ⟨_, _, rfl, h⟩
  · cases h
theorem px_i2_s {st : List pv} {k : Int → Int → List pv → Option px_A} {a : px_A} (h : px_i2 st k = some a) : ∃ x y st', st = (0, y) :: (0, x) :: st' ∧ k x y st' = some a := by
  unfold px_i2 at h
  split at h
  · exact ⟨_, _, _, rfl, h⟩
  · cases h
theorem px_l1_s {st : List pv} {k : Int → List pv → Option px_A} {a : px_A} (h : px_l1 st k = some a) : ∃ x st', st = (1, x) :: st' ∧ k x st' = some a := by
  unfold px_l1 at h
  split at h
  · exact ⟨_, _, rfl, h⟩
  · cases h
theorem px_l2_s {st : List pv} {k : Int → Int → List pv → Option px_A} {a : px_A} (h : px_l2 st k = some a) : ∃ x y st', st = (1, y) :: (1, x) :: st' ∧ k x y st' = some a := by
  unfold px_l2 at h
  split at h
  · exact ⟨_, _, _, rfl, h⟩
  · cases h
theorem px_li_s {st : List pv} {k : Int → Int → List pv → Option px_A} {a : px_A} (h : px_li st k = some a) : ∃ x y st', st = (0, y) :: (1, x) :: st' ∧ k x y st' = some a := by
  unfold px_li at h
  split at h
  · exact ⟨_, _, _, rfl, h⟩
  · cases h
theorem px_r1_s {st : List pv} {k : Int → List pv → Option px_A} {a : px_A} (h : px_r1 st k = some a) : ∃ x st', st = (2, x) :: st' ∧ k x st' = some a := by
  unfold px_r1 at h
  split at h
  · exact ⟨_, _, rfl, h⟩
  · cases h
theorem px_bif {α : Type} {g : Bool} {x : Option α} {a : α} (h : (bif g then x else none) = some a) : g = true ∧ x = some a := by
  cases g
  · cases h
  · exact ⟨rfl, h⟩
theorem px_nx_s {pc pc' : Nat} {ls st ls' st' : List pv} {w w' : pw} {g : Bool} (h : px_nx pc ls st w = some (.inl (g, pc', ls', st', w'))) : g = true ∧ pc' = pc ∧ ls' = ls ∧ st' = st ∧ w' = w := by
  cases h
  exact ⟨rfl, rfl, rfl, rfl, rfl⟩
theorem px_gd_s {g0 : Bool} {pc pc' : Nat} {ls st ls' st' : List pv} {w w' : pw} {g : Bool} (h : px_gd g0 pc ls st w = some (.inl (g, pc', ls', st', w'))) : g0 = g ∧ pc' = pc ∧ ls' = ls ∧ st' = st ∧ w' = w := by
  cases h
  exact ⟨rfl, rfl, rfl, rfl, rfl⟩
theorem px_tgt_s {pc : Nat} {off : Int} {t : Nat} (h : px_tgt pc off = some t) : (pc : Int) + off = (t : Int) := by
  unfold px_tgt at h
  split at h
  · rename_i k e
    cases h
    exact e
  · cases h
section SP
variable {E : se} {p : Program} {l : Launch} {e : Env} {R : Room} {s : State} {m : MethodId} {args : Array Value} {below : List Frame} {meth : Method} {c : Code} {Q : State → Prop} {n0 z0 : Nat} {ad0 : List Nat} {b : ByteArray} {M : pm} {pc pc' n : Nat} {ls st ls' st' : List pv} {w w' : pw} {g : Bool}
theorem sp_iconst {x : Int} (C : sr_C E p R s m args meth c b M) (hd : decode b pc = .ok (.iconst x, n)) (hn : px_lok (.iconst x) n = true) (ha : px_act M pc (.iconst x) n ls st w = some (.inl (g, pc', ls', st', w'))) (hg : g = true) (k : sg_G E p l e R s m args below meth c Q (px_max M) n0 z0 ad0 pc' ls' st' w') : sg_G E p l e R s m args below meth c Q (px_max M) n0 z0 ad0 pc ls st w := by
  obtain ⟨hx, hb, hml, hown, hts, hini, hdec, hlok, hfr, hlo, hbase, hE, hL, ho⟩ := C
  have hn := Nat.eq_of_beq_eq_true hn
  subst hn
  have hK := hE.2.2.2.2.2.2.2.2.2.2.1
  obtain ⟨rfl, rfl, rfl, rfl, rfl⟩ := px_gd_s ha
  simp only [Bool.and_eq_true, decide_eq_true_eq] at hg
  exact sg_push (q := (0, x)) (v := fun _ => .null) (u := .int (Int32.ofInt x)) (fun _ => ⟨_, rfl, px_i32 (by omega) (by omega)⟩) (fun k => lv_iconst hx hb hd rfl k) k
theorem sp_bipush {x : Int} (C : sr_C E p R s m args meth c b M) (hd : decode b pc = .ok (.bipush x, n)) (hn : px_lok (.bipush x) n = true) (ha : px_act M pc (.bipush x) n ls st w = some (.inl (g, pc', ls', st', w'))) (hg : g = true) (k : sg_G E p l e R s m args below meth c Q (px_max M) n0 z0 ad0 pc' ls' st' w') : sg_G E p l e R s m args below meth c Q (px_max M) n0 z0 ad0 pc ls st w := by
  obtain ⟨hx, hb, hml, hown, hts, hini, hdec, hlok, hfr, hlo, hbase, hE, hL, ho⟩ := C
  have hn := Nat.eq_of_beq_eq_true hn
  subst hn
  have hK := hE.2.2.2.2.2.2.2.2.2.2.1
  obtain ⟨rfl, rfl, rfl, rfl, rfl⟩ := px_gd_s ha
  simp only [Bool.and_eq_true, decide_eq_true_eq] at hg
  exact sg_push (q := (0, x)) (v := fun _ => .null) (u := .int (Int8.ofInt x).toInt32) (fun _ => ⟨_, rfl, by rw [Int8.toInt_toInt32]; exact Int8.toInt_ofInt_of_le (by omega) (by omega)⟩) (fun k => lv_bipush hx hb hd rfl k) k
theorem sp_sipush {x : Int} (C : sr_C E p R s m args meth c b M) (hd : decode b pc = .ok (.sipush x, n)) (hn : px_lok (.sipush x) n = true) (ha : px_act M pc (.sipush x) n ls st w = some (.inl (g, pc', ls', st', w'))) (hg : g = true) (k : sg_G E p l e R s m args below meth c Q (px_max M) n0 z0 ad0 pc' ls' st' w') : sg_G E p l e R s m args below meth c Q (px_max M) n0 z0 ad0 pc ls st w := by
  obtain ⟨hx, hb, hml, hown, hts, hini, hdec, hlok, hfr, hlo, hbase, hE, hL, ho⟩ := C
  have hn := Nat.eq_of_beq_eq_true hn
  subst hn
  have hK := hE.2.2.2.2.2.2.2.2.2.2.1
  obtain ⟨rfl, rfl, rfl, rfl, rfl⟩ := px_gd_s ha
  simp only [Bool.and_eq_true, decide_eq_true_eq] at hg
  exact sg_push (q := (0, x)) (v := fun _ => .null) (u := .int (Int16.ofInt x).toInt32) (fun _ => ⟨_, rfl, by rw [Int16.toInt_toInt32]; exact Int16.toInt_ofInt_of_le (by omega) (by omega)⟩) (fun k => lv_sipush hx hb hd rfl k) k
theorem sp_lconst {x : Fin 2} (C : sr_C E p R s m args meth c b M) (hd : decode b pc = .ok (.lconst x, n)) (hn : px_lok (.lconst x) n = true) (ha : px_act M pc (.lconst x) n ls st w = some (.inl (g, pc', ls', st', w'))) (hg : g = true) (k : sg_G E p l e R s m args below meth c Q (px_max M) n0 z0 ad0 pc' ls' st' w') : sg_G E p l e R s m args below meth c Q (px_max M) n0 z0 ad0 pc ls st w := by
  obtain ⟨hx, hb, hml, hown, hts, hini, hdec, hlok, hfr, hlo, hbase, hE, hL, ho⟩ := C
  have hn := Nat.eq_of_beq_eq_true hn
  subst hn
  have hK := hE.2.2.2.2.2.2.2.2.2.2.1
  obtain ⟨-, rfl, rfl, rfl, rfl⟩ := px_nx_s ha
  exact sg_push (q := (1, ((x : Nat) : Int))) (v := fun _ => .null) (u := .long (Int64.ofNat (x : Nat))) (fun _ => ⟨_, rfl, by have := x.isLt; exact lN_toInt (by omega)⟩) (fun k => lv_lconst hx hb hd rfl k) k
theorem sp_iload {x : Nat} (C : sr_C E p R s m args meth c b M) (hd : decode b pc = .ok (.iload x, n)) (hn : px_lok (.iload x) n = true) (ha : px_act M pc (.iload x) n ls st w = some (.inl (g, pc', ls', st', w'))) (hg : g = true) (k : sg_G E p l e R s m args below meth c Q (px_max M) n0 z0 ad0 pc' ls' st' w') : sg_G E p l e R s m args below meth c Q (px_max M) n0 z0 ad0 pc ls st w := by
  obtain ⟨hx, hb, hml, hown, hts, hini, hdec, hlok, hfr, hlo, hbase, hE, hL, ho⟩ := C
  have hn := Nat.eq_of_beq_eq_true hn
  subst hn
  have hK := hE.2.2.2.2.2.2.2.2.2.2.1
  have ha : px_ld 0 (x : Nat) (pc + _) ls st w = some (.inl (g, pc', ls', st', w')) := ha
  unfold px_ld at ha
  obtain ⟨h0, ha⟩ := px_bif ha
  obtain ⟨-, rfl, rfl, rfl, rfl⟩ := px_nx_s ha
  have h0 := Nat.eq_of_beq_eq_true h0
  have hq : px_nth ls' (x : Nat) = (0, (px_nth ls' (x : Nat)).2) := by rw [← h0]
  refine sg_load (i := (x : Nat)) (by omega) (fun {la} {u} {rest} {H} {locs} {cells} {slots} {ad} h hu k => ?_) (by rw [hq]; exact k)
  rw [hq] at hu
  obtain ⟨y, rfl, -⟩ := (hu : ∃ y : Int32, u = .int y ∧ y.toInt = _)
  exact lv_iload hx hb hd h k
theorem sp_iload_n {x : Fin 4} (C : sr_C E p R s m args meth c b M) (hd : decode b pc = .ok (.iload_n x, n)) (hn : px_lok (.iload_n x) n = true) (ha : px_act M pc (.iload_n x) n ls st w = some (.inl (g, pc', ls', st', w'))) (hg : g = true) (k : sg_G E p l e R s m args below meth c Q (px_max M) n0 z0 ad0 pc' ls' st' w') : sg_G E p l e R s m args below meth c Q (px_max M) n0 z0 ad0 pc ls st w := by
  obtain ⟨hx, hb, hml, hown, hts, hini, hdec, hlok, hfr, hlo, hbase, hE, hL, ho⟩ := C
  have hn := Nat.eq_of_beq_eq_true hn
  subst hn
  have hK := hE.2.2.2.2.2.2.2.2.2.2.1
  have ha : px_ld 0 (x : Nat) (pc + _) ls st w = some (.inl (g, pc', ls', st', w')) := ha
  unfold px_ld at ha
  obtain ⟨h0, ha⟩ := px_bif ha
  obtain ⟨-, rfl, rfl, rfl, rfl⟩ := px_nx_s ha
  have h0 := Nat.eq_of_beq_eq_true h0
  have hq : px_nth ls' (x : Nat) = (0, (px_nth ls' (x : Nat)).2) := by rw [← h0]
  refine sg_load (i := (x : Nat)) (by omega) (fun {la} {u} {rest} {H} {locs} {cells} {slots} {ad} h hu k => ?_) (by rw [hq]; exact k)
  rw [hq] at hu
  obtain ⟨y, rfl, -⟩ := (hu : ∃ y : Int32, u = .int y ∧ y.toInt = _)
  exact lv_iload_n hx hb hd rfl h k
theorem sp_lload {x : Nat} (C : sr_C E p R s m args meth c b M) (hd : decode b pc = .ok (.lload x, n)) (hn : px_lok (.lload x) n = true) (ha : px_act M pc (.lload x) n ls st w = some (.inl (g, pc', ls', st', w'))) (hg : g = true) (k : sg_G E p l e R s m args below meth c Q (px_max M) n0 z0 ad0 pc' ls' st' w') : sg_G E p l e R s m args below meth c Q (px_max M) n0 z0 ad0 pc ls st w := by
  obtain ⟨hx, hb, hml, hown, hts, hini, hdec, hlok, hfr, hlo, hbase, hE, hL, ho⟩ := C
  have hn := Nat.eq_of_beq_eq_true hn
  subst hn
  have hK := hE.2.2.2.2.2.2.2.2.2.2.1
  have ha : px_ld 1 (x : Nat) (pc + _) ls st w = some (.inl (g, pc', ls', st', w')) := ha
  unfold px_ld at ha
  obtain ⟨h0, ha⟩ := px_bif ha
  obtain ⟨-, rfl, rfl, rfl, rfl⟩ := px_nx_s ha
  have h0 := Nat.eq_of_beq_eq_true h0
  have hq : px_nth ls' (x : Nat) = (1, (px_nth ls' (x : Nat)).2) := by rw [← h0]
  refine sg_load (i := (x : Nat)) (by omega) (fun {la} {u} {rest} {H} {locs} {cells} {slots} {ad} h hu k => ?_) (by rw [hq]; exact k)
  rw [hq] at hu
  obtain ⟨y, rfl, -⟩ := (hu : ∃ y : Int64, u = .long y ∧ y.toInt = _)
  exact lv_lload hx hb hd h k
theorem sp_lload_n {x : Fin 4} (C : sr_C E p R s m args meth c b M) (hd : decode b pc = .ok (.lload_n x, n)) (hn : px_lok (.lload_n x) n = true) (ha : px_act M pc (.lload_n x) n ls st w = some (.inl (g, pc', ls', st', w'))) (hg : g = true) (k : sg_G E p l e R s m args below meth c Q (px_max M) n0 z0 ad0 pc' ls' st' w') : sg_G E p l e R s m args below meth c Q (px_max M) n0 z0 ad0 pc ls st w := by
  obtain ⟨hx, hb, hml, hown, hts, hini, hdec, hlok, hfr, hlo, hbase, hE, hL, ho⟩ := C
  have hn := Nat.eq_of_beq_eq_true hn
  subst hn
  have hK := hE.2.2.2.2.2.2.2.2.2.2.1
  have ha : px_ld 1 (x : Nat) (pc + _) ls st w = some (.inl (g, pc', ls', st', w')) := ha
  unfold px_ld at ha
  obtain ⟨h0, ha⟩ := px_bif ha
  obtain ⟨-, rfl, rfl, rfl, rfl⟩ := px_nx_s ha
  have h0 := Nat.eq_of_beq_eq_true h0
  have hq : px_nth ls' (x : Nat) = (1, (px_nth ls' (x : Nat)).2) := by rw [← h0]
  refine sg_load (i := (x : Nat)) (by omega) (fun {la} {u} {rest} {H} {locs} {cells} {slots} {ad} h hu k => ?_) (by rw [hq]; exact k)
  rw [hq] at hu
  obtain ⟨y, rfl, -⟩ := (hu : ∃ y : Int64, u = .long y ∧ y.toInt = _)
  exact lv_lload_n hx hb hd rfl h k
theorem sp_aload {x : Nat} (C : sr_C E p R s m args meth c b M) (hd : decode b pc = .ok (.aload x, n)) (hn : px_lok (.aload x) n = true) (ha : px_act M pc (.aload x) n ls st w = some (.inl (g, pc', ls', st', w'))) (hg : g = true) (k : sg_G E p l e R s m args below meth c Q (px_max M) n0 z0 ad0 pc' ls' st' w') : sg_G E p l e R s m args below meth c Q (px_max M) n0 z0 ad0 pc ls st w := by
  obtain ⟨hx, hb, hml, hown, hts, hini, hdec, hlok, hfr, hlo, hbase, hE, hL, ho⟩ := C
  have hn := Nat.eq_of_beq_eq_true hn
  subst hn
  have hK := hE.2.2.2.2.2.2.2.2.2.2.1
  have ha : px_lda (x : Nat) (pc + _) ls st w = some (.inl (g, pc', ls', st', w')) := ha
  unfold px_lda at ha
  obtain ⟨h0, ha⟩ := px_bif ha
  obtain ⟨-, rfl, rfl, rfl, rfl⟩ := px_nx_s ha
  rw [Bool.and_eq_true] at h0
  have h1 := Nat.le_of_ble_eq_true h0.1
  have h2 := Nat.le_of_ble_eq_true h0.2
  refine sg_load (i := (x : Nat)) (by omega) (fun {la} {u} {rest} {H} {locs} {cells} {slots} {ad} h hu k => ?_) k
  have hr : u = .null ∨ ∃ a, u = .ref a := by
    generalize px_nth ls' (x : Nat) = q at h1 h2 hu
    obtain ⟨t, z⟩ := q
    dsimp only at h1 h2
    rcases (show t = 2 ∨ t = 3 ∨ t = 4 ∨ t = 5 by omega) with rfl | rfl | rfl | rfl
    · obtain ⟨o, rfl, -⟩ := (hu : ∃ o, u = va_rf o ∧ sr_o ad z o)
      cases o
      · exact Or.inl rfl
      · exact Or.inr ⟨_, rfl⟩
    · obtain ⟨i, -, -, rfl⟩ := (hu : ∃ i : Nat, i < 10 ∧ z = (i : Int) ∧ u = .ref (se_K E i))
      exact Or.inr ⟨_, rfl⟩
    · obtain ⟨i, -, -, rfl⟩ := (hu : ∃ i : Nat, i < 4 ∧ z = (i : Int) ∧ u = .ref (se_S E i))
      exact Or.inr ⟨_, rfl⟩
    · obtain ⟨-, rfl⟩ := (hu : z = (se_L E : Int) ∧ u = .ref (se_s E))
      exact Or.inr ⟨_, rfl⟩
  rcases hr with rfl | ⟨a, rfl⟩
  · exact lv_aloadN hx hb hd h k
  · exact lv_aload hx hb hd h k
theorem sp_aload_n {x : Fin 4} (C : sr_C E p R s m args meth c b M) (hd : decode b pc = .ok (.aload_n x, n)) (hn : px_lok (.aload_n x) n = true) (ha : px_act M pc (.aload_n x) n ls st w = some (.inl (g, pc', ls', st', w'))) (hg : g = true) (k : sg_G E p l e R s m args below meth c Q (px_max M) n0 z0 ad0 pc' ls' st' w') : sg_G E p l e R s m args below meth c Q (px_max M) n0 z0 ad0 pc ls st w := by
  obtain ⟨hx, hb, hml, hown, hts, hini, hdec, hlok, hfr, hlo, hbase, hE, hL, ho⟩ := C
  have hn := Nat.eq_of_beq_eq_true hn
  subst hn
  have hK := hE.2.2.2.2.2.2.2.2.2.2.1
  have ha : px_lda (x : Nat) (pc + _) ls st w = some (.inl (g, pc', ls', st', w')) := ha
  unfold px_lda at ha
  obtain ⟨h0, ha⟩ := px_bif ha
  obtain ⟨-, rfl, rfl, rfl, rfl⟩ := px_nx_s ha
  rw [Bool.and_eq_true] at h0
  have h1 := Nat.le_of_ble_eq_true h0.1
  have h2 := Nat.le_of_ble_eq_true h0.2
  refine sg_load (i := (x : Nat)) (by omega) (fun {la} {u} {rest} {H} {locs} {cells} {slots} {ad} h hu k => ?_) k
  have hr : u = .null ∨ ∃ a, u = .ref a := by
    generalize px_nth ls' (x : Nat) = q at h1 h2 hu
    obtain ⟨t, z⟩ := q
    dsimp only at h1 h2
    rcases (show t = 2 ∨ t = 3 ∨ t = 4 ∨ t = 5 by omega) with rfl | rfl | rfl | rfl
    · obtain ⟨o, rfl, -⟩ := (hu : ∃ o, u = va_rf o ∧ sr_o ad z o)
      cases o
      · exact Or.inl rfl
      · exact Or.inr ⟨_, rfl⟩
    · obtain ⟨i, -, -, rfl⟩ := (hu : ∃ i : Nat, i < 10 ∧ z = (i : Int) ∧ u = .ref (se_K E i))
      exact Or.inr ⟨_, rfl⟩
    · obtain ⟨i, -, -, rfl⟩ := (hu : ∃ i : Nat, i < 4 ∧ z = (i : Int) ∧ u = .ref (se_S E i))
      exact Or.inr ⟨_, rfl⟩
    · obtain ⟨-, rfl⟩ := (hu : z = (se_L E : Int) ∧ u = .ref (se_s E))
      exact Or.inr ⟨_, rfl⟩
  rcases hr with rfl | ⟨a, rfl⟩
  · exact lv_aload_nN hx hb hd rfl h k
  · exact lv_aload_n hx hb hd rfl h k
theorem sp_istore {x : Nat} (C : sr_C E p R s m args meth c b M) (hd : decode b pc = .ok (.istore x, n)) (hn : px_lok (.istore x) n = true) (ha : px_act M pc (.istore x) n ls st w = some (.inl (g, pc', ls', st', w'))) (hg : g = true) (k : sg_G E p l e R s m args below meth c Q (px_max M) n0 z0 ad0 pc' ls' st' w') : sg_G E p l e R s m args below meth c Q (px_max M) n0 z0 ad0 pc ls st w := by
  obtain ⟨hx, hb, hml, hown, hts, hini, hdec, hlok, hfr, hlo, hbase, hE, hL, ho⟩ := C
  have hn := Nat.eq_of_beq_eq_true hn
  subst hn
  have hK := hE.2.2.2.2.2.2.2.2.2.2.1
  have ha : px_sto M 0 (x : Nat) (pc + _) ls st w = some (.inl (g, pc', ls', st', w')) := ha
  unfold px_sto at ha
  split at ha
  · rename_i s0 x0 st0 h00
    obtain ⟨h0, ha⟩ := px_bif ha
    rw [px_frc_eq] at ha
    obtain ⟨-, rfl, rfl, rfl, rfl⟩ := px_nx_s ha
    rw [Bool.and_eq_true] at h0
    have h1 := Nat.eq_of_beq_eq_true h0.1
    subst h1
    have h2 : (x : Nat) < px_max M := Nat.le_of_ble_eq_true h0.2
    refine sg_store (i := (x : Nat)) (q := (0, x0)) h2 (fun {la} {u} {rest} {H} {locs} {cells} {slots} {ad} {lv} hu hl k => ?_) k
    obtain ⟨y, rfl, -⟩ := (hu : ∃ y : Int32, u = .int y ∧ y.toInt = x0)
    exact lv_istore hx hb hd hl h2 rfl k
  · cases ha
theorem sp_istore_n {x : Fin 4} (C : sr_C E p R s m args meth c b M) (hd : decode b pc = .ok (.istore_n x, n)) (hn : px_lok (.istore_n x) n = true) (ha : px_act M pc (.istore_n x) n ls st w = some (.inl (g, pc', ls', st', w'))) (hg : g = true) (k : sg_G E p l e R s m args below meth c Q (px_max M) n0 z0 ad0 pc' ls' st' w') : sg_G E p l e R s m args below meth c Q (px_max M) n0 z0 ad0 pc ls st w := by
  obtain ⟨hx, hb, hml, hown, hts, hini, hdec, hlok, hfr, hlo, hbase, hE, hL, ho⟩ := C
  have hn := Nat.eq_of_beq_eq_true hn
  subst hn
  have hK := hE.2.2.2.2.2.2.2.2.2.2.1
  have ha : px_sto M 0 (x : Nat) (pc + _) ls st w = some (.inl (g, pc', ls', st', w')) := ha
  unfold px_sto at ha
  split at ha
  · rename_i s0 x0 st0 h00
    obtain ⟨h0, ha⟩ := px_bif ha
    rw [px_frc_eq] at ha
    obtain ⟨-, rfl, rfl, rfl, rfl⟩ := px_nx_s ha
    rw [Bool.and_eq_true] at h0
    have h1 := Nat.eq_of_beq_eq_true h0.1
    subst h1
    have h2 : (x : Nat) < px_max M := Nat.le_of_ble_eq_true h0.2
    refine sg_store (i := (x : Nat)) (q := (0, x0)) h2 (fun {la} {u} {rest} {H} {locs} {cells} {slots} {ad} {lv} hu hl k => ?_) k
    obtain ⟨y, rfl, -⟩ := (hu : ∃ y : Int32, u = .int y ∧ y.toInt = x0)
    exact lv_istore_n hx hb hd rfl hl h2 rfl k
  · cases ha
theorem sp_lstore {x : Nat} (C : sr_C E p R s m args meth c b M) (hd : decode b pc = .ok (.lstore x, n)) (hn : px_lok (.lstore x) n = true) (ha : px_act M pc (.lstore x) n ls st w = some (.inl (g, pc', ls', st', w'))) (hg : g = true) (k : sg_G E p l e R s m args below meth c Q (px_max M) n0 z0 ad0 pc' ls' st' w') : sg_G E p l e R s m args below meth c Q (px_max M) n0 z0 ad0 pc ls st w := by
  obtain ⟨hx, hb, hml, hown, hts, hini, hdec, hlok, hfr, hlo, hbase, hE, hL, ho⟩ := C
  have hn := Nat.eq_of_beq_eq_true hn
  subst hn
  have hK := hE.2.2.2.2.2.2.2.2.2.2.1
  have ha : px_sto M 1 (x : Nat) (pc + _) ls st w = some (.inl (g, pc', ls', st', w')) := ha
  unfold px_sto at ha
  split at ha
  · rename_i s0 x0 st0 h00
    obtain ⟨h0, ha⟩ := px_bif ha
    rw [px_frc_eq] at ha
    obtain ⟨-, rfl, rfl, rfl, rfl⟩ := px_nx_s ha
    rw [Bool.and_eq_true] at h0
    have h1 := Nat.eq_of_beq_eq_true h0.1
    subst h1
    have h2 : (x : Nat) + 1 < px_max M := Nat.le_of_ble_eq_true h0.2
    refine sg_store2 (i := (x : Nat)) (q := (1, x0)) h2 (fun {la} {u} {rest} {H} {locs} {cells} {slots} {ad} {lv} hu hl k => ?_) k
    obtain ⟨y, rfl, -⟩ := (hu : ∃ y : Int64, u = .long y ∧ y.toInt = x0)
    exact lv_lstore hx hb hd hl h2 rfl k
  · cases ha
theorem sp_lstore_n {x : Fin 4} (C : sr_C E p R s m args meth c b M) (hd : decode b pc = .ok (.lstore_n x, n)) (hn : px_lok (.lstore_n x) n = true) (ha : px_act M pc (.lstore_n x) n ls st w = some (.inl (g, pc', ls', st', w'))) (hg : g = true) (k : sg_G E p l e R s m args below meth c Q (px_max M) n0 z0 ad0 pc' ls' st' w') : sg_G E p l e R s m args below meth c Q (px_max M) n0 z0 ad0 pc ls st w := by
  obtain ⟨hx, hb, hml, hown, hts, hini, hdec, hlok, hfr, hlo, hbase, hE, hL, ho⟩ := C
  have hn := Nat.eq_of_beq_eq_true hn
  subst hn
  have hK := hE.2.2.2.2.2.2.2.2.2.2.1
  have ha : px_sto M 1 (x : Nat) (pc + _) ls st w = some (.inl (g, pc', ls', st', w')) := ha
  unfold px_sto at ha
  split at ha
  · rename_i s0 x0 st0 h00
    obtain ⟨h0, ha⟩ := px_bif ha
    rw [px_frc_eq] at ha
    obtain ⟨-, rfl, rfl, rfl, rfl⟩ := px_nx_s ha
    rw [Bool.and_eq_true] at h0
    have h1 := Nat.eq_of_beq_eq_true h0.1
    subst h1
    have h2 : (x : Nat) + 1 < px_max M := Nat.le_of_ble_eq_true h0.2
    refine sg_store2 (i := (x : Nat)) (q := (1, x0)) h2 (fun {la} {u} {rest} {H} {locs} {cells} {slots} {ad} {lv} hu hl k => ?_) k
    obtain ⟨y, rfl, -⟩ := (hu : ∃ y : Int64, u = .long y ∧ y.toInt = x0)
    exact lv_lstore_n hx hb hd rfl hl h2 rfl k
  · cases ha
theorem sp_astore {x : Nat} (C : sr_C E p R s m args meth c b M) (hd : decode b pc = .ok (.astore x, n)) (hn : px_lok (.astore x) n = true) (ha : px_act M pc (.astore x) n ls st w = some (.inl (g, pc', ls', st', w'))) (hg : g = true) (k : sg_G E p l e R s m args below meth c Q (px_max M) n0 z0 ad0 pc' ls' st' w') : sg_G E p l e R s m args below meth c Q (px_max M) n0 z0 ad0 pc ls st w := by
  obtain ⟨hx, hb, hml, hown, hts, hini, hdec, hlok, hfr, hlo, hbase, hE, hL, ho⟩ := C
  have hn := Nat.eq_of_beq_eq_true hn
  subst hn
  have hK := hE.2.2.2.2.2.2.2.2.2.2.1
  have ha : px_sta' M (x : Nat) (pc + _) ls st w = some (.inl (g, pc', ls', st', w')) := ha
  unfold px_sta' at ha
  split at ha
  · rename_i s0 x0 st0 h00
    obtain ⟨h0, ha⟩ := px_bif ha
    rw [px_frc_eq] at ha
    obtain ⟨-, rfl, rfl, rfl, rfl⟩ := px_nx_s ha
    rw [Bool.and_eq_true] at h0
    have h1 := Nat.eq_of_beq_eq_true h0.1
    subst h1
    have h2 : (x : Nat) < px_max M := Nat.le_of_ble_eq_true h0.2
    refine sg_store (i := (x : Nat)) (q := (2, x0)) h2 (fun {la} {u} {rest} {H} {locs} {cells} {slots} {ad} {lv} hu hl k => ?_) k
    obtain ⟨o, rfl, -⟩ := (hu : ∃ o, u = va_rf o ∧ sr_o ad x0 o)
    cases o with
    | none => exact lv_astoreN hx hb hd hl h2 rfl k
    | some a => exact lv_astore hx hb hd hl h2 rfl k
  · cases ha
theorem sp_astore_n {x : Fin 4} (C : sr_C E p R s m args meth c b M) (hd : decode b pc = .ok (.astore_n x, n)) (hn : px_lok (.astore_n x) n = true) (ha : px_act M pc (.astore_n x) n ls st w = some (.inl (g, pc', ls', st', w'))) (hg : g = true) (k : sg_G E p l e R s m args below meth c Q (px_max M) n0 z0 ad0 pc' ls' st' w') : sg_G E p l e R s m args below meth c Q (px_max M) n0 z0 ad0 pc ls st w := by
  obtain ⟨hx, hb, hml, hown, hts, hini, hdec, hlok, hfr, hlo, hbase, hE, hL, ho⟩ := C
  have hn := Nat.eq_of_beq_eq_true hn
  subst hn
  have hK := hE.2.2.2.2.2.2.2.2.2.2.1
  have ha : px_sta' M (x : Nat) (pc + _) ls st w = some (.inl (g, pc', ls', st', w')) := ha
  unfold px_sta' at ha
  split at ha
  · rename_i s0 x0 st0 h00
    obtain ⟨h0, ha⟩ := px_bif ha
    rw [px_frc_eq] at ha
    obtain ⟨-, rfl, rfl, rfl, rfl⟩ := px_nx_s ha
    rw [Bool.and_eq_true] at h0
    have h1 := Nat.eq_of_beq_eq_true h0.1
    subst h1
    have h2 : (x : Nat) < px_max M := Nat.le_of_ble_eq_true h0.2
    refine sg_store (i := (x : Nat)) (q := (2, x0)) h2 (fun {la} {u} {rest} {H} {locs} {cells} {slots} {ad} {lv} hu hl k => ?_) k
    obtain ⟨o, rfl, -⟩ := (hu : ∃ o, u = va_rf o ∧ sr_o ad x0 o)
    cases o with
    | none => exact lv_astore_nN hx hb hd rfl hl h2 rfl k
    | some a => exact lv_astore_n hx hb hd rfl hl h2 rfl k
  · cases ha
theorem sp_iinc {x : Nat} {d : Int} (C : sr_C E p R s m args meth c b M) (hd : decode b pc = .ok (.iinc x d, n)) (hn : px_lok (.iinc x d) n = true) (ha : px_act M pc (.iinc x d) n ls st w = some (.inl (g, pc', ls', st', w'))) (hg : g = true) (k : sg_G E p l e R s m args below meth c Q (px_max M) n0 z0 ad0 pc' ls' st' w') : sg_G E p l e R s m args below meth c Q (px_max M) n0 z0 ad0 pc ls st w := by
  obtain ⟨hx, hb, hml, hown, hts, hini, hdec, hlok, hfr, hlo, hbase, hE, hL, ho⟩ := C
  have hn := Nat.eq_of_beq_eq_true hn
  subst hn
  have hK := hE.2.2.2.2.2.2.2.2.2.2.1
  have ha : (bif Nat.beq (px_nth ls x).1 0 && (Nat.blt x (px_max M) && (Nat.beq 3 3 && (decide (-128 ≤ d) && decide (d < 128)))) then (px_frc (px_st1 ls x (0, px_w ((px_nth ls x).2 + d))) fun ls => px_nx (pc + 3) ls st w) else none) = some (.inl (g, pc', ls', st', w')) := ha
  obtain ⟨h0, ha⟩ := px_bif ha
  rw [px_frc_eq] at ha
  obtain ⟨-, rfl, rfl, rfl, rfl⟩ := px_nx_s ha
  simp only [Bool.and_eq_true, decide_eq_true_eq] at h0
  exact sg_iinc hx hb hd (Nat.le_of_ble_eq_true h0.2.1) h0.2.2.2.1 h0.2.2.2.2 (Nat.eq_of_beq_eq_true h0.1) k
theorem sp_iadd (C : sr_C E p R s m args meth c b M) (hd : decode b pc = .ok (.iadd, n)) (hn : px_lok (.iadd) n = true) (ha : px_act M pc (.iadd) n ls st w = some (.inl (g, pc', ls', st', w'))) (hg : g = true) (k : sg_G E p l e R s m args below meth c Q (px_max M) n0 z0 ad0 pc' ls' st' w') : sg_G E p l e R s m args below meth c Q (px_max M) n0 z0 ad0 pc ls st w := by
  obtain ⟨hx, hb, hml, hown, hts, hini, hdec, hlok, hfr, hlo, hbase, hE, hL, ho⟩ := C
  have hn := Nat.eq_of_beq_eq_true hn
  subst hn
  have hK := hE.2.2.2.2.2.2.2.2.2.2.1
  obtain ⟨x, y, st, rfl, ha⟩ := px_i2_s ha
  obtain ⟨-, rfl, rfl, rfl, rfl⟩ := px_nx_s ha
  exact sg_ii (op := fun x y => x + y) (f := fun x y => px_w (x + y)) px_w_add (fun _ _ k => lv_iadd hx hb hd k) k
theorem sp_isub (C : sr_C E p R s m args meth c b M) (hd : decode b pc = .ok (.isub, n)) (hn : px_lok (.isub) n = true) (ha : px_act M pc (.isub) n ls st w = some (.inl (g, pc', ls', st', w'))) (hg : g = true) (k : sg_G E p l e R s m args below meth c Q (px_max M) n0 z0 ad0 pc' ls' st' w') : sg_G E p l e R s m args below meth c Q (px_max M) n0 z0 ad0 pc ls st w := by
  obtain ⟨hx, hb, hml, hown, hts, hini, hdec, hlok, hfr, hlo, hbase, hE, hL, ho⟩ := C
  have hn := Nat.eq_of_beq_eq_true hn
  subst hn
  have hK := hE.2.2.2.2.2.2.2.2.2.2.1
  obtain ⟨x, y, st, rfl, ha⟩ := px_i2_s ha
  obtain ⟨-, rfl, rfl, rfl, rfl⟩ := px_nx_s ha
  exact sg_ii (op := fun x y => x - y) (f := fun x y => px_w (x - y)) px_w_sub (fun _ _ k => lv_isub hx hb hd k) k
theorem sp_imul (C : sr_C E p R s m args meth c b M) (hd : decode b pc = .ok (.imul, n)) (hn : px_lok (.imul) n = true) (ha : px_act M pc (.imul) n ls st w = some (.inl (g, pc', ls', st', w'))) (hg : g = true) (k : sg_G E p l e R s m args below meth c Q (px_max M) n0 z0 ad0 pc' ls' st' w') : sg_G E p l e R s m args below meth c Q (px_max M) n0 z0 ad0 pc ls st w := by
  obtain ⟨hx, hb, hml, hown, hts, hini, hdec, hlok, hfr, hlo, hbase, hE, hL, ho⟩ := C
  have hn := Nat.eq_of_beq_eq_true hn
  subst hn
  have hK := hE.2.2.2.2.2.2.2.2.2.2.1
  obtain ⟨x, y, st, rfl, ha⟩ := px_i2_s ha
  obtain ⟨-, rfl, rfl, rfl, rfl⟩ := px_nx_s ha
  exact sg_ii (op := fun x y => x * y) (f := fun x y => px_w (x * y)) px_w_mul (fun _ _ k => lv_imul hx hb hd k) k
theorem sp_iand (C : sr_C E p R s m args meth c b M) (hd : decode b pc = .ok (.iand, n)) (hn : px_lok (.iand) n = true) (ha : px_act M pc (.iand) n ls st w = some (.inl (g, pc', ls', st', w'))) (hg : g = true) (k : sg_G E p l e R s m args below meth c Q (px_max M) n0 z0 ad0 pc' ls' st' w') : sg_G E p l e R s m args below meth c Q (px_max M) n0 z0 ad0 pc ls st w := by
  obtain ⟨hx, hb, hml, hown, hts, hini, hdec, hlok, hfr, hlo, hbase, hE, hL, ho⟩ := C
  have hn := Nat.eq_of_beq_eq_true hn
  subst hn
  have hK := hE.2.2.2.2.2.2.2.2.2.2.1
  obtain ⟨x, y, st, rfl, ha⟩ := px_i2_s ha
  obtain ⟨-, rfl, rfl, rfl, rfl⟩ := px_nx_s ha
  exact sg_ii (op := fun x y => x &&& y) (f := px_and) px_and_eq (fun _ _ k => lv_iand hx hb hd k) k
theorem sp_ior (C : sr_C E p R s m args meth c b M) (hd : decode b pc = .ok (.ior, n)) (hn : px_lok (.ior) n = true) (ha : px_act M pc (.ior) n ls st w = some (.inl (g, pc', ls', st', w'))) (hg : g = true) (k : sg_G E p l e R s m args below meth c Q (px_max M) n0 z0 ad0 pc' ls' st' w') : sg_G E p l e R s m args below meth c Q (px_max M) n0 z0 ad0 pc ls st w := by
  obtain ⟨hx, hb, hml, hown, hts, hini, hdec, hlok, hfr, hlo, hbase, hE, hL, ho⟩ := C
  have hn := Nat.eq_of_beq_eq_true hn
  subst hn
  have hK := hE.2.2.2.2.2.2.2.2.2.2.1
  obtain ⟨x, y, st, rfl, ha⟩ := px_i2_s ha
  obtain ⟨-, rfl, rfl, rfl, rfl⟩ := px_nx_s ha
  exact sg_ii (op := fun x y => x ||| y) (f := px_or) px_or_eq (fun _ _ k => lv_ior hx hb hd k) k
theorem sp_idiv (C : sr_C E p R s m args meth c b M) (hd : decode b pc = .ok (.idiv, n)) (hn : px_lok (.idiv) n = true) (ha : px_act M pc (.idiv) n ls st w = some (.inl (g, pc', ls', st', w'))) (hg : g = true) (k : sg_G E p l e R s m args below meth c Q (px_max M) n0 z0 ad0 pc' ls' st' w') : sg_G E p l e R s m args below meth c Q (px_max M) n0 z0 ad0 pc ls st w := by
  obtain ⟨hx, hb, hml, hown, hts, hini, hdec, hlok, hfr, hlo, hbase, hE, hL, ho⟩ := C
  have hn := Nat.eq_of_beq_eq_true hn
  subst hn
  have hK := hE.2.2.2.2.2.2.2.2.2.2.1
  obtain ⟨x, y, st, rfl, ha⟩ := px_i2_s ha
  obtain ⟨rfl, rfl, rfl, rfl, rfl⟩ := px_gd_s ha
  have hg : ¬ y = 0 := by simpa using hg
  exact sg_ii (op := fun x y => x / y) (f := fun x y => px_w (Int.tdiv x y)) px_w_div (fun _ hy k => lv_idiv hx hb hd (px_z32 (by rw [hy]; exact hg)) k) k
theorem sp_irem (C : sr_C E p R s m args meth c b M) (hd : decode b pc = .ok (.irem, n)) (hn : px_lok (.irem) n = true) (ha : px_act M pc (.irem) n ls st w = some (.inl (g, pc', ls', st', w'))) (hg : g = true) (k : sg_G E p l e R s m args below meth c Q (px_max M) n0 z0 ad0 pc' ls' st' w') : sg_G E p l e R s m args below meth c Q (px_max M) n0 z0 ad0 pc ls st w := by
  obtain ⟨hx, hb, hml, hown, hts, hini, hdec, hlok, hfr, hlo, hbase, hE, hL, ho⟩ := C
  have hn := Nat.eq_of_beq_eq_true hn
  subst hn
  have hK := hE.2.2.2.2.2.2.2.2.2.2.1
  obtain ⟨x, y, st, rfl, ha⟩ := px_i2_s ha
  obtain ⟨rfl, rfl, rfl, rfl, rfl⟩ := px_gd_s ha
  have hg : ¬ y = 0 := by simpa using hg
  exact sg_ii (op := fun x y => x - x / y * y) (f := fun x y => Int.tmod x y) rem_toInt (fun _ hy k => lv_irem hx hb hd (px_z32 (by rw [hy]; exact hg)) k) k
theorem sp_ishl (C : sr_C E p R s m args meth c b M) (hd : decode b pc = .ok (.ishl, n)) (hn : px_lok (.ishl) n = true) (ha : px_act M pc (.ishl) n ls st w = some (.inl (g, pc', ls', st', w'))) (hg : g = true) (k : sg_G E p l e R s m args below meth c Q (px_max M) n0 z0 ad0 pc' ls' st' w') : sg_G E p l e R s m args below meth c Q (px_max M) n0 z0 ad0 pc ls st w := by
  obtain ⟨hx, hb, hml, hown, hts, hini, hdec, hlok, hfr, hlo, hbase, hE, hL, ho⟩ := C
  have hn := Nat.eq_of_beq_eq_true hn
  subst hn
  have hK := hE.2.2.2.2.2.2.2.2.2.2.1
  obtain ⟨x, y, st, rfl, ha⟩ := px_i2_s ha
  obtain ⟨-, rfl, rfl, rfl, rfl⟩ := px_nx_s ha
  exact sg_ii (op := fun x y => x <<< (y &&& 31)) (f := px_shl) px_shl_eq (fun _ _ k => lv_ishl hx hb hd k) k
theorem sp_ishr (C : sr_C E p R s m args meth c b M) (hd : decode b pc = .ok (.ishr, n)) (hn : px_lok (.ishr) n = true) (ha : px_act M pc (.ishr) n ls st w = some (.inl (g, pc', ls', st', w'))) (hg : g = true) (k : sg_G E p l e R s m args below meth c Q (px_max M) n0 z0 ad0 pc' ls' st' w') : sg_G E p l e R s m args below meth c Q (px_max M) n0 z0 ad0 pc ls st w := by
  obtain ⟨hx, hb, hml, hown, hts, hini, hdec, hlok, hfr, hlo, hbase, hE, hL, ho⟩ := C
  have hn := Nat.eq_of_beq_eq_true hn
  subst hn
  have hK := hE.2.2.2.2.2.2.2.2.2.2.1
  obtain ⟨x, y, st, rfl, ha⟩ := px_i2_s ha
  obtain ⟨-, rfl, rfl, rfl, rfl⟩ := px_nx_s ha
  exact sg_ii (op := fun x y => x >>> (y &&& 31)) (f := px_shr) px_shr_eq (fun _ _ k => lv_ishr hx hb hd k) k
theorem sp_iushr (C : sr_C E p R s m args meth c b M) (hd : decode b pc = .ok (.iushr, n)) (hn : px_lok (.iushr) n = true) (ha : px_act M pc (.iushr) n ls st w = some (.inl (g, pc', ls', st', w'))) (hg : g = true) (k : sg_G E p l e R s m args below meth c Q (px_max M) n0 z0 ad0 pc' ls' st' w') : sg_G E p l e R s m args below meth c Q (px_max M) n0 z0 ad0 pc ls st w := by
  obtain ⟨hx, hb, hml, hown, hts, hini, hdec, hlok, hfr, hlo, hbase, hE, hL, ho⟩ := C
  have hn := Nat.eq_of_beq_eq_true hn
  subst hn
  have hK := hE.2.2.2.2.2.2.2.2.2.2.1
  obtain ⟨x, y, st, rfl, ha⟩ := px_i2_s ha
  obtain ⟨-, rfl, rfl, rfl, rfl⟩ := px_nx_s ha
  exact sg_ii (op := fun x y => (x.toUInt32 >>> (y.toUInt32 &&& Int32.toUInt32 31)).toInt32) (f := px_ush) px_ush_eq (fun _ _ k => lv_iushr hx hb hd rfl k) k
theorem sp_ineg (C : sr_C E p R s m args meth c b M) (hd : decode b pc = .ok (.ineg, n)) (hn : px_lok (.ineg) n = true) (ha : px_act M pc (.ineg) n ls st w = some (.inl (g, pc', ls', st', w'))) (hg : g = true) (k : sg_G E p l e R s m args below meth c Q (px_max M) n0 z0 ad0 pc' ls' st' w') : sg_G E p l e R s m args below meth c Q (px_max M) n0 z0 ad0 pc ls st w := by
  obtain ⟨hx, hb, hml, hown, hts, hini, hdec, hlok, hfr, hlo, hbase, hE, hL, ho⟩ := C
  have hn := Nat.eq_of_beq_eq_true hn
  subst hn
  have hK := hE.2.2.2.2.2.2.2.2.2.2.1
  obtain ⟨x, st, rfl, ha⟩ := px_i1_s ha
  obtain ⟨-, rfl, rfl, rfl, rfl⟩ := px_nx_s ha
  exact sg_i (op := fun x => -x) (f := fun x => px_w (-x)) px_w_neg (fun k => lv_ineg hx hb hd k) k
theorem sp_i2b (C : sr_C E p R s m args meth c b M) (hd : decode b pc = .ok (.i2b, n)) (hn : px_lok (.i2b) n = true) (ha : px_act M pc (.i2b) n ls st w = some (.inl (g, pc', ls', st', w'))) (hg : g = true) (k : sg_G E p l e R s m args below meth c Q (px_max M) n0 z0 ad0 pc' ls' st' w') : sg_G E p l e R s m args below meth c Q (px_max M) n0 z0 ad0 pc ls st w := by
  obtain ⟨hx, hb, hml, hown, hts, hini, hdec, hlok, hfr, hlo, hbase, hE, hL, ho⟩ := C
  have hn := Nat.eq_of_beq_eq_true hn
  subst hn
  have hK := hE.2.2.2.2.2.2.2.2.2.2.1
  obtain ⟨x, st, rfl, ha⟩ := px_i1_s ha
  obtain ⟨-, rfl, rfl, rfl, rfl⟩ := px_nx_s ha
  exact sg_i (op := fun x => x.toInt8.toInt32) (f := px_wb) (fun x => by rw [Int8.toInt_toInt32, Int32.toInt_toInt8]; rfl) (fun k => lv_i2b hx hb hd rfl k) k
theorem sp_i2l (C : sr_C E p R s m args meth c b M) (hd : decode b pc = .ok (.i2l, n)) (hn : px_lok (.i2l) n = true) (ha : px_act M pc (.i2l) n ls st w = some (.inl (g, pc', ls', st', w'))) (hg : g = true) (k : sg_G E p l e R s m args below meth c Q (px_max M) n0 z0 ad0 pc' ls' st' w') : sg_G E p l e R s m args below meth c Q (px_max M) n0 z0 ad0 pc ls st w := by
  obtain ⟨hx, hb, hml, hown, hts, hini, hdec, hlok, hfr, hlo, hbase, hE, hL, ho⟩ := C
  have hn := Nat.eq_of_beq_eq_true hn
  subst hn
  have hK := hE.2.2.2.2.2.2.2.2.2.2.1
  obtain ⟨x, st, rfl, ha⟩ := px_i1_s ha
  obtain ⟨-, rfl, rfl, rfl, rfl⟩ := px_nx_s ha
  refine sg_pure (fun ad sa h => ?_) k
  obtain ⟨x', s2, rfl, hx2, h⟩ := sr_sti h
  exact ⟨.long x'.toInt64 :: s2, sr_mkl (by rw [Int32.toInt_toInt64, hx2]) h, fun _ _ _ _ _ k => lv_i2l hx hb hd rfl k⟩
theorem sp_l2i (C : sr_C E p R s m args meth c b M) (hd : decode b pc = .ok (.l2i, n)) (hn : px_lok (.l2i) n = true) (ha : px_act M pc (.l2i) n ls st w = some (.inl (g, pc', ls', st', w'))) (hg : g = true) (k : sg_G E p l e R s m args below meth c Q (px_max M) n0 z0 ad0 pc' ls' st' w') : sg_G E p l e R s m args below meth c Q (px_max M) n0 z0 ad0 pc ls st w := by
  obtain ⟨hx, hb, hml, hown, hts, hini, hdec, hlok, hfr, hlo, hbase, hE, hL, ho⟩ := C
  have hn := Nat.eq_of_beq_eq_true hn
  subst hn
  have hK := hE.2.2.2.2.2.2.2.2.2.2.1
  obtain ⟨x, st, rfl, ha⟩ := px_l1_s ha
  obtain ⟨-, rfl, rfl, rfl, rfl⟩ := px_nx_s ha
  refine sg_pure (fun ad sa h => ?_) k
  obtain ⟨x', s2, rfl, hx2, h⟩ := sr_stl h
  exact ⟨.int x'.toInt32 :: s2, sr_mki (by rw [Int64.toInt_toInt32, hx2]; rfl) h, fun _ _ _ _ _ k => lv_l2i hx hb hd rfl k⟩
theorem sp_ladd (C : sr_C E p R s m args meth c b M) (hd : decode b pc = .ok (.ladd, n)) (hn : px_lok (.ladd) n = true) (ha : px_act M pc (.ladd) n ls st w = some (.inl (g, pc', ls', st', w'))) (hg : g = true) (k : sg_G E p l e R s m args below meth c Q (px_max M) n0 z0 ad0 pc' ls' st' w') : sg_G E p l e R s m args below meth c Q (px_max M) n0 z0 ad0 pc ls st w := by
  obtain ⟨hx, hb, hml, hown, hts, hini, hdec, hlok, hfr, hlo, hbase, hE, hL, ho⟩ := C
  have hn := Nat.eq_of_beq_eq_true hn
  subst hn
  have hK := hE.2.2.2.2.2.2.2.2.2.2.1
  obtain ⟨x, y, st, rfl, ha⟩ := px_l2_s ha
  obtain ⟨-, rfl, rfl, rfl, rfl⟩ := px_nx_s ha
  exact sg_ll (op := fun x y => x + y) (f := fun x y => px_wl (x + y)) px_wl_add (fun _ _ k => lv_ladd hx hb hd k) k
theorem sp_lsub (C : sr_C E p R s m args meth c b M) (hd : decode b pc = .ok (.lsub, n)) (hn : px_lok (.lsub) n = true) (ha : px_act M pc (.lsub) n ls st w = some (.inl (g, pc', ls', st', w'))) (hg : g = true) (k : sg_G E p l e R s m args below meth c Q (px_max M) n0 z0 ad0 pc' ls' st' w') : sg_G E p l e R s m args below meth c Q (px_max M) n0 z0 ad0 pc ls st w := by
  obtain ⟨hx, hb, hml, hown, hts, hini, hdec, hlok, hfr, hlo, hbase, hE, hL, ho⟩ := C
  have hn := Nat.eq_of_beq_eq_true hn
  subst hn
  have hK := hE.2.2.2.2.2.2.2.2.2.2.1
  obtain ⟨x, y, st, rfl, ha⟩ := px_l2_s ha
  obtain ⟨-, rfl, rfl, rfl, rfl⟩ := px_nx_s ha
  exact sg_ll (op := fun x y => x - y) (f := fun x y => px_wl (x - y)) px_wl_sub (fun _ _ k => lv_lsub hx hb hd k) k
theorem sp_lmul (C : sr_C E p R s m args meth c b M) (hd : decode b pc = .ok (.lmul, n)) (hn : px_lok (.lmul) n = true) (ha : px_act M pc (.lmul) n ls st w = some (.inl (g, pc', ls', st', w'))) (hg : g = true) (k : sg_G E p l e R s m args below meth c Q (px_max M) n0 z0 ad0 pc' ls' st' w') : sg_G E p l e R s m args below meth c Q (px_max M) n0 z0 ad0 pc ls st w := by
  obtain ⟨hx, hb, hml, hown, hts, hini, hdec, hlok, hfr, hlo, hbase, hE, hL, ho⟩ := C
  have hn := Nat.eq_of_beq_eq_true hn
  subst hn
  have hK := hE.2.2.2.2.2.2.2.2.2.2.1
  obtain ⟨x, y, st, rfl, ha⟩ := px_l2_s ha
  obtain ⟨-, rfl, rfl, rfl, rfl⟩ := px_nx_s ha
  exact sg_ll (op := fun x y => x * y) (f := fun x y => px_wl (x * y)) px_wl_mul (fun _ _ k => lv_lmul hx hb hd k) k
theorem sp_land (C : sr_C E p R s m args meth c b M) (hd : decode b pc = .ok (.land, n)) (hn : px_lok (.land) n = true) (ha : px_act M pc (.land) n ls st w = some (.inl (g, pc', ls', st', w'))) (hg : g = true) (k : sg_G E p l e R s m args below meth c Q (px_max M) n0 z0 ad0 pc' ls' st' w') : sg_G E p l e R s m args below meth c Q (px_max M) n0 z0 ad0 pc ls st w := by
  obtain ⟨hx, hb, hml, hown, hts, hini, hdec, hlok, hfr, hlo, hbase, hE, hL, ho⟩ := C
  have hn := Nat.eq_of_beq_eq_true hn
  subst hn
  have hK := hE.2.2.2.2.2.2.2.2.2.2.1
  obtain ⟨x, y, st, rfl, ha⟩ := px_l2_s ha
  obtain ⟨-, rfl, rfl, rfl, rfl⟩ := px_nx_s ha
  exact sg_ll (op := fun x y => x &&& y) (f := px_land) px_land_eq (fun _ _ k => lv_land hx hb hd k) k
theorem sp_ldiv (C : sr_C E p R s m args meth c b M) (hd : decode b pc = .ok (.ldiv, n)) (hn : px_lok (.ldiv) n = true) (ha : px_act M pc (.ldiv) n ls st w = some (.inl (g, pc', ls', st', w'))) (hg : g = true) (k : sg_G E p l e R s m args below meth c Q (px_max M) n0 z0 ad0 pc' ls' st' w') : sg_G E p l e R s m args below meth c Q (px_max M) n0 z0 ad0 pc ls st w := by
  obtain ⟨hx, hb, hml, hown, hts, hini, hdec, hlok, hfr, hlo, hbase, hE, hL, ho⟩ := C
  have hn := Nat.eq_of_beq_eq_true hn
  subst hn
  have hK := hE.2.2.2.2.2.2.2.2.2.2.1
  obtain ⟨x, y, st, rfl, ha⟩ := px_l2_s ha
  obtain ⟨rfl, rfl, rfl, rfl, rfl⟩ := px_gd_s ha
  have hg : ¬ y = 0 := by simpa using hg
  exact sg_ll (op := fun x y => x / y) (f := fun x y => px_wl (Int.tdiv x y)) px_wl_div (fun _ hy k => lv_ldiv hx hb hd (px_z64 (by rw [hy]; exact hg)) k) k
theorem sp_lrem (C : sr_C E p R s m args meth c b M) (hd : decode b pc = .ok (.lrem, n)) (hn : px_lok (.lrem) n = true) (ha : px_act M pc (.lrem) n ls st w = some (.inl (g, pc', ls', st', w'))) (hg : g = true) (k : sg_G E p l e R s m args below meth c Q (px_max M) n0 z0 ad0 pc' ls' st' w') : sg_G E p l e R s m args below meth c Q (px_max M) n0 z0 ad0 pc ls st w := by
  obtain ⟨hx, hb, hml, hown, hts, hini, hdec, hlok, hfr, hlo, hbase, hE, hL, ho⟩ := C
  have hn := Nat.eq_of_beq_eq_true hn
  subst hn
  have hK := hE.2.2.2.2.2.2.2.2.2.2.1
  obtain ⟨x, y, st, rfl, ha⟩ := px_l2_s ha
  obtain ⟨rfl, rfl, rfl, rfl, rfl⟩ := px_gd_s ha
  have hg : ¬ y = 0 := by simpa using hg
  exact sg_ll (op := fun x y => x - x / y * y) (f := fun x y => Int.tmod x y) (fun x y => by rw [Jvm.RoadKit.lrem_mod, Int64.toInt_mod]) (fun _ hy k => lv_lrem hx hb hd (px_z64 (by rw [hy]; exact hg)) k) k
theorem sp_lshl (C : sr_C E p R s m args meth c b M) (hd : decode b pc = .ok (.lshl, n)) (hn : px_lok (.lshl) n = true) (ha : px_act M pc (.lshl) n ls st w = some (.inl (g, pc', ls', st', w'))) (hg : g = true) (k : sg_G E p l e R s m args below meth c Q (px_max M) n0 z0 ad0 pc' ls' st' w') : sg_G E p l e R s m args below meth c Q (px_max M) n0 z0 ad0 pc ls st w := by
  obtain ⟨hx, hb, hml, hown, hts, hini, hdec, hlok, hfr, hlo, hbase, hE, hL, ho⟩ := C
  have hn := Nat.eq_of_beq_eq_true hn
  subst hn
  have hK := hE.2.2.2.2.2.2.2.2.2.2.1
  obtain ⟨x, y, st, rfl, ha⟩ := px_li_s ha
  obtain ⟨-, rfl, rfl, rfl, rfl⟩ := px_nx_s ha
  exact sg_li (op := fun x y => x <<< (y.toInt64 &&& 63)) (f := px_lshl) px_lshl_eq (fun k => lv_lshl hx hb hd rfl k) k
theorem sp_lshr (C : sr_C E p R s m args meth c b M) (hd : decode b pc = .ok (.lshr, n)) (hn : px_lok (.lshr) n = true) (ha : px_act M pc (.lshr) n ls st w = some (.inl (g, pc', ls', st', w'))) (hg : g = true) (k : sg_G E p l e R s m args below meth c Q (px_max M) n0 z0 ad0 pc' ls' st' w') : sg_G E p l e R s m args below meth c Q (px_max M) n0 z0 ad0 pc ls st w := by
  obtain ⟨hx, hb, hml, hown, hts, hini, hdec, hlok, hfr, hlo, hbase, hE, hL, ho⟩ := C
  have hn := Nat.eq_of_beq_eq_true hn
  subst hn
  have hK := hE.2.2.2.2.2.2.2.2.2.2.1
  obtain ⟨x, y, st, rfl, ha⟩ := px_li_s ha
  obtain ⟨-, rfl, rfl, rfl, rfl⟩ := px_nx_s ha
  exact sg_li (op := fun x y => x >>> (y.toInt64 &&& 63)) (f := px_lshr) px_lshr_eq (fun k => lv_lshr hx hb hd rfl k) k
theorem sp_lushr (C : sr_C E p R s m args meth c b M) (hd : decode b pc = .ok (.lushr, n)) (hn : px_lok (.lushr) n = true) (ha : px_act M pc (.lushr) n ls st w = some (.inl (g, pc', ls', st', w'))) (hg : g = true) (k : sg_G E p l e R s m args below meth c Q (px_max M) n0 z0 ad0 pc' ls' st' w') : sg_G E p l e R s m args below meth c Q (px_max M) n0 z0 ad0 pc ls st w := by
  obtain ⟨hx, hb, hml, hown, hts, hini, hdec, hlok, hfr, hlo, hbase, hE, hL, ho⟩ := C
  have hn := Nat.eq_of_beq_eq_true hn
  subst hn
  have hK := hE.2.2.2.2.2.2.2.2.2.2.1
  obtain ⟨x, y, st, rfl, ha⟩ := px_li_s ha
  obtain ⟨-, rfl, rfl, rfl, rfl⟩ := px_nx_s ha
  exact sg_li (op := fun x y => (x.toUInt64 >>> (y.toInt64.toUInt64 &&& Int64.toUInt64 63)).toInt64) (f := px_lush) px_lush_eq (fun k => lv_lushr hx hb hd rfl k) k
theorem sp_lcmp (C : sr_C E p R s m args meth c b M) (hd : decode b pc = .ok (.lcmp, n)) (hn : px_lok (.lcmp) n = true) (ha : px_act M pc (.lcmp) n ls st w = some (.inl (g, pc', ls', st', w'))) (hg : g = true) (k : sg_G E p l e R s m args below meth c Q (px_max M) n0 z0 ad0 pc' ls' st' w') : sg_G E p l e R s m args below meth c Q (px_max M) n0 z0 ad0 pc ls st w := by
  obtain ⟨hx, hb, hml, hown, hts, hini, hdec, hlok, hfr, hlo, hbase, hE, hL, ho⟩ := C
  have hn := Nat.eq_of_beq_eq_true hn
  subst hn
  have hK := hE.2.2.2.2.2.2.2.2.2.2.1
  obtain ⟨x, y, st, rfl, ha⟩ := px_l2_s ha
  obtain ⟨-, rfl, rfl, rfl, rfl⟩ := px_nx_s ha
  refine sg_pure (fun ad sa h => ?_) k
  obtain ⟨y', s1, rfl, hy2, h⟩ := sr_stl h
  obtain ⟨x', s2, rfl, hx2, h⟩ := sr_stl h
  exact ⟨.int (lg_cmp x' y') :: s2, sr_mki (by rw [px_cmp_eq, hx2, hy2]) h, fun _ _ _ _ _ k => W.lcmp hx hb hd k⟩
theorem sp_dup (C : sr_C E p R s m args meth c b M) (hd : decode b pc = .ok (.dup, n)) (hn : px_lok (.dup) n = true) (ha : px_act M pc (.dup) n ls st w = some (.inl (g, pc', ls', st', w'))) (hg : g = true) (k : sg_G E p l e R s m args below meth c Q (px_max M) n0 z0 ad0 pc' ls' st' w') : sg_G E p l e R s m args below meth c Q (px_max M) n0 z0 ad0 pc ls st w := by
  obtain ⟨hx, hb, hml, hown, hts, hini, hdec, hlok, hfr, hlo, hbase, hE, hL, ho⟩ := C
  have hn := Nat.eq_of_beq_eq_true hn
  subst hn
  have hK := hE.2.2.2.2.2.2.2.2.2.2.1
  have ha : (match st with | (t, x) :: st => bif Nat.beq t 1 then none else px_nx (pc + 1) ls ((t, x) :: (t, x) :: st) w | _ => none) = some (.inl (g, pc', ls', st', w')) := ha
  split at ha
  · rename_i t x st0 h00
    cases e1 : Nat.beq t 1 <;> rw [e1] at ha
    · have ha : px_nx (pc + 1) ls ((t, x) :: (t, x) :: st0) w = _ := ha
      obtain ⟨-, rfl, rfl, rfl, rfl⟩ := px_nx_s ha
      refine sg_pure (fun ad sa h => ?_) k
      obtain ⟨v, s2, rfl, hv, h⟩ := sr_st1 h
      exact ⟨v :: v :: s2, ⟨hv, hv, h⟩, fun _ _ _ _ _ k => lv_dup hx hb hd (by rw [sr_v_cat hv, if_neg]; intro q; dsimp only at q; subst q; cases e1) k⟩
    · cases ha
  · cases ha
theorem sp_pop (C : sr_C E p R s m args meth c b M) (hd : decode b pc = .ok (.pop, n)) (hn : px_lok (.pop) n = true) (ha : px_act M pc (.pop) n ls st w = some (.inl (g, pc', ls', st', w'))) (hg : g = true) (k : sg_G E p l e R s m args below meth c Q (px_max M) n0 z0 ad0 pc' ls' st' w') : sg_G E p l e R s m args below meth c Q (px_max M) n0 z0 ad0 pc ls st w := by
  obtain ⟨hx, hb, hml, hown, hts, hini, hdec, hlok, hfr, hlo, hbase, hE, hL, ho⟩ := C
  have hn := Nat.eq_of_beq_eq_true hn
  subst hn
  have hK := hE.2.2.2.2.2.2.2.2.2.2.1
  have ha : (match st with | (t, _) :: st => bif Nat.beq t 1 then none else px_nx (pc + 1) ls st w | _ => none) = some (.inl (g, pc', ls', st', w')) := ha
  split at ha
  · rename_i t x st0 h00
    cases e1 : Nat.beq t 1 <;> rw [e1] at ha
    · have ha : px_nx (pc + 1) ls st0 w = _ := ha
      obtain ⟨-, rfl, rfl, rfl, rfl⟩ := px_nx_s ha
      refine sg_pure (fun ad sa h => ?_) k
      obtain ⟨v, s2, rfl, hv, h⟩ := sr_st1 h
      exact ⟨s2, h, fun _ _ _ _ _ k => lv_pop hx hb hd (by rw [sr_v_cat hv, if_neg]; intro q; dsimp only at q; subst q; cases e1) k⟩
    · cases ha
  · cases ha
theorem sp_dup2 (C : sr_C E p R s m args meth c b M) (hd : decode b pc = .ok (.dup2, n)) (hn : px_lok (.dup2) n = true) (ha : px_act M pc (.dup2) n ls st w = some (.inl (g, pc', ls', st', w'))) (hg : g = true) (k : sg_G E p l e R s m args below meth c Q (px_max M) n0 z0 ad0 pc' ls' st' w') : sg_G E p l e R s m args below meth c Q (px_max M) n0 z0 ad0 pc ls st w := by
  obtain ⟨hx, hb, hml, hown, hts, hini, hdec, hlok, hfr, hlo, hbase, hE, hL, ho⟩ := C
  have hn := Nat.eq_of_beq_eq_true hn
  subst hn
  have hK := hE.2.2.2.2.2.2.2.2.2.2.1
  have ha : (match st with | (1, x) :: st => px_nx (pc + 1) ls ((1, x) :: (1, x) :: st) w | (0, x) :: (2, y) :: st => px_nx (pc + 1) ls ((0, x) :: (2, y) :: (0, x) :: (2, y) :: st) w | _ => none) = some (.inl (g, pc', ls', st', w')) := ha
  split at ha
  · obtain ⟨-, rfl, rfl, rfl, rfl⟩ := px_nx_s ha
    refine sg_pure (fun ad sa h => ?_) k
    obtain ⟨v, s2, rfl, hv, h⟩ := sr_st1 h
    exact ⟨v :: v :: s2, ⟨hv, hv, h⟩, fun _ _ _ _ _ k => lv_dup2_2 hx hb hd (sr_v_cat hv) k⟩
  · obtain ⟨-, rfl, rfl, rfl, rfl⟩ := px_nx_s ha
    refine sg_pure (fun ad sa h => ?_) k
    obtain ⟨v, s2, rfl, hv, h⟩ := sr_st1 h
    obtain ⟨u, s3, rfl, hu, h⟩ := sr_st1 h
    exact ⟨v :: u :: v :: u :: s3, ⟨hv, hu, hv, hu, h⟩, fun _ _ _ _ _ k => lv_dup2_11 hx hb hd (sr_v_cat hv) (sr_v_cat hu) k⟩
  · cases ha
theorem sp_goto {off : Int} (C : sr_C E p R s m args meth c b M) (hd : decode b pc = .ok (.goto off, n)) (hn : px_lok (.goto off) n = true) (ha : px_act M pc (.goto off) n ls st w = some (.inl (g, pc', ls', st', w'))) (hg : g = true) (k : sg_G E p l e R s m args below meth c Q (px_max M) n0 z0 ad0 pc' ls' st' w') : sg_G E p l e R s m args below meth c Q (px_max M) n0 z0 ad0 pc ls st w := by
  obtain ⟨hx, hb, hml, hown, hts, hini, hdec, hlok, hfr, hlo, hbase, hE, hL, ho⟩ := C
  have hn := Nat.eq_of_beq_eq_true hn
  subst hn
  have hK := hE.2.2.2.2.2.2.2.2.2.2.1
  have ha : (match px_tgt pc off with | some t => px_nx t ls st w | none => none) = some (.inl (g, pc', ls', st', w')) := ha
  cases e1 : px_tgt pc off with
  | none => rw [e1] at ha; cases ha
  | some t =>
    rw [e1] at ha
    have ha : px_nx t ls st w = _ := ha
    obtain ⟨-, rfl, rfl, rfl, rfl⟩ := px_nx_s ha
    exact sg_pure (fun ad sa h => ⟨sa, h, fun _ _ _ _ _ k => lv_goto hx hb hd (px_tgt_s e1) k⟩) k
end SP
