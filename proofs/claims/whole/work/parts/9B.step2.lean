/-! The heap, the constants, what is called of the JDK, branches. -/
theorem so_code : Cond.code Lib.objectInit ⟨#[0xb1]⟩ 1 none ∈ gw := gw_of (i := 101) (by decide +kernel) (by decide +kernel)
theorem so_inst : Cond.instanceMethod Lib.objectInit ∈ gw := gw_of (i := 100) (by decide +kernel) (by decide +kernel)
theorem so_name : px_oin = Lib.objectInit := by decide +kernel
theorem px_kds_sz : ∀ (l : List (Nat × Nat)) (k : Nat), (px_kds l k).2 ≤ px_sz l
  | [], _ => Nat.le_refl _
  | a :: l, 0 => Nat.le_add_right _ _
  | a :: l, k + 1 => Nat.le_trans (px_kds_sz l k) (Nat.le_add_left _ _)
theorem px_kd_sz (w : pw) (r : Int) : (px_kd w r).2 ≤ px_sz w.1 := px_kds_sz _ _
theorem px_stcat {E : se} {ad : List Nat} : ∀ {st : List pv} {sa : List Value}, sr_st E ad st sa → (sa.map fun v => v.category).sum = px_cat st
  | [], [], _ => rfl
  | q :: st, v :: sa, h => by
    rw [List.map_cons, List.sum_cons, px_stcat h.2, sr_v_cat h.1, px_cat]
    by_cases e : q.1 = 1
    · rw [if_pos e, e]; rfl
    · rw [if_neg e]
      cases e2 : Nat.beq q.1 1
      · rfl
      · exact absurd (Nat.eq_of_beq_eq_true e2) e
  | [], _ :: _, h => h.elim
  | _ :: _, [], h => h.elim
section SP
variable {E : se} {p : Program} {l : Launch} {e : Env} {R : Room} {s : State} {m : MethodId} {args : Array Value} {below : List Frame} {meth : Method} {c : Code} {Q : State → Prop} {n0 z0 : Nat} {ad0 : List Nat} {b : ByteArray} {M : pm} {pc pc' n : Nat} {ls st ls' st' : List pv} {w w' : pw} {g : Bool}
theorem sp_getfield {x : Nat} (C : sr_C E p R s m args meth c b M) (hd : decode b pc = .ok (.getfield x, n)) (hn : px_lok (.getfield x) n = true) (ha : px_act M pc (.getfield x) n ls st w = some (.inl (g, pc', ls', st', w'))) (hg : g = true) (k : sg_G E p l e R s m args below meth c Q (px_max M) n0 z0 ad0 pc' ls' st' w') : sg_G E p l e R s m args below meth c Q (px_max M) n0 z0 ad0 pc ls st w := by
  obtain ⟨hx, hb, hml, hown, hts, hini, hdec, hlok, hfr, hlo, hbase, hE, hL, ho⟩ := C
  have hn := Nat.eq_of_beq_eq_true hn
  subst hn
  have hK := hE.2.2.2.2.2.2.2.2.2.2.1
  obtain ⟨r, st, rfl, ha2⟩ := px_r1_s ha
  have ha := ha2
  split at ha
  · rename_i ci j t f e1
    obtain ⟨rfl, rfl, rfl, rfl, rfl⟩ := px_gd_s ha
    obtain ⟨h1, h2, h3, h4, h5⟩ := px_fields (px_own M) _ (px_fmem e1)
    dsimp only at h1 h2 h3 h4 h5
    subst h4
    exact sg_getf hx hb hts hown hK h1 h2 h3 hg hd k
  · cases ha
theorem sp_putfield {x : Nat} (C : sr_C E p R s m args meth c b M) (hd : decode b pc = .ok (.putfield x, n)) (hn : px_lok (.putfield x) n = true) (ha : px_act M pc (.putfield x) n ls st w = some (.inl (g, pc', ls', st', w'))) (hg : g = true) (k : sg_G E p l e R s m args below meth c Q (px_max M) n0 z0 ad0 pc' ls' st' w') : sg_G E p l e R s m args below meth c Q (px_max M) n0 z0 ad0 pc ls st w := by
  obtain ⟨hx, hb, hml, hown, hts, hini, hdec, hlok, hfr, hlo, hbase, hE, hL, ho⟩ := C
  have hn := Nat.eq_of_beq_eq_true hn
  subst hn
  have hK := hE.2.2.2.2.2.2.2.2.2.2.1
  have ha : (match st with | (t, v) :: (2, r) :: st => (match px_find (px_fld (px_own M)) x with | some (c, j, t', f) => bif Nat.beq t t' && (!f || (px_ini M && Nat.beq c (px_own M))) then px_gd (px_go w r c) (pc + 3) ls st (px_wr w r j v) else none | none => none) | _ => none) = some (.inl (g, pc', ls', st', w')) := ha
  split at ha
  · rename_i t v r st0
    split at ha
    · rename_i ci j t' f e1
      obtain ⟨h0, ha⟩ := px_bif ha
      obtain ⟨rfl, rfl, rfl, rfl, rfl⟩ := px_gd_s ha
      obtain ⟨h1, h2, h3, h4, h5⟩ := px_fields (px_own M) _ (px_fmem e1)
      dsimp only at h1 h2 h3 h4 h5
      simp only [Bool.and_eq_true, Bool.or_eq_true, Bool.not_eq_true'] at h0
      have h6 := Nat.eq_of_beq_eq_true h0.1
      subst h6
      subst h4
      refine sg_putf hx hb hts hown hK h1 h2 h3 ?_ hg hd k
      rcases h0.2 with h7 | h7
      · exact Or.inl (h5.trans h7)
      · exact Or.inr ⟨hini h7.1, Nat.eq_of_beq_eq_true h7.2⟩
    · cases ha
  · cases ha
theorem sp_getstatic {x : Nat} (C : sr_C E p R s m args meth c b M) (hd : decode b pc = .ok (.getstatic x, n)) (hn : px_lok (.getstatic x) n = true) (ha : px_act M pc (.getstatic x) n ls st w = some (.inl (g, pc', ls', st', w'))) (hg : g = true) (k : sg_G E p l e R s m args below meth c Q (px_max M) n0 z0 ad0 pc' ls' st' w') : sg_G E p l e R s m args below meth c Q (px_max M) n0 z0 ad0 pc ls st w := by
  obtain ⟨hx, hb, hml, hown, hts, hini, hdec, hlok, hfr, hlo, hbase, hE, hL, ho⟩ := C
  have hn := Nat.eq_of_beq_eq_true hn
  subst hn
  have hK := hE.2.2.2.2.2.2.2.2.2.2.1
  have ha : (match px_find (px_stt (px_own M)) x with | some s => px_nx (pc + 3) ls ((4, (s : Int)) :: st) w | none => none) = some (.inl (g, pc', ls', st', w')) := ha
  split at ha
  · rename_i i e1
    obtain ⟨-, rfl, rfl, rfl, rfl⟩ := px_nx_s ha
    obtain ⟨h1, h2⟩ := px_statics (px_own M) _ (px_fmem e1)
    exact sg_gets hx hb hts hown hE h1 h2 hd k
  · cases ha
theorem sp_arraylength (C : sr_C E p R s m args meth c b M) (hd : decode b pc = .ok (.arraylength, n)) (hn : px_lok (.arraylength) n = true) (ha : px_act M pc (.arraylength) n ls st w = some (.inl (g, pc', ls', st', w'))) (hg : g = true) (hsz : px_sz w.1 < 2 ^ 31) (k : sg_G E p l e R s m args below meth c Q (px_max M) n0 z0 ad0 pc' ls' st' w') : sg_G E p l e R s m args below meth c Q (px_max M) n0 z0 ad0 pc ls st w := by
  obtain ⟨hx, hb, hml, hown, hts, hini, hdec, hlok, hfr, hlo, hbase, hE, hL, ho⟩ := C
  have hn := Nat.eq_of_beq_eq_true hn
  subst hn
  have hK := hE.2.2.2.2.2.2.2.2.2.2.1
  have ha : (match st with | (2, r) :: st => px_gd (Nat.ble (px_kd w r).1 6) (pc + 1) ls ((0, ((px_kd w r).2 : Int)) :: st) w | (4, s) :: st => px_nx (pc + 1) ls ((0, ((px_sar s.toNat).length : Int)) :: st) w | (5, l) :: st => px_nx (pc + 1) ls ((0, l) :: st) w | _ => none) = some (.inl (g, pc', ls', st', w')) := ha
  split at ha
  · rename_i r st0
    obtain ⟨rfl, rfl, rfl, rfl, rfl⟩ := px_gd_s ha
    refine sg_alen hx hb hK (Nat.lt_of_le_of_lt (px_kd_sz _ _) hsz) hg hd k
  · obtain ⟨-, rfl, rfl, rfl, rfl⟩ := px_nx_s ha
    exact sg_slen hx hb hE hd k
  · obtain ⟨-, rfl, rfl, rfl, rfl⟩ := px_nx_s ha
    exact sg_xlen hx hb hL hE hd k
  · cases ha
theorem sp_iaload (C : sr_C E p R s m args meth c b M) (hd : decode b pc = .ok (.iaload, n)) (hn : px_lok (.iaload) n = true) (ha : px_act M pc (.iaload) n ls st w = some (.inl (g, pc', ls', st', w'))) (hg : g = true) (k : sg_G E p l e R s m args below meth c Q (px_max M) n0 z0 ad0 pc' ls' st' w') : sg_G E p l e R s m args below meth c Q (px_max M) n0 z0 ad0 pc ls st w := by
  obtain ⟨hx, hb, hml, hown, hts, hini, hdec, hlok, hfr, hlo, hbase, hE, hL, ho⟩ := C
  have hn := Nat.eq_of_beq_eq_true hn
  subst hn
  have hK := hE.2.2.2.2.2.2.2.2.2.2.1
  have ha : (match st with | (0, i) :: (2, r) :: st => px_gd (px_ga w 0 r i) (pc + 1) ls ((0, px_rd w r i.toNat) :: st) w | (0, i) :: (4, s) :: st => px_gd (px_gl (px_sar s.toNat) i) (pc + 1) ls ((0, px_lst (px_sar s.toNat) i.toNat) :: st) w | (0, i) :: (5, l) :: st => px_gd (decide (0 ≤ i) && decide (i < l)) (pc + 1) ls ((0, px_rd w 0 i.toNat) :: st) w | _ => none) = some (.inl (g, pc', ls', st', w')) := ha
  split at ha
  · obtain ⟨rfl, rfl, rfl, rfl, rfl⟩ := px_gd_s ha
    exact sg_iald hx hb hK hg hd k
  · obtain ⟨rfl, rfl, rfl, rfl, rfl⟩ := px_gd_s ha
    exact sg_sald hx hb hE hg hd k
  · obtain ⟨rfl, rfl, rfl, rfl, rfl⟩ := px_gd_s ha
    exact sg_xald hx hb hbase hE hg hd k
  · cases ha
theorem sp_baload (C : sr_C E p R s m args meth c b M) (hd : decode b pc = .ok (.baload, n)) (hn : px_lok (.baload) n = true) (ha : px_act M pc (.baload) n ls st w = some (.inl (g, pc', ls', st', w'))) (hg : g = true) (k : sg_G E p l e R s m args below meth c Q (px_max M) n0 z0 ad0 pc' ls' st' w') : sg_G E p l e R s m args below meth c Q (px_max M) n0 z0 ad0 pc ls st w := by
  obtain ⟨hx, hb, hml, hown, hts, hini, hdec, hlok, hfr, hlo, hbase, hE, hL, ho⟩ := C
  have hn := Nat.eq_of_beq_eq_true hn
  subst hn
  have hK := hE.2.2.2.2.2.2.2.2.2.2.1
  have ha : (match st with | (0, i) :: (2, r) :: st => px_gd (px_ga w 2 r i || px_ga w 3 r i) (pc + 1) ls ((0, px_rd w r i.toNat) :: st) w | _ => none) = some (.inl (g, pc', ls', st', w')) := ha
  split at ha
  · obtain ⟨rfl, rfl, rfl, rfl, rfl⟩ := px_gd_s ha
    exact sg_bald hx hb hK hg hd k
  · cases ha
theorem sp_laload (C : sr_C E p R s m args meth c b M) (hd : decode b pc = .ok (.laload, n)) (hn : px_lok (.laload) n = true) (ha : px_act M pc (.laload) n ls st w = some (.inl (g, pc', ls', st', w'))) (hg : g = true) (k : sg_G E p l e R s m args below meth c Q (px_max M) n0 z0 ad0 pc' ls' st' w') : sg_G E p l e R s m args below meth c Q (px_max M) n0 z0 ad0 pc ls st w := by
  obtain ⟨hx, hb, hml, hown, hts, hini, hdec, hlok, hfr, hlo, hbase, hE, hL, ho⟩ := C
  have hn := Nat.eq_of_beq_eq_true hn
  subst hn
  have hK := hE.2.2.2.2.2.2.2.2.2.2.1
  have ha : (match st with | (0, i) :: (2, r) :: st => px_gd (px_ga w 1 r i) (pc + 1) ls ((1, px_rd w r i.toNat) :: st) w | _ => none) = some (.inl (g, pc', ls', st', w')) := ha
  split at ha
  · obtain ⟨rfl, rfl, rfl, rfl, rfl⟩ := px_gd_s ha
    exact sg_lald hx hb hK hg hd k
  · cases ha
theorem sp_aaload (C : sr_C E p R s m args meth c b M) (hd : decode b pc = .ok (.aaload, n)) (hn : px_lok (.aaload) n = true) (ha : px_act M pc (.aaload) n ls st w = some (.inl (g, pc', ls', st', w'))) (hg : g = true) (k : sg_G E p l e R s m args below meth c Q (px_max M) n0 z0 ad0 pc' ls' st' w') : sg_G E p l e R s m args below meth c Q (px_max M) n0 z0 ad0 pc ls st w := by
  obtain ⟨hx, hb, hml, hown, hts, hini, hdec, hlok, hfr, hlo, hbase, hE, hL, ho⟩ := C
  have hn := Nat.eq_of_beq_eq_true hn
  subst hn
  have hK := hE.2.2.2.2.2.2.2.2.2.2.1
  have ha : (match st with | (0, i) :: (2, r) :: st => px_gd (px_ga w 4 r i || (px_ga w 5 r i || px_ga w 6 r i)) (pc + 1) ls ((2, px_rd w r i.toNat) :: st) w | _ => none) = some (.inl (g, pc', ls', st', w')) := ha
  split at ha
  · obtain ⟨rfl, rfl, rfl, rfl, rfl⟩ := px_gd_s ha
    rcases (Bool.or_eq_true _ _).mp hg with hg | hg
    · exact sg_aald hx hb hK (t := 4) ⟨by decide, by decide⟩ hg hd k
    · rcases (Bool.or_eq_true _ _).mp hg with hg | hg
      · exact sg_aald hx hb hK (t := 5) ⟨by decide, by decide⟩ hg hd k
      · exact sg_aald hx hb hK (t := 6) ⟨by decide, by decide⟩ hg hd k
  · cases ha
theorem sp_iastore (C : sr_C E p R s m args meth c b M) (hd : decode b pc = .ok (.iastore, n)) (hn : px_lok (.iastore) n = true) (ha : px_act M pc (.iastore) n ls st w = some (.inl (g, pc', ls', st', w'))) (hg : g = true) (k : sg_G E p l e R s m args below meth c Q (px_max M) n0 z0 ad0 pc' ls' st' w') : sg_G E p l e R s m args below meth c Q (px_max M) n0 z0 ad0 pc ls st w := by
  obtain ⟨hx, hb, hml, hown, hts, hini, hdec, hlok, hfr, hlo, hbase, hE, hL, ho⟩ := C
  have hn := Nat.eq_of_beq_eq_true hn
  subst hn
  have hK := hE.2.2.2.2.2.2.2.2.2.2.1
  have ha : (match st with | (0, x) :: (0, i) :: (2, r) :: st => px_gd (px_ga w 0 r i) (pc + 1) ls st (px_wr w r i.toNat x) | _ => none) = some (.inl (g, pc', ls', st', w')) := ha
  split at ha
  · obtain ⟨rfl, rfl, rfl, rfl, rfl⟩ := px_gd_s ha
    exact sg_iast hx hb hK hg hd k
  · cases ha
theorem sp_bastore (C : sr_C E p R s m args meth c b M) (hd : decode b pc = .ok (.bastore, n)) (hn : px_lok (.bastore) n = true) (ha : px_act M pc (.bastore) n ls st w = some (.inl (g, pc', ls', st', w'))) (hg : g = true) (k : sg_G E p l e R s m args below meth c Q (px_max M) n0 z0 ad0 pc' ls' st' w') : sg_G E p l e R s m args below meth c Q (px_max M) n0 z0 ad0 pc ls st w := by
  obtain ⟨hx, hb, hml, hown, hts, hini, hdec, hlok, hfr, hlo, hbase, hE, hL, ho⟩ := C
  have hn := Nat.eq_of_beq_eq_true hn
  subst hn
  have hK := hE.2.2.2.2.2.2.2.2.2.2.1
  have ha : (match st with | (0, x) :: (0, i) :: (2, r) :: st => px_gd (px_gb w r i x) (pc + 1) ls st (px_wr w r i.toNat x) | _ => none) = some (.inl (g, pc', ls', st', w')) := ha
  split at ha
  · obtain ⟨rfl, rfl, rfl, rfl, rfl⟩ := px_gd_s ha
    exact sg_bast hx hb hK hg hd k
  · cases ha
theorem sp_lastore (C : sr_C E p R s m args meth c b M) (hd : decode b pc = .ok (.lastore, n)) (hn : px_lok (.lastore) n = true) (ha : px_act M pc (.lastore) n ls st w = some (.inl (g, pc', ls', st', w'))) (hg : g = true) (k : sg_G E p l e R s m args below meth c Q (px_max M) n0 z0 ad0 pc' ls' st' w') : sg_G E p l e R s m args below meth c Q (px_max M) n0 z0 ad0 pc ls st w := by
  obtain ⟨hx, hb, hml, hown, hts, hini, hdec, hlok, hfr, hlo, hbase, hE, hL, ho⟩ := C
  have hn := Nat.eq_of_beq_eq_true hn
  subst hn
  have hK := hE.2.2.2.2.2.2.2.2.2.2.1
  have ha : (match st with | (1, x) :: (0, i) :: (2, r) :: st => px_gd (px_ga w 1 r i) (pc + 1) ls st (px_wr w r i.toNat x) | _ => none) = some (.inl (g, pc', ls', st', w')) := ha
  split at ha
  · obtain ⟨rfl, rfl, rfl, rfl, rfl⟩ := px_gd_s ha
    exact sg_last hx hb hK hg hd k
  · cases ha
theorem sp_aastore (C : sr_C E p R s m args meth c b M) (hd : decode b pc = .ok (.aastore, n)) (hn : px_lok (.aastore) n = true) (ha : px_act M pc (.aastore) n ls st w = some (.inl (g, pc', ls', st', w'))) (hg : g = true) (k : sg_G E p l e R s m args below meth c Q (px_max M) n0 z0 ad0 pc' ls' st' w') : sg_G E p l e R s m args below meth c Q (px_max M) n0 z0 ad0 pc ls st w := by
  obtain ⟨hx, hb, hml, hown, hts, hini, hdec, hlok, hfr, hlo, hbase, hE, hL, ho⟩ := C
  have hn := Nat.eq_of_beq_eq_true hn
  subst hn
  have hK := hE.2.2.2.2.2.2.2.2.2.2.1
  have ha : (match st with | (2, x) :: (0, i) :: (2, r) :: st => px_gd (px_ga w 6 r i && px_go w x 4) (pc + 1) ls st (px_wr w r i.toNat x) | _ => none) = some (.inl (g, pc', ls', st', w')) := ha
  split at ha
  · obtain ⟨rfl, rfl, rfl, rfl, rfl⟩ := px_gd_s ha
    exact sg_aast hx hb hK hg hd k
  · cases ha
theorem sp_new {x : Nat} (C : sr_C E p R s m args meth c b M) (hd : decode b pc = .ok (.new x, n)) (hn : px_lok (.new x) n = true) (ha : px_act M pc (.new x) n ls st w = some (.inl (g, pc', ls', st', w'))) (hg : g = true) (hR1 : w'.1.length ≤ n0 + R.cells) (hR2 : px_sz w'.1 ≤ z0 + R.slots) (k : sg_G E p l e R s m args below meth c Q (px_max M) n0 z0 ad0 pc' ls' st' w') : sg_G E p l e R s m args below meth c Q (px_max M) n0 z0 ad0 pc ls st w := by
  obtain ⟨hx, hb, hml, hown, hts, hini, hdec, hlok, hfr, hlo, hbase, hE, hL, ho⟩ := C
  have hn := Nat.eq_of_beq_eq_true hn
  subst hn
  have hK := hE.2.2.2.2.2.2.2.2.2.2.1
  have ha : (match px_find (px_ncl (px_own M)) x with | some c => px_nx (pc + 3) ls ((2, (w.1.length : Int)) :: st) (px_al w (10 + c, px_nfl c)) | none => none) = some (.inl (g, pc', ls', st', w')) := ha
  split at ha
  · rename_i ci e1
    obtain ⟨-, rfl, rfl, rfl, rfl⟩ := px_nx_s ha
    obtain ⟨h1, h2, h3, h4⟩ := px_news (px_own M) _ (px_fmem e1)
    have hR1 : (w.1 ++ [(10 + ci, px_nfl ci)]).length ≤ n0 + R.cells := hR1
    have hR2 : px_sz (w.1 ++ [(10 + ci, px_nfl ci)]) ≤ z0 + R.slots := hR2
    rw [List.length_append] at hR1
    rw [px_sz_app] at hR2
    exact sg_new hx hb hts hown hK hbase h1 h2 h3 h4 hR1 hR2 hd k
  · cases ha
theorem sp_newarray {a : ArrayType} (C : sr_C E p R s m args meth c b M) (hd : decode b pc = .ok (.newarray a, n)) (hn : px_lok (.newarray a) n = true) (ha : px_act M pc (.newarray a) n ls st w = some (.inl (g, pc', ls', st', w'))) (hg : g = true) (hR1 : w'.1.length ≤ n0 + R.cells) (hR2 : px_sz w'.1 ≤ z0 + R.slots) (k : sg_G E p l e R s m args below meth c Q (px_max M) n0 z0 ad0 pc' ls' st' w') : sg_G E p l e R s m args below meth c Q (px_max M) n0 z0 ad0 pc ls st w := by
  obtain ⟨hx, hb, hml, hown, hts, hini, hdec, hlok, hfr, hlo, hbase, hE, hL, ho⟩ := C
  have hn := Nat.eq_of_beq_eq_true hn
  subst hn
  have hK := hE.2.2.2.2.2.2.2.2.2.2.1
  obtain ⟨x, st, rfl, ha2⟩ := px_i1_s ha
  have ha := ha2
  split at ha
  · rename_i t e1
    obtain ⟨rfl, rfl, rfl, rfl, rfl⟩ := px_gd_s ha
    simp only [Bool.and_eq_true, decide_eq_true_eq] at hg
    have hR1 : (w.1 ++ [(t, x.toNat)]).length ≤ n0 + R.cells := hR1
    have hR2 : px_sz (w.1 ++ [(t, x.toNat)]) ≤ z0 + R.slots := hR2
    rw [List.length_append] at hR1
    rw [px_sz_app] at hR2
    exact sg_newa hx hb hts hE hbase e1 hg.1 hg.2 hR1 hR2 hd k
  · cases ha
theorem sp_anewarray {a : Nat} (C : sr_C E p R s m args meth c b M) (hd : decode b pc = .ok (.anewarray a, n)) (hn : px_lok (.anewarray a) n = true) (ha : px_act M pc (.anewarray a) n ls st w = some (.inl (g, pc', ls', st', w'))) (hg : g = true) (hR1 : w'.1.length ≤ n0 + R.cells) (hR2 : px_sz w'.1 ≤ z0 + R.slots) (k : sg_G E p l e R s m args below meth c Q (px_max M) n0 z0 ad0 pc' ls' st' w') : sg_G E p l e R s m args below meth c Q (px_max M) n0 z0 ad0 pc ls st w := by
  obtain ⟨hx, hb, hml, hown, hts, hini, hdec, hlok, hfr, hlo, hbase, hE, hL, ho⟩ := C
  have hn := Nat.eq_of_beq_eq_true hn
  subst hn
  have hK := hE.2.2.2.2.2.2.2.2.2.2.1
  obtain ⟨x, st, rfl, ha2⟩ := px_i1_s ha
  have ha := ha2
  split at ha
  · rename_i t e1
    obtain ⟨rfl, rfl, rfl, rfl, rfl⟩ := px_gd_s ha
    simp only [Bool.and_eq_true, decide_eq_true_eq] at hg
    obtain ⟨h1, h2⟩ := px_anrs (px_own M) _ (px_fmem e1)
    dsimp only at h1 h2
    subst h1
    have hR1 : (w.1 ++ [(6, x.toNat)]).length ≤ n0 + R.cells := hR1
    have hR2 : px_sz (w.1 ++ [(6, x.toNat)]) ≤ z0 + R.slots := hR2
    rw [List.length_append] at hR1
    rw [px_sz_app] at hR2
    exact sg_anew hx hb hts hE hbase hown h2 hg.1 hg.2 hR1 hR2 hd k
  · cases ha
theorem sp_multianewarray {a d : Nat} (C : sr_C E p R s m args meth c b M) (hd : decode b pc = .ok (.multianewarray a d, n)) (hn : px_lok (.multianewarray a d) n = true) (ha : px_act M pc (.multianewarray a d) n ls st w = some (.inl (g, pc', ls', st', w'))) (hg : g = true) (hR1 : w'.1.length ≤ n0 + R.cells) (hR2 : px_sz w'.1 ≤ z0 + R.slots) (k : sg_G E p l e R s m args below meth c Q (px_max M) n0 z0 ad0 pc' ls' st' w') : sg_G E p l e R s m args below meth c Q (px_max M) n0 z0 ad0 pc ls st w := by
  obtain ⟨hx, hb, hml, hown, hts, hini, hdec, hlok, hfr, hlo, hbase, hE, hL, ho⟩ := C
  have hn := Nat.eq_of_beq_eq_true hn
  subst hn
  have hK := hE.2.2.2.2.2.2.2.2.2.2.1
  obtain ⟨x, y, st, rfl, ha2⟩ := px_i2_s ha
  have ha := ha2
  split at ha
  · rename_i o i e1
    obtain ⟨h0, ha⟩ := px_bif ha
    have h0 := Nat.eq_of_beq_eq_true h0
    subst h0
    obtain ⟨rfl, rfl, rfl, rfl, rfl⟩ := px_gd_s ha
    simp only [Bool.and_eq_true, decide_eq_true_eq] at hg
    have hR1 : (w.1 ++ ((o, x.toNat) :: List.replicate x.toNat (i, y.toNat))).length ≤ n0 + R.cells := hR1
    have hR2 : px_sz (w.1 ++ ((o, x.toNat) :: List.replicate x.toNat (i, y.toNat))) ≤ z0 + R.slots := hR2
    rw [List.length_append, List.length_cons, List.length_replicate] at hR1
    rw [px_sz_app, px_sz, px_sz_rep] at hR2
    have hR2 : px_sz w.1 + (x.toNat + x.toNat * y.toNat) ≤ z0 + R.slots := hR2
    rcases px_mars (px_own M) _ (px_fmem e1) with ⟨h1, h2⟩ | ⟨h1, h2⟩
    · cases h1
      exact sg_mnew (ty := .int) hx hb hE hbase hown (hts _ h2) hE.2.2.2.2.2.2.2.2.1 (hts _ px_ac_int) (Or.inl ⟨rfl, rfl, rfl⟩) hg.1.1 hg.1.2 hg.2.1 hg.2.2 (by omega) hR2 hd k
    · cases h1
      exact sg_mnew (ty := .long) hx hb hE hbase hown (hts _ h2) hE.2.2.2.2.2.2.2.2.2.1 (hts _ px_ac_long) (Or.inr ⟨rfl, rfl, rfl⟩) hg.1.1 hg.1.2 hg.2.1 hg.2.2 (by omega) hR2 hd k
  · cases ha
theorem px_v10 {v : Int} (h1 : 0 ≤ v) (h2 : v < 10) : v.toNat < 10 ∧ v = (v.toNat : Int) := ⟨by omega, by omega⟩
theorem sp_ldc {x : Nat} (C : sr_C E p R s m args meth c b M) (hd : decode b pc = .ok (.ldc x, n)) (hn : px_lok (.ldc x) n = true) (ha : px_act M pc (.ldc x) n ls st w = some (.inl (g, pc', ls', st', w'))) (hg : g = true) (k : sg_G E p l e R s m args below meth c Q (px_max M) n0 z0 ad0 pc' ls' st' w') : sg_G E p l e R s m args below meth c Q (px_max M) n0 z0 ad0 pc ls st w := by
  obtain ⟨hx, hb, hml, hown, hts, hini, hdec, hlok, hfr, hlo, hbase, hE, hL, ho⟩ := C
  have hn := Nat.eq_of_beq_eq_true hn
  subst hn
  have hK := hE.2.2.2.2.2.2.2.2.2.2.1
  have ha : (match px_find (px_con (px_own M)) x with | some (t, v) => bif Nat.beq t 0 || Nat.beq t 3 then px_nx (pc + 2) ls ((t, v) :: st) w else none | none => none) = some (.inl (g, pc', ls', st', w')) := ha
  split at ha
  · rename_i t v e1
    obtain ⟨h0, ha⟩ := px_bif ha
    obtain ⟨-, rfl, rfl, rfl, rfl⟩ := px_nx_s ha
    rcases px_cons (px_own M) _ (px_fmem e1) with ⟨h1, y, h2, h3⟩ | ⟨h1, y, h2, h3⟩ | ⟨h1, h2, h3, tx, -, h4⟩
    · dsimp only at h1 h2 h3
      subst h1
      exact sg_push (q := (0, v)) (v := fun _ => .null) (u := .int y) (fun _ => ⟨_, rfl, h3⟩) (fun k => lv_ldc hx hb hown (hts _ h2) hd k) k
    · dsimp only at h1
      subst h1
      cases h0
    · dsimp only at h1 h2 h3 h4
      subst h1
      have hL1 := hE.2.2.2.2.1 _ h4
      have hv1 := px_v10 h2 h3
      exact sg_push (q := (3, v)) (v := fun _ => .null) (u := .ref (se_K E v.toNat)) (fun _ => ⟨v.toNat, hv1.1, hv1.2, rfl⟩) (fun k => va_ldcS hx hb hown hL1 hd k) k
  · cases ha
theorem sp_ldc_w {x : Nat} (C : sr_C E p R s m args meth c b M) (hd : decode b pc = .ok (.ldc_w x, n)) (hn : px_lok (.ldc_w x) n = true) (ha : px_act M pc (.ldc_w x) n ls st w = some (.inl (g, pc', ls', st', w'))) (hg : g = true) (k : sg_G E p l e R s m args below meth c Q (px_max M) n0 z0 ad0 pc' ls' st' w') : sg_G E p l e R s m args below meth c Q (px_max M) n0 z0 ad0 pc ls st w := by
  obtain ⟨hx, hb, hml, hown, hts, hini, hdec, hlok, hfr, hlo, hbase, hE, hL, ho⟩ := C
  have hn := Nat.eq_of_beq_eq_true hn
  subst hn
  have hK := hE.2.2.2.2.2.2.2.2.2.2.1
  have ha : (match px_find (px_con (px_own M)) x with | some (t, v) => bif Nat.beq t 0 then px_nx (pc + 3) ls ((t, v) :: st) w else none | none => none) = some (.inl (g, pc', ls', st', w')) := ha
  split at ha
  · rename_i t v e1
    obtain ⟨h0, ha⟩ := px_bif ha
    obtain ⟨-, rfl, rfl, rfl, rfl⟩ := px_nx_s ha
    have h0 := Nat.eq_of_beq_eq_true h0
    subst h0
    rcases px_cons (px_own M) _ (px_fmem e1) with ⟨h1, y, h2, h3⟩ | ⟨h1, -⟩ | ⟨h1, -⟩
    · exact sg_push (q := (0, v)) (v := fun _ => .null) (u := .int y) (fun _ => ⟨_, rfl, h3⟩) (fun k => lv_ldcw hx hb hown (hts _ h2) hd k) k
    · cases h1
    · cases h1
  · cases ha
theorem sp_ldc2_w {x : Nat} (C : sr_C E p R s m args meth c b M) (hd : decode b pc = .ok (.ldc2_w x, n)) (hn : px_lok (.ldc2_w x) n = true) (ha : px_act M pc (.ldc2_w x) n ls st w = some (.inl (g, pc', ls', st', w'))) (hg : g = true) (k : sg_G E p l e R s m args below meth c Q (px_max M) n0 z0 ad0 pc' ls' st' w') : sg_G E p l e R s m args below meth c Q (px_max M) n0 z0 ad0 pc ls st w := by
  obtain ⟨hx, hb, hml, hown, hts, hini, hdec, hlok, hfr, hlo, hbase, hE, hL, ho⟩ := C
  have hn := Nat.eq_of_beq_eq_true hn
  subst hn
  have hK := hE.2.2.2.2.2.2.2.2.2.2.1
  have ha : (match px_find (px_con (px_own M)) x with | some (t, v) => bif Nat.beq t 1 then px_nx (pc + 3) ls ((t, v) :: st) w else none | none => none) = some (.inl (g, pc', ls', st', w')) := ha
  split at ha
  · rename_i t v e1
    obtain ⟨h0, ha⟩ := px_bif ha
    obtain ⟨-, rfl, rfl, rfl, rfl⟩ := px_nx_s ha
    have h0 := Nat.eq_of_beq_eq_true h0
    subst h0
    rcases px_cons (px_own M) _ (px_fmem e1) with ⟨h1, -⟩ | ⟨h1, y, h2, h3⟩ | ⟨h1, -⟩
    · cases h1
    · exact sg_push (q := (1, v)) (v := fun _ => .null) (u := .long y) (fun _ => ⟨_, rfl, h3⟩) (fun k => lv_ldc2 hx hb hown (hts _ h2) hd k) k
    · cases h1
  · cases ha
def px_ifp (c : Nat) (x y : Int) : Prop := match c with
  | 0 => x = y
  | 1 => ¬ x = y
  | 2 => x < y
  | 3 => ¬ x < y
  | 4 => y < x
  | _ => ¬ y < x
theorem px_br_s {pc f t f' q : Nat} {off x y x' y' : Int} {cc : Nat} {ls st ls' st' : List pv} {w w' : pw} (h : px_br pc off f ls w cc x y st = some (.inr (.inr (.inl (q, x', y', t, f', ls', st', w'))))) : (pc : Int) + off = (t : Int) ∧ q = cc ∧ x' = x ∧ y' = y ∧ f' = f ∧ ls' = ls ∧ st' = st ∧ w' = w := by
  unfold px_br at h
  split at h
  · rename_i t1 e1
    cases h
    exact ⟨px_tgt_s e1, rfl, rfl, rfl, rfl, rfl, rfl, rfl⟩
  · cases h
theorem sp_ifCond {cd : Jvm.ClassFile.Cond} {off x y : Int} {q t f : Nat} (C : sr_C E p R s m args meth c b M) (hd : decode b pc = .ok (.ifCond cd off, n)) (hn : px_lok (.ifCond cd off) n = true) (ha : px_act M pc (.ifCond cd off) n ls st w = some (.inr (.inr (.inl (q, x, y, t, f, ls', st', w'))))) (kt : px_ifp q x y → sg_G E p l e R s m args below meth c Q (px_max M) n0 z0 ad0 t ls' st' w') (kf : ¬ px_ifp q x y → sg_G E p l e R s m args below meth c Q (px_max M) n0 z0 ad0 f ls' st' w') : sg_G E p l e R s m args below meth c Q (px_max M) n0 z0 ad0 pc ls st w := by
  obtain ⟨hx, hb, hml, hown, hts, hini, hdec, hlok, hfr, hlo, hbase, hE, hL, ho⟩ := C
  have hn := Nat.eq_of_beq_eq_true hn
  subst hn
  obtain ⟨x0, st, rfl, ha⟩ := px_i1_s ha
  obtain ⟨ht, rfl, rfl, rfl, rfl, rfl, rfl, rfl⟩ := px_br_s ha
  have h00 : (0 : Int32).toInt = 0 := rfl
  cases cd with
  | eq => exact sg_br1 (P := px_ifp 0 x 0) (fun {x'} {la} {rest} {H} {locs} {cells} {slots} hx1 k1 k2 => lv_if_eq hx hb hd ht (fun h => k1 (by show x = 0; rw [← hx1, h]; rfl)) (fun h => k2 (fun z => h (Int32.toInt_inj.mp (by rw [hx1]; exact z))))) kt kf
  | ne => exact sg_br1 (P := px_ifp 1 x 0) (fun {x'} {la} {rest} {H} {locs} {cells} {slots} hx1 k1 k2 => lv_if_ne hx hb hd ht (fun h => k1 (fun z => h (Int32.toInt_inj.mp (by rw [hx1]; exact z)))) (fun h => k2 (fun z => z (by rw [← hx1, h]; rfl)))) kt kf
  | lt => exact sg_br1 (P := px_ifp 2 x 0) (fun {x'} {la} {rest} {H} {locs} {cells} {slots} hx1 k1 k2 => lv_if_lt hx hb hd ht (fun h => k1 (by show x < 0; rw [← hx1]; exact Int32.lt_iff_toInt_lt.mp h)) (fun h => k2 (fun z => h (Int32.lt_iff_toInt_lt.mpr (by rw [hx1]; exact z))))) kt kf
  | ge => exact sg_br1 (P := px_ifp 3 x 0) (fun {x'} {la} {rest} {H} {locs} {cells} {slots} hx1 k1 k2 => lv_if_ge hx hb hd ht (fun h => k1 (fun z => by have := Int32.le_iff_toInt_le.mp h; rw [hx1, h00] at this; have z' : x < 0 := z; omega)) (fun h => k2 (fun z => h (Int32.le_iff_toInt_le.mpr (by rw [hx1, h00]; have z' : ¬ x < 0 := z; omega))))) kt kf
  | gt => exact sg_br1 (P := px_ifp 4 x 0) (fun {x'} {la} {rest} {H} {locs} {cells} {slots} hx1 k1 k2 => lv_if_gt hx hb hd ht (fun h => k1 (by show 0 < x; rw [← hx1]; exact Int32.lt_iff_toInt_lt.mp h)) (fun h => k2 (fun z => h (Int32.lt_iff_toInt_lt.mpr (by rw [hx1]; exact z))))) kt kf
  | le => exact sg_br1 (P := px_ifp 5 x 0) (fun {x'} {la} {rest} {H} {locs} {cells} {slots} hx1 k1 k2 => lv_if_le hx hb hd ht (fun h => k1 (fun z => by have := Int32.le_iff_toInt_le.mp h; rw [hx1, h00] at this; have z' : 0 < x := z; omega)) (fun h => k2 (fun z => h (Int32.le_iff_toInt_le.mpr (by rw [hx1, h00]; have z' : ¬ 0 < x := z; omega))))) kt kf
theorem sp_if_icmp {cd : Jvm.ClassFile.Cond} {off x y : Int} {q t f : Nat} (C : sr_C E p R s m args meth c b M) (hd : decode b pc = .ok (.if_icmp cd off, n)) (hn : px_lok (.if_icmp cd off) n = true) (ha : px_act M pc (.if_icmp cd off) n ls st w = some (.inr (.inr (.inl (q, x, y, t, f, ls', st', w'))))) (kt : px_ifp q x y → sg_G E p l e R s m args below meth c Q (px_max M) n0 z0 ad0 t ls' st' w') (kf : ¬ px_ifp q x y → sg_G E p l e R s m args below meth c Q (px_max M) n0 z0 ad0 f ls' st' w') : sg_G E p l e R s m args below meth c Q (px_max M) n0 z0 ad0 pc ls st w := by
  obtain ⟨hx, hb, hml, hown, hts, hini, hdec, hlok, hfr, hlo, hbase, hE, hL, ho⟩ := C
  have hn := Nat.eq_of_beq_eq_true hn
  subst hn
  obtain ⟨x0, y0, st, rfl, ha⟩ := px_i2_s ha
  obtain ⟨ht, rfl, rfl, rfl, rfl, rfl, rfl, rfl⟩ := px_br_s ha
  have h00 : (0 : Int32).toInt = 0 := rfl
  cases cd with
  | eq => exact sg_br (P := px_ifp 0 x y) (fun {x'} {y'} {la} {rest} {H} {locs} {cells} {slots} hx1 hy1 k1 k2 => lv_icmp_eq hx hb hd ht (fun h => k1 (by show x = y; rw [← hx1, ← hy1, h])) (fun h => k2 (fun z => h (Int32.toInt_inj.mp (by rw [hx1, hy1]; exact z))))) kt kf
  | ne => exact sg_br (P := px_ifp 1 x y) (fun {x'} {y'} {la} {rest} {H} {locs} {cells} {slots} hx1 hy1 k1 k2 => lv_icmp_ne hx hb hd ht (fun h => k1 (fun z => h (Int32.toInt_inj.mp (by rw [hx1, hy1]; exact z)))) (fun h => k2 (fun z => z (by rw [← hx1, ← hy1, h])))) kt kf
  | lt => exact sg_br (P := px_ifp 2 x y) (fun {x'} {y'} {la} {rest} {H} {locs} {cells} {slots} hx1 hy1 k1 k2 => lv_icmp_lt hx hb hd ht (fun h => k1 (by show x < y; rw [← hx1, ← hy1]; exact Int32.lt_iff_toInt_lt.mp h)) (fun h => k2 (fun z => h (Int32.lt_iff_toInt_lt.mpr (by rw [hx1, hy1]; exact z))))) kt kf
  | ge => exact sg_br (P := px_ifp 3 x y) (fun {x'} {y'} {la} {rest} {H} {locs} {cells} {slots} hx1 hy1 k1 k2 => lv_icmp_ge hx hb hd ht (fun h => k1 (fun z => by have := Int32.le_iff_toInt_le.mp h; rw [hx1, hy1] at this; have z' : x < y := z; omega)) (fun h => k2 (fun z => h (Int32.le_iff_toInt_le.mpr (by rw [hx1, hy1]; have z' : ¬ x < y := z; omega))))) kt kf
  | gt => exact sg_br (P := px_ifp 4 x y) (fun {x'} {y'} {la} {rest} {H} {locs} {cells} {slots} hx1 hy1 k1 k2 => lv_icmp_gt hx hb hd ht (fun h => k1 (by show y < x; rw [← hx1, ← hy1]; exact Int32.lt_iff_toInt_lt.mp h)) (fun h => k2 (fun z => h (Int32.lt_iff_toInt_lt.mpr (by rw [hx1, hy1]; exact z))))) kt kf
  | le => exact sg_br (P := px_ifp 5 x y) (fun {x'} {y'} {la} {rest} {H} {locs} {cells} {slots} hx1 hy1 k1 k2 => lv_icmp_le hx hb hd ht (fun h => k1 (fun z => by have := Int32.le_iff_toInt_le.mp h; rw [hx1, hy1] at this; have z' : y < x := z; omega)) (fun h => k2 (fun z => h (Int32.le_iff_toInt_le.mpr (by rw [hx1, hy1]; have z' : ¬ y < x := z; omega))))) kt kf
end SP
