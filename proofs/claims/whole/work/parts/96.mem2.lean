theorem px_gb_spec {w : pw} {r i x : Int} (h : px_gb w r i x = true) : (px_ga w 2 r i = true ∧ -128 ≤ x ∧ x < 128) ∨ (px_ga w 3 r i = true ∧ 0 ≤ x ∧ x < 2) := by
  unfold px_gb at h
  simp only [Bool.or_eq_true, Bool.and_eq_true, decide_eq_true_eq] at h
  exact h
theorem px_i8 {y : Int32} (h1 : -128 ≤ y.toInt) (h2 : y.toInt < 128) : y.toInt8.toInt32 = y := by
  apply Int32.toInt_inj.mp
  rw [Int8.toInt_toInt32, Int32.toInt_toInt8]
  exact Int.bmod_eq_of_le_mul_two (by omega) (by omega)
section SS
variable {E : se} {p : Program} {l : Launch} {e : Env} {R : Room} {s : State} {m : MethodId} {args : Array Value} {below : List Frame} {meth : Method} {c : Code} {Q : State → Prop} {nL n0 z0 : Nat} {ad0 : List Nat} {b : ByteArray} {pc : Nat} {ls st : List pv} {w : pw}
/-- behind a write of one place of an array -/
theorem sg_wr {r : Int} {q a : Nat} {e0 e' : va_E} {j : Nat} {x : Int} {la : Array Slot} {sa : List Value} {H1 : Heap} {locs1 : List Loc} {cells slots pc' : Nat} {ws : va_W} (h1 : sr_ls E (sr_ad ws) nL ls la) (h2 : sr_st E (sr_ad ws) st sa) (hw : sr_w E w ws) (hn : cells + n0 = w.1.length) (hz : slots + z0 = px_sz w.1) (hy : ∃ x, sr_ad ws = ad0 ++ x) (g1 : r.toNat = q + 1) (g2 : ws[q]? = some (a, e0)) (he : sr_e E (sr_ad ws) (px_kds w.1 (q + 1)) (fun b => if b = j then x else w.2 (q + 1) b) e') (hP1 : va_P (se_D E) px_cl (ws.set q (a, e')) H1) (hD1 : va_D (se_A E) (ws.set q (a, e'))) (hS1 : va_S (se_A E) s.heap H1 locs1)
    (k : sg_G E p l e R s m args below meth c Q nL n0 z0 ad0 pc' ls st (px_wr w r j x)) : W p l e R s m args below meth c H1 locs1 cells slots Q (F0 m pc' la sa) := by
  obtain ⟨y, hy⟩ := hy
  exact k la sa H1 locs1 cells slots _ ⟨by rw [sr_ad_set g2]; exact h1, by rw [sr_ad_set g2]; exact h2, sr_w_set hw g1 g2 he, hP1, hD1, hS1, hn, hz, y, by rw [sr_ad_set g2]; exact hy⟩
theorem sg_iast (hx : p.tables.exec = Jvm.exec) (hb : c.code = b) (hK : va_K (se_D E) px_cl (se_T E) s) {r i x : Int} (hg : px_ga w 0 r i = true) (hd : decode b pc = .ok (.iastore, 1))
    (k : sg_G E p l e R s m args below meth c Q nL n0 z0 ad0 (pc + 1) ls st (px_wr w r i.toNat x)) : sg_G E p l e R s m args below meth c Q nL n0 z0 ad0 pc ls ((0, x) :: (0, i) :: (2, r) :: st) w := by
  intro la sa H locs cells slots ws hR
  obtain ⟨h1, h2, hw, hP, hD, hS, hn, hz, hy⟩ := hR
  obtain ⟨x', sa, rfl, hx', h2a⟩ := sr_sti h2
  obtain ⟨i', sa, rfl, hi, h2b⟩ := sr_sti h2a
  obtain ⟨v, sa, rfl, hv, h2c⟩ := sr_st1 h2b
  obtain ⟨q, a, e, n, g1, g2, rfl, gk, ga, gb, ge⟩ := sr_arr hw hv hg (by decide)
  rcases ge with ⟨-, cA, f, rfl, gt, gf⟩ | ⟨h, -⟩ | ⟨h, -⟩ | ⟨ci, -, h, -⟩
  · rw [← hi] at ga gb
    obtain ⟨hin, hto⟩ := px_n32 ga gb
    refine va_iast hx hb hK hP hD hS q 0 g2 gt hin hd (fun H1 locs1 hP1 hD1 hS1 => sg_wr h1 h2c hw hn hz hy g1 g2 ?_ hP1 hD1 hS1 k)
    rw [gk]
    refine Or.inl ⟨Or.inl rfl, cA, _, rfl, gt, fun j hj => ?_⟩
    rw [hto, hi]
    unfold upd
    dsimp only
    by_cases hji : j = i.toNat
    · rw [if_pos hji, if_pos hji]; exact hx'
    · rw [if_neg hji, if_neg hji]; exact gf j hj
  · cases h
  · exact absurd h.1 (by dsimp only; omega)
  · exact absurd (congrArg Prod.fst h) (by dsimp only; omega)
theorem sg_last (hx : p.tables.exec = Jvm.exec) (hb : c.code = b) (hK : va_K (se_D E) px_cl (se_T E) s) {r i x : Int} (hg : px_ga w 1 r i = true) (hd : decode b pc = .ok (.lastore, 1))
    (k : sg_G E p l e R s m args below meth c Q nL n0 z0 ad0 (pc + 1) ls st (px_wr w r i.toNat x)) : sg_G E p l e R s m args below meth c Q nL n0 z0 ad0 pc ls ((1, x) :: (0, i) :: (2, r) :: st) w := by
  intro la sa H locs cells slots ws hR
  obtain ⟨h1, h2, hw, hP, hD, hS, hn, hz, hy⟩ := hR
  obtain ⟨x', sa, rfl, hx', h2a⟩ := sr_stl h2
  obtain ⟨i', sa, rfl, hi, h2b⟩ := sr_sti h2a
  obtain ⟨v, sa, rfl, hv, h2c⟩ := sr_st1 h2b
  obtain ⟨q, a, e, n, g1, g2, rfl, gk, ga, gb, ge⟩ := sr_arr hw hv hg (by decide)
  rcases ge with ⟨h, -⟩ | ⟨-, cA, f, rfl, gt, gf⟩ | ⟨h, -⟩ | ⟨ci, -, h, -⟩
  · exact absurd h (by dsimp only; omega)
  · rw [← hi] at ga gb
    obtain ⟨hin, hto⟩ := px_n32 ga gb
    refine va_last hx hb hK hP hD hS q 1 g2 gt hin hd (fun H1 locs1 hP1 hD1 hS1 => sg_wr h1 h2c hw hn hz hy g1 g2 ?_ hP1 hD1 hS1 k)
    rw [gk]
    refine Or.inr (Or.inl ⟨rfl, cA, _, rfl, gt, fun j hj => ?_⟩)
    rw [hto, hi]
    unfold vp_updL
    dsimp only
    by_cases hji : j = i.toNat
    · rw [if_pos hji, if_pos hji]; exact hx'
    · rw [if_neg hji, if_neg hji]; exact gf j hj
  · exact absurd h.1 (by dsimp only; omega)
  · exact absurd (congrArg Prod.fst h) (by dsimp only; omega)
theorem sg_bast (hx : p.tables.exec = Jvm.exec) (hb : c.code = b) (hK : va_K (se_D E) px_cl (se_T E) s) {r i x : Int} (hg : px_gb w r i x = true) (hd : decode b pc = .ok (.bastore, 1))
    (k : sg_G E p l e R s m args below meth c Q nL n0 z0 ad0 (pc + 1) ls st (px_wr w r i.toNat x)) : sg_G E p l e R s m args below meth c Q nL n0 z0 ad0 pc ls ((0, x) :: (0, i) :: (2, r) :: st) w := by
  intro la sa H locs cells slots ws hR
  obtain ⟨h1, h2, hw, hP, hD, hS, hn, hz, hy⟩ := hR
  obtain ⟨x', sa, rfl, hx', h2a⟩ := sr_sti h2
  obtain ⟨i', sa, rfl, hi, h2b⟩ := sr_sti h2a
  obtain ⟨v, sa, rfl, hv, h2c⟩ := sr_st1 h2b
  rcases px_gb_spec hg with ⟨hg, hl, hu⟩ | ⟨hg, hl, hu⟩
  · obtain ⟨q, a, e, n, g1, g2, rfl, gk, ga, gb, ge⟩ := sr_arr hw hv hg (by decide)
    rcases ge with ⟨-, cA, f, rfl, gt, gf⟩ | ⟨h, -⟩ | ⟨h, -⟩ | ⟨ci, -, h, -⟩
    · rw [← hi] at ga gb
      obtain ⟨hin, hto⟩ := px_n32 ga gb
      have hnar : vp_nar .byte x' = x' := by rw [vp_nar_byte]; exact px_i8 (by omega) (by omega)
      refine va_bast hx hb hK hP hD hS q 2 g2 gt hin hd (fun H1 locs1 hP1 hD1 hS1 => sg_wr h1 h2c hw hn hz hy g1 g2 ?_ hP1 hD1 hS1 k)
      rw [gk]
      refine Or.inl ⟨Or.inr (Or.inl rfl), cA, _, rfl, gt, fun j hj => ?_⟩
      rw [hto, hi, hnar]
      unfold upd
      dsimp only
      by_cases hji : j = i.toNat
      · rw [if_pos hji, if_pos hji]; exact hx'
      · rw [if_neg hji, if_neg hji]; exact gf j hj
    · cases h
    · exact absurd h.1 (by dsimp only; omega)
    · exact absurd (congrArg Prod.fst h) (by dsimp only; omega)
  · obtain ⟨q, a, e, n, g1, g2, rfl, gk, ga, gb, ge⟩ := sr_arr hw hv hg (by decide)
    rcases ge with ⟨-, cA, f, rfl, gt, gf⟩ | ⟨h, -⟩ | ⟨h, -⟩ | ⟨ci, -, h, -⟩
    · rw [← hi] at ga gb
      obtain ⟨hin, hto⟩ := px_n32 ga gb
      have hnar : vp_nar .boolean x' = x' := by
        have : x' = 0 ∨ x' = 1 := by
          rcases (show x'.toInt = 0 ∨ x'.toInt = 1 by omega) with h | h
          · exact Or.inl (Int32.toInt_inj.mp h)
          · exact Or.inr (Int32.toInt_inj.mp h)
        rcases this with rfl | rfl <;> decide
      refine va_zast hx hb hK hP hD hS q 3 g2 gt hin hd (fun H1 locs1 hP1 hD1 hS1 => sg_wr h1 h2c hw hn hz hy g1 g2 ?_ hP1 hD1 hS1 k)
      rw [gk]
      refine Or.inl ⟨Or.inr (Or.inr rfl), cA, _, rfl, gt, fun j hj => ?_⟩
      rw [hto, hi, hnar]
      unfold upd
      dsimp only
      by_cases hji : j = i.toNat
      · rw [if_pos hji, if_pos hji]; exact hx'
      · rw [if_neg hji, if_neg hji]; exact gf j hj
    · cases h
    · exact absurd h.1 (by dsimp only; omega)
    · exact absurd (congrArg Prod.fst h) (by dsimp only; omega)
theorem sg_aast (hx : p.tables.exec = Jvm.exec) (hb : c.code = b) (hK : va_K (se_D E) px_cl (se_T E) s) {r i x : Int} (hg : (px_ga w 6 r i && px_go w x 4) = true) (hd : decode b pc = .ok (.aastore, 1))
    (k : sg_G E p l e R s m args below meth c Q nL n0 z0 ad0 (pc + 1) ls st (px_wr w r i.toNat x)) : sg_G E p l e R s m args below meth c Q nL n0 z0 ad0 pc ls ((2, x) :: (0, i) :: (2, r) :: st) w := by
  intro la sa H locs cells slots ws hR
  obtain ⟨h1, h2, hw, hP, hD, hS, hn, hz, hy⟩ := hR
  obtain ⟨x', sa, rfl, hx', h2a⟩ := sr_st1 h2
  obtain ⟨i', sa, rfl, hi, h2b⟩ := sr_sti h2a
  obtain ⟨v, sa, rfl, hv, h2c⟩ := sr_st1 h2b
  rw [Bool.and_eq_true] at hg
  obtain ⟨qo, ao, fs, o1, o2, rfl, -, -, -, -⟩ := sr_obj hw hx' hg.2 (by decide)
  obtain ⟨q, a, e, n, g1, g2, rfl, gk, ga, gb, ge⟩ := sr_arr hw hv hg.1 (by decide)
  rcases ge with ⟨h, -⟩ | ⟨h, -⟩ | ⟨-, cA, f, rfl, gt, gf⟩ | ⟨ci, -, h, -⟩
  · exact absurd h (by dsimp only; omega)
  · exact absurd h (by dsimp only; omega)
  · rw [← hi] at ga gb
    obtain ⟨hin, hto⟩ := px_n32 ga gb
    refine va_astq hx hb hK hP hD hS q 6 qo 4 (r := (px_nm 4, px_T 4, px_nfl 4)) g2 gt o2 (px_cl_at (by decide)) hin hd (fun H1 locs1 hP1 hD1 hS1 => sg_wr h1 h2c hw hn hz hy g1 g2 ?_ hP1 hD1 hS1 k)
    rw [gk]
    refine Or.inr (Or.inr (Or.inl ⟨⟨Nat.le_of_ble_eq_true rfl, Nat.le_of_ble_eq_true rfl⟩, cA, _, rfl, gt, fun j hj => ?_⟩))
    rw [hto, hi]
    unfold va_up
    dsimp only
    by_cases hji : j = i.toNat
    · rw [if_pos hji, if_pos hji]
      obtain ⟨o, ho1, ho2⟩ := (hx' : ∃ o, Value.ref ao = va_rf o ∧ sr_o (sr_ad ws) x o)
      cases o with
      | none => cases ho1
      | some z =>
        cases ho1
        exact ho2
    · rw [if_neg hji, if_neg hji]; exact gf j hj
  · exact absurd (congrArg Prod.fst h) (by dsimp only; omega)
/-- a static array, a constant String's and the script's places -/
theorem sg_gets (hx : p.tables.exec = Jvm.exec) (hb : c.code = b) (hts : ∀ w ∈ gw, w.before args s = true) {own idx i : Nat} (hown : s.vm.findClass (px_nm own) = some m.cls) (hE : se_E E s s.heap) (hi : i < 4) (hl : Cond.fieldLink (px_nm own) idx (px_snm i).1 (px_snm i).2 "[I" ∈ gw) (hd : decode b pc = .ok (.getstatic idx, 3))
    (k : sg_G E p l e R s m args below meth c Q nL n0 z0 ad0 (pc + 3) ls ((4, (i : Int)) :: st) w) : sg_G E p l e R s m args below meth c Q nL n0 z0 ad0 pc ls st w := by
  intro la sa H locs cells slots ws hR
  obtain ⟨h1, h2, hw, hP, hD, hS, h3⟩ := hR
  exact va_gets hx hb (hE.2.1 i hi).1 hS hown (hts _ hl) (fun _ h => h) hd (k la _ H locs cells slots ws ⟨h1, ⟨⟨i, hi, rfl, rfl⟩, h2⟩, hw, hP, hD, hS, h3⟩)
theorem px_gl_spec {t : List Int} {i : Int} (h : px_gl t i = true) : 0 ≤ i ∧ i < (t.length : Int) := by
  unfold px_gl at h
  simpa using h
theorem sg_sald (hx : p.tables.exec = Jvm.exec) (hb : c.code = b) (hE : se_E E s s.heap) {r i : Int} (hg : px_gl (px_sar r.toNat) i = true) (hd : decode b pc = .ok (.iaload, 1))
    (k : sg_G E p l e R s m args below meth c Q nL n0 z0 ad0 (pc + 1) ls ((0, px_lst (px_sar r.toNat) i.toNat) :: st) w) : sg_G E p l e R s m args below meth c Q nL n0 z0 ad0 pc ls ((0, i) :: (4, r) :: st) w := by
  intro la sa H locs cells slots ws hR
  obtain ⟨h1, h2, hw, hP, hD, hS, h3⟩ := hR
  obtain ⟨i', sa, rfl, hi, h2a⟩ := sr_sti h2
  obtain ⟨v, sa, rfl, hv, h2b⟩ := sr_st1 h2a
  obtain ⟨z, hz, hz2, rfl⟩ := (hv : ∃ z : Nat, z < 4 ∧ r = (z : Int) ∧ v = .ref (se_S E z))
  have hzr : r.toNat = z := by omega
  rw [hzr] at hg k
  obtain ⟨ga, gb⟩ := px_gl_spec hg
  rw [← hi] at ga gb
  obtain ⟨hin, hto⟩ := px_n32 ga gb
  obtain ⟨cell, c1, c2, c3, c4, c5, c6, c7⟩ := (hE.2.1 z hz).2.kept hS.2.1
  have hlt : i'.toNatClampNeg < (px_sar z).length := Nat.not_le.mp fun q => hin (Or.inr q)
  refine W.iald (v := .int (Int32.ofInt (px_lst (px_sar z) i'.toNatClampNeg))) hx hb c1 c2 c3 (fun q => ?_) (c6 _ hlt) rfl rfl hd (k la _ H locs cells slots ws ⟨h1, sr_mki ?_ h2b, hw, hP, hD, hS, h3⟩)
  · rcases q with q | q
    · exact hin (Or.inl q)
    · omega
  · rw [hto, hi]
    have : ∀ z, z < 4 → ∀ j, j < (px_sar z).length → (Int32.ofInt (px_lst (px_sar z) j)).toInt = px_lst (px_sar z) j := by decide +kernel
    exact this z hz _ (by rw [hto, hi] at hlt; exact hlt)
theorem sg_slen (hx : p.tables.exec = Jvm.exec) (hb : c.code = b) (hE : se_E E s s.heap) {r : Int} (hd : decode b pc = .ok (.arraylength, 1))
    (k : sg_G E p l e R s m args below meth c Q nL n0 z0 ad0 (pc + 1) ls ((0, ((px_sar r.toNat).length : Int)) :: st) w) : sg_G E p l e R s m args below meth c Q nL n0 z0 ad0 pc ls ((4, r) :: st) w := by
  intro la sa H locs cells slots ws hR
  obtain ⟨h1, h2, hw, hP, hD, hS, h3⟩ := hR
  obtain ⟨v, sa, rfl, hv, h2b⟩ := sr_st1 h2
  obtain ⟨z, hz, hz2, rfl⟩ := (hv : ∃ z : Nat, z < 4 ∧ r = (z : Int) ∧ v = .ref (se_S E z))
  have hzr : r.toNat = z := by omega
  rw [hzr] at k
  obtain ⟨cell, c1, c2, c3, c4, c5, c6, c7⟩ := (hE.2.1 z hz).2.kept hS.2.1
  refine W.alen (n := Int32.ofNat (px_sar z).length) hx hb c1 c2 c5 rfl rfl hd (k la _ H locs cells slots ws ⟨h1, sr_mki ?_ h2b, hw, hP, hD, hS, h3⟩)
  have : ∀ z, z < 4 → (Int32.ofNat (px_sar z).length).toInt = ((px_sar z).length : Int) := by decide +kernel
  exact this z hz
theorem sg_xald (hx : p.tables.exec = Jvm.exec) (hb : c.code = b) (hbase : se_b E ≤ s.heap.size) (hE : se_E E s s.heap) {r i : Int} (hg : (decide (0 ≤ i) && decide (i < r)) = true) (hd : decode b pc = .ok (.iaload, 1))
    (k : sg_G E p l e R s m args below meth c Q nL n0 z0 ad0 (pc + 1) ls ((0, px_rd w 0 i.toNat) :: st) w) : sg_G E p l e R s m args below meth c Q nL n0 z0 ad0 pc ls ((0, i) :: (5, r) :: st) w := by
  intro la sa H locs cells slots ws hR
  obtain ⟨h1, h2, hw, hP, hD, hS, h3⟩ := hR
  obtain ⟨i', sa, rfl, hi, h2a⟩ := sr_sti h2
  obtain ⟨v, sa, rfl, hv, h2b⟩ := sr_st1 h2a
  obtain ⟨hr, rfl⟩ := (hv : r = (se_L E : Int) ∧ v = .ref (se_s E))
  simp only [Bool.and_eq_true, decide_eq_true_eq] at hg
  obtain ⟨ga, gb⟩ := hg
  rw [← hi] at ga gb
  obtain ⟨hin, hto⟩ := px_n32 (n := se_L E) ga (by omega)
  refine va_sld hx hb hE.1.1 hE.1.2.2 (fun z => by have := hE.1.2.1; unfold se_A at z; omega) hS hin hd (k la _ H locs cells slots ws ⟨h1, sr_mki ?_ h2b, hw, hP, hD, hS, h3⟩)
  rw [hto, ← hw.2.2.2 _ (by omega), hi]
  rfl
theorem sg_xlen (hx : p.tables.exec = Jvm.exec) (hb : c.code = b) (hL : se_L E < 2 ^ 31) (hE : se_E E s s.heap) {r : Int} (hd : decode b pc = .ok (.arraylength, 1))
    (k : sg_G E p l e R s m args below meth c Q nL n0 z0 ad0 (pc + 1) ls ((0, r) :: st) w) : sg_G E p l e R s m args below meth c Q nL n0 z0 ad0 pc ls ((5, r) :: st) w := by
  intro la sa H locs cells slots ws hR
  obtain ⟨h1, h2, hw, hP, hD, hS, h3⟩ := hR
  obtain ⟨v, sa, rfl, hv, h2b⟩ := sr_st1 h2
  obtain ⟨hr, rfl⟩ := (hv : r = (se_L E : Int) ∧ v = .ref (se_s E))
  refine va_slen hx hb hE.1.1 hE.1.2.2 (fun z => by have := hE.1.2.1; unfold se_A at z; omega) hS hd (k la _ H locs cells slots ws ⟨h1, sr_mki ?_ h2b, hw, hP, hD, hS, h3⟩)
  exact (nI_toInt hL).trans (Eq.symm hr)
theorem sg_alen (hx : p.tables.exec = Jvm.exec) (hb : c.code = b) (hK : va_K (se_D E) px_cl (se_T E) s) {r : Int} (hsz : (px_kd w r).2 < 2 ^ 31) (hg : Nat.ble (px_kd w r).1 6 = true) (hd : decode b pc = .ok (.arraylength, 1))
    (k : sg_G E p l e R s m args below meth c Q nL n0 z0 ad0 (pc + 1) ls ((0, ((px_kd w r).2 : Int)) :: st) w) : sg_G E p l e R s m args below meth c Q nL n0 z0 ad0 pc ls ((2, r) :: st) w := by
  intro la sa H locs cells slots ws hR
  obtain ⟨h1, h2, hw, hP, hD, hS, h3⟩ := hR
  obtain ⟨v, sa, rfl, hv, h2b⟩ := sr_st1 h2
  have hg := Nat.le_of_ble_eq_true hg
  obtain ⟨q, a, e9, g0, g1, g2, rfl, ge⟩ := sr_ref hw hv (by omega)
  have key : ∀ {cA : ClassId} {x : vp_A} {t : Nat} {ty : FieldType}, e9 = .inl (cA, (px_kd w r).2, x.2) → (se_T E)[t]? = some (cA, ty) → W p l e R s m args below meth c H locs cells slots Q (F0 m pc la (.ref a :: sa)) := by
    intro cA x t ty he ht
    subst he
    exact va_alen (x := ((px_kd w r).2, x.2)) hx hb hK hP q t g2 ht rfl hd (k la _ H locs cells slots ws ⟨h1, sr_mki (nI_toInt hsz) h2b, hw, hP, hD, hS, h3⟩)
  rcases ge with ⟨-, cA, f, he, gt, gf⟩ | ⟨-, cA, f, he, gt, gf⟩ | ⟨-, cA, f, he, gt, gf⟩ | ⟨ci, -, h, -⟩
  · exact key (x := (0, .inl f)) he gt
  · exact key (x := (0, .inr (.inl f))) he gt
  · exact key (x := (0, .inr (.inr (.inr (.inr f))))) he gt
  · rw [h] at hg
    dsimp only at hg
    omega
end SS
