/-! Instructions on the heap. -/
theorem gw_link {Ts : List Cond} {args : Array Value} {s : State} (hts : ∀ w ∈ gw, w.before args s = true) {c j idx own : Nat} (h : Cond.fieldLink (px_nm own) idx (px_nm c) (px_T c j).2.1 (px_T c j).2.2.1 ∈ gw) : (Cond.fieldLink (px_nm own) idx (px_nm c) (px_T c j).2.1 (px_T c j).2.2.1).before args s = true := hts _ h
theorem sr_gv {E : se} {ad : List Nat} {c j : Nat} (hc : c < 10) (hj : j < px_nfl c) {x : Int} {v : Value} (h : sr_v E ad (px_ftg c j, x) v) : narrow (px_fdt c j) v = v ∧ fits (px_fdt c j) v = true := by
  rcases px_fsc c hc j hj with ⟨h1, h2⟩ | ⟨h1, h2⟩ | ⟨h1, h2⟩
  · rw [h2] at h
    rw [h1]
    obtain ⟨y, rfl, -⟩ := (h : ∃ y : Int32, v = .int y ∧ y.toInt = x)
    exact ⟨rfl, rfl⟩
  · rw [h2] at h
    rw [h1]
    obtain ⟨y, rfl, -⟩ := (h : ∃ y : Int64, v = .long y ∧ y.toInt = x)
    exact ⟨rfl, rfl⟩
  · rw [h2] at h
    obtain ⟨o, rfl, -⟩ := (h : ∃ o, v = va_rf o ∧ sr_o ad x o)
    cases e : px_fdt c j <;> rw [e] at h1 <;> first | (cases h1; done) | (cases o <;> exact ⟨rfl, rfl⟩)
theorem px_ga_spec {w : pw} {t : Nat} {r i : Int} (h : px_ga w t r i = true) : (px_kd w r).1 = t ∧ 0 ≤ i ∧ i < ((px_kd w r).2 : Int) := by
  unfold px_ga at h
  simp only [Bool.and_eq_true, decide_eq_true_eq] at h
  exact ⟨Nat.eq_of_beq_eq_true h.1, h.2.1, h.2.2⟩
theorem px_go_spec {w : pw} {r : Int} {c : Nat} (h : px_go w r c = true) : (px_kd w r).1 = 10 + c := Nat.eq_of_beq_eq_true h
/-- an object's cell -/
theorem sr_obj {E : se} {w : pw} {ws : va_W} {r : Int} {v : Value} {c : Nat} (hw : sr_w E w ws) (hv : sr_v E (sr_ad ws) (2, r) v) (hg : px_go w r c = true) (hc : c < 10) : ∃ (k a : Nat) (fs : List Value), r.toNat = k + 1 ∧ ws[k]? = some (a, .inr (c, fs)) ∧ v = .ref a ∧ c < 10 ∧ px_kds w.1 (k + 1) = (10 + c, px_nfl c) ∧ fs.length = px_nfl c ∧ ∀ j, j < px_nfl c → ∃ u, fs[j]? = some u ∧ sr_v E (sr_ad ws) (px_ftg c j, w.2 (k + 1) j) u := by
  have h1 := px_go_spec hg
  obtain ⟨k, a, e, h2, h3, h4, h5, h6⟩ := sr_ref hw hv (by omega)
  have hkd : px_kd w r = px_kds w.1 (k + 1) := by unfold px_kd; rw [h3]
  rcases h6 with ⟨h6, -⟩ | ⟨h6, -⟩ | ⟨h6, -⟩ | ⟨ci, g1, g2, fs, g3, g4, g5⟩
  · omega
  · omega
  · omega
  · have : ci = c := by rw [g2] at h1; dsimp only at h1; omega
    subst this
    subst g3
    exact ⟨k, a, fs, h3, h4, h5, g1, by rw [← hkd]; exact g2, g4, g5⟩
theorem sr_arr {E : se} {w : pw} {ws : va_W} {r i : Int} {v : Value} {t : Nat} (hw : sr_w E w ws) (hv : sr_v E (sr_ad ws) (2, r) v) (hg : px_ga w t r i = true) (ht : t < 10) : ∃ (k a : Nat) (e : va_E) (n : Nat), r.toNat = k + 1 ∧ ws[k]? = some (a, e) ∧ v = .ref a ∧ px_kds w.1 (k + 1) = (t, n) ∧ 0 ≤ i ∧ i < (n : Int) ∧ sr_e E (sr_ad ws) (t, n) (w.2 (k + 1)) e := by
  obtain ⟨h1, h1a, h1b⟩ := px_ga_spec hg
  obtain ⟨k, a, e, h2, h3, h4, h5, h6⟩ := sr_ref hw hv (by omega)
  have hkd : px_kd w r = px_kds w.1 (k + 1) := by unfold px_kd; rw [h3]
  have he : px_kd w r = (t, (px_kd w r).2) := by rw [← h1]
  rw [he] at h6
  exact ⟨k, a, e, (px_kd w r).2, h3, h4, h5, by rw [← hkd]; exact he, h1a, h1b, h6⟩
section SM
variable {E : se} {p : Program} {l : Launch} {e : Env} {R : Room} {s : State} {m : MethodId} {args : Array Value} {below : List Frame} {meth : Method} {c : Code} {Q : State → Prop} {nL n0 z0 : Nat} {ad0 : List Nat} {b : ByteArray} {pc : Nat} {ls st : List pv} {w : pw}
theorem sg_getf (hx : p.tables.exec = Jvm.exec) (hb : c.code = b) (hts : ∀ w ∈ gw, w.before args s = true) {own idx ci j : Nat} (hown : s.vm.findClass (px_nm own) = some m.cls) (hK : va_K (se_D E) px_cl (se_T E) s) (hc : ci < 10) (hj : j < px_nfl ci) (hl : Cond.fieldLink (px_nm own) idx (px_nm ci) (px_T ci j).2.1 (px_T ci j).2.2.1 ∈ gw) {r : Int} (hg : px_go w r ci = true) (hd : decode b pc = .ok (.getfield idx, 3))
    (k : sg_G E p l e R s m args below meth c Q nL n0 z0 ad0 (pc + 3) ls ((px_ftg ci j, px_rd w r j) :: st) w) : sg_G E p l e R s m args below meth c Q nL n0 z0 ad0 pc ls ((2, r) :: st) w := by
  intro la sa H locs cells slots ws hR
  obtain ⟨h1, h2, hw, hP, hD, hS, h3⟩ := hR
  obtain ⟨v, sa, rfl, hv, h2a⟩ := sr_st1 h2
  obtain ⟨q, a, fs, g1, g2, rfl, -, -, g3, g4⟩ := sr_obj hw hv hg hc
  obtain ⟨u, g5, g6⟩ := g4 j hj
  have hrd : w.2 (q + 1) j = px_rd w r j := by unfold px_rd; rw [g1]
  rw [hrd] at g6
  exact va_get (C := px_nm ci) (T := px_T ci) (N := px_nfl ci) (ref := px_nm ci) (own := px_nm own) hx hb hts (px_inw hc) hown hK hP q g2 (px_cl_at hc) j hj (hts _ hl) (fun _ h => h) g5 hd (k la (u :: sa) H locs cells slots ws ⟨h1, ⟨g6, h2a⟩, hw, hP, hD, hS, h3⟩)
theorem sg_putf (hx : p.tables.exec = Jvm.exec) (hb : c.code = b) (hts : ∀ w ∈ gw, w.before args s = true) {own idx ci j : Nat} (hown : s.vm.findClass (px_nm own) = some m.cls) (hK : va_K (se_D E) px_cl (se_T E) s) (hc : ci < 10) (hj : j < px_nfl ci) (hl : Cond.fieldLink (px_nm own) idx (px_nm ci) (px_T ci j).2.1 (px_T ci j).2.2.1 ∈ gw) (hfin : (px_T ci j).2.2.2 = false ∨ (meth.name = "<init>" ∧ ci = own)) {r x : Int} (hg : px_go w r ci = true) (hd : decode b pc = .ok (.putfield idx, 3))
    (k : sg_G E p l e R s m args below meth c Q nL n0 z0 ad0 (pc + 3) ls st (px_wr w r j x)) : sg_G E p l e R s m args below meth c Q nL n0 z0 ad0 pc ls ((px_ftg ci j, x) :: (2, r) :: st) w := by
  intro la sa H locs cells slots ws hR
  obtain ⟨h1, h2, hw, hP, hD, hS, hn, hz, y, hy⟩ := hR
  obtain ⟨u, sa, rfl, hu, h2a⟩ := sr_st1 h2
  obtain ⟨v, sa, rfl, hv, h2b⟩ := sr_st1 h2a
  obtain ⟨q, a, fs, g1, g2, rfl, -, gk, g3, g4⟩ := sr_obj hw hv hg hc
  obtain ⟨hnr, hft⟩ := sr_gv hc hj hu
  have kk : ∀ (H1 : Heap) (locs1 : List Loc), va_P (se_D E) px_cl (ws.set q (a, .inr (ci, fs.set j u))) H1 → va_D (se_A E) (ws.set q (a, .inr (ci, fs.set j u))) → va_S (se_A E) s.heap H1 locs1 → W p l e R s m args below meth c H1 locs1 cells slots Q (F0 m (pc + 3) la sa) := by
    intro H1 locs1 hP1 hD1 hS1
    have hw1 : sr_w E (px_wr w r j x) (ws.set q (a, .inr (ci, fs.set j u))) := by
      refine sr_w_set hw g1 g2 ?_
      rw [gk]
      refine Or.inr (Or.inr (Or.inr ⟨ci, hc, rfl, _, rfl, by rw [List.length_set]; exact g3, fun i hi => ?_⟩))
      by_cases hij : i = j
      · subst hij
        refine ⟨u, List.getElem?_set_self (by omega), ?_⟩
        dsimp only
        rw [if_pos rfl]
        exact hu
      · rw [List.getElem?_set_ne (fun q => hij q.symm)]
        dsimp only
        rw [if_neg hij]
        exact g4 i hi
    exact k la sa H1 locs1 cells slots _ ⟨by rw [sr_ad_set g2]; exact h1, by rw [sr_ad_set g2]; exact h2b, hw1, hP1, hD1, hS1, hn, hz, y, by rw [sr_ad_set g2]; exact hy⟩
  cases hf : (px_T ci j).2.2.2 with
  | false => exact va_put (C := px_nm ci) (T := px_T ci) (N := px_nfl ci) (ref := px_nm ci) (own := px_nm own) hx hb hts (px_inw hc) (px_fdt ci) (px_fty ci hc) (px_fap ci hc) hown hK hP hD hS q g2 (px_cl_at hc) j hj (hts _ hl) (fun _ h => h) hf (px_fty ci hc j hj) hnr hft (by omega) hd kk
  | true =>
    rcases hfin with h | ⟨h, he⟩
    · rw [hf] at h; cases h
    · exact va_putF (C := px_nm ci) (T := px_T ci) (N := px_nfl ci) (ref := px_nm ci) (own := px_nm own) hx hb hts (px_inw hc) (px_fdt ci) (px_fty ci hc) (px_fap ci hc) hown hK hP hD hS q g2 (px_cl_at hc) j hj (hts _ hl) (fun _ h => h) hf h (by rw [← he]; rfl) (px_fty ci hc j hj) hnr hft (by omega) hd kk
theorem sg_iald (hx : p.tables.exec = Jvm.exec) (hb : c.code = b) (hK : va_K (se_D E) px_cl (se_T E) s) {r i : Int} (hg : px_ga w 0 r i = true) (hd : decode b pc = .ok (.iaload, 1))
    (k : sg_G E p l e R s m args below meth c Q nL n0 z0 ad0 (pc + 1) ls ((0, px_rd w r i.toNat) :: st) w) : sg_G E p l e R s m args below meth c Q nL n0 z0 ad0 pc ls ((0, i) :: (2, r) :: st) w := by
  intro la sa H locs cells slots ws hR
  obtain ⟨h1, h2, hw, hP, hD, hS, h3⟩ := hR
  obtain ⟨i', sa, rfl, hi, h2a⟩ := sr_sti h2
  obtain ⟨v, sa, rfl, hv, h2b⟩ := sr_st1 h2a
  obtain ⟨q, a, e, n, g1, g2, rfl, gk, ga, gb, ge⟩ := sr_arr hw hv hg (by decide)
  rcases ge with ⟨-, cA, f, rfl, gt, gf⟩ | ⟨h, -⟩ | ⟨h, -⟩ | ⟨ci, -, h, -⟩
  · rw [← hi] at ga gb
    obtain ⟨hin, hto⟩ := px_n32 ga gb
    refine va_iald hx hb hK hP q 0 g2 gt hin hd (k la _ H locs cells slots ws ⟨h1, sr_mki ?_ h2b, hw, hP, hD, hS, h3⟩)
    rw [hto, gf _ (by omega)]
    unfold px_rd
    rw [g1, hi]
  · cases h
  · exact absurd h.1 (by dsimp only; omega)
  · exact absurd (congrArg Prod.fst h) (by dsimp only; omega)
theorem sg_lald (hx : p.tables.exec = Jvm.exec) (hb : c.code = b) (hK : va_K (se_D E) px_cl (se_T E) s) {r i : Int} (hg : px_ga w 1 r i = true) (hd : decode b pc = .ok (.laload, 1))
    (k : sg_G E p l e R s m args below meth c Q nL n0 z0 ad0 (pc + 1) ls ((1, px_rd w r i.toNat) :: st) w) : sg_G E p l e R s m args below meth c Q nL n0 z0 ad0 pc ls ((0, i) :: (2, r) :: st) w := by
  intro la sa H locs cells slots ws hR
  obtain ⟨h1, h2, hw, hP, hD, hS, h3⟩ := hR
  obtain ⟨i', sa, rfl, hi, h2a⟩ := sr_sti h2
  obtain ⟨v, sa, rfl, hv, h2b⟩ := sr_st1 h2a
  obtain ⟨q, a, e, n, g1, g2, rfl, gk, ga, gb, ge⟩ := sr_arr hw hv hg (by decide)
  rcases ge with ⟨h, -⟩ | ⟨-, cA, f, rfl, gt, gf⟩ | ⟨h, -⟩ | ⟨ci, -, h, -⟩
  · exact absurd h (by dsimp only; omega)
  · rw [← hi] at ga gb
    obtain ⟨hin, hto⟩ := px_n32 ga gb
    refine va_lald hx hb hK hP q 1 g2 gt hin hd (k la _ H locs cells slots ws ⟨h1, sr_mkl ?_ h2b, hw, hP, hD, hS, h3⟩)
    rw [hto, gf _ (by omega)]
    unfold px_rd
    rw [g1, hi]
  · exact absurd h.1 (by dsimp only; omega)
  · exact absurd (congrArg Prod.fst h) (by dsimp only; omega)
theorem sg_bald (hx : p.tables.exec = Jvm.exec) (hb : c.code = b) (hK : va_K (se_D E) px_cl (se_T E) s) {r i : Int} (hg : (px_ga w 2 r i || px_ga w 3 r i) = true) (hd : decode b pc = .ok (.baload, 1))
    (k : sg_G E p l e R s m args below meth c Q nL n0 z0 ad0 (pc + 1) ls ((0, px_rd w r i.toNat) :: st) w) : sg_G E p l e R s m args below meth c Q nL n0 z0 ad0 pc ls ((0, i) :: (2, r) :: st) w := by
  intro la sa H locs cells slots ws hR
  obtain ⟨h1, h2, hw, hP, hD, hS, h3⟩ := hR
  obtain ⟨i', sa, rfl, hi, h2a⟩ := sr_sti h2
  obtain ⟨v, sa, rfl, hv, h2b⟩ := sr_st1 h2a
  rcases (Bool.or_eq_true _ _).mp hg with hg | hg
  · obtain ⟨q, a, e, n, g1, g2, rfl, gk, ga, gb, ge⟩ := sr_arr hw hv hg (by decide)
    rcases ge with ⟨-, cA, f, rfl, gt, gf⟩ | ⟨h, -⟩ | ⟨h, -⟩ | ⟨ci, -, h, -⟩
    · rw [← hi] at ga gb
      obtain ⟨hin, hto⟩ := px_n32 ga gb
      refine va_bald hx hb hK hP q 2 g2 gt hin hd (k la _ H locs cells slots ws ⟨h1, sr_mki ?_ h2b, hw, hP, hD, hS, h3⟩)
      rw [hto, gf _ (by omega)]
      unfold px_rd
      rw [g1, hi]
    · cases h
    · exact absurd h.1 (by dsimp only; omega)
    · exact absurd (congrArg Prod.fst h) (by dsimp only; omega)
  · obtain ⟨q, a, e, n, g1, g2, rfl, gk, ga, gb, ge⟩ := sr_arr hw hv hg (by decide)
    rcases ge with ⟨-, cA, f, rfl, gt, gf⟩ | ⟨h, -⟩ | ⟨h, -⟩ | ⟨ci, -, h, -⟩
    · rw [← hi] at ga gb
      obtain ⟨hin, hto⟩ := px_n32 ga gb
      refine va_zald hx hb hK hP q 3 g2 gt hin hd (k la _ H locs cells slots ws ⟨h1, sr_mki ?_ h2b, hw, hP, hD, hS, h3⟩)
      rw [hto, gf _ (by omega)]
      unfold px_rd
      rw [g1, hi]
    · cases h
    · exact absurd h.1 (by dsimp only; omega)
    · exact absurd (congrArg Prod.fst h) (by dsimp only; omega)
theorem sg_aald (hx : p.tables.exec = Jvm.exec) (hb : c.code = b) (hK : va_K (se_D E) px_cl (se_T E) s) {r i : Int} {t : Nat} (ht : 4 ≤ t ∧ t ≤ 6) (hg : px_ga w t r i = true) (hd : decode b pc = .ok (.aaload, 1))
    (k : sg_G E p l e R s m args below meth c Q nL n0 z0 ad0 (pc + 1) ls ((2, px_rd w r i.toNat) :: st) w) : sg_G E p l e R s m args below meth c Q nL n0 z0 ad0 pc ls ((0, i) :: (2, r) :: st) w := by
  intro la sa H locs cells slots ws hR
  obtain ⟨h1, h2, hw, hP, hD, hS, h3⟩ := hR
  obtain ⟨i', sa, rfl, hi, h2a⟩ := sr_sti h2
  obtain ⟨v, sa, rfl, hv, h2b⟩ := sr_st1 h2a
  obtain ⟨q, a, e, n, g1, g2, rfl, gk, ga, gb, ge⟩ := sr_arr hw hv hg (by omega)
  rcases ge with ⟨h, -⟩ | ⟨h, -⟩ | ⟨-, cA, f, rfl, gt, gf⟩ | ⟨ci, -, h, -⟩
  · exact absurd h (by dsimp only; omega)
  · exact absurd h (by dsimp only; omega)
  · rw [← hi] at ga gb
    obtain ⟨hin, hto⟩ := px_n32 ga gb
    have hlt : i'.toNatClampNeg < n := Nat.not_le.mp fun q => hin (Or.inr q)
    have hr : (px_kty t).isReference = true := by
      obtain ⟨ht1, ht2⟩ := ht
      rcases (show t = 4 ∨ t = 5 ∨ t = 6 by omega) with rfl | rfl | rfl <;> rfl
    refine W.aald (v := va_rf (f i'.toNatClampNeg)) (ty := px_kty t) hx hb (hP q _ g2) ((hK.2 t _ gt).1 n (fun j => va_rf (f j))) hr (fun q => by cases q) (by show ¬ (i' < 0 ∨ (arrV _ _ _).slots.size ≤ _); rw [arrV_size]; exact hin) (by show (arrV _ _ _).slots[_]? = _; rw [arrV_read _ _ hlt]) rfl rfl hd (k la _ H locs cells slots ws ⟨h1, ⟨⟨_, rfl, ?_⟩, h2b⟩, hw, hP, hD, hS, h3⟩)
    have := gf i'.toNatClampNeg hlt
    rw [hto] at this ⊢
    show sr_o _ (px_rd w r i.toNat) _
    unfold px_rd
    rw [g1, ← hi]
    exact this
  · exact absurd (congrArg Prod.fst h) (by dsimp only; omega)
end SM
