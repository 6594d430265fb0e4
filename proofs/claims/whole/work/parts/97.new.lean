theorem px_dv {E : se} {ad : List Nat} {ci j : Nat} (hc : ci < 10) (hj : j < px_nfl ci) : sr_v E ad (px_ftg ci j, 0) (defaultValue (px_fdt ci j)) := by
  rcases px_fsc ci hc j hj with ⟨h1, h2⟩ | ⟨h1, h2⟩ | ⟨h1, h2⟩
  · rw [h1, h2]; exact ⟨0, rfl, rfl⟩
  · rw [h1, h2]; exact ⟨0, rfl, rfl⟩
  · rw [h2]
    cases e : px_fdt ci j <;> rw [e] at h1 <;> first | (cases h1; done) | exact ⟨none, rfl, Or.inl ⟨rfl, rfl⟩⟩
theorem px_kds_len (l : List (Nat × Nat)) (k : Nat × Nat) : px_kds (l ++ [k]) l.length = k := by
  exact px_kds_app2 l [k] 0
section SN
variable {E : se} {p : Program} {l : Launch} {e : Env} {R : Room} {s : State} {m : MethodId} {args : Array Value} {below : List Frame} {meth : Method} {c : Code} {Q : State → Prop} {nL n0 z0 : Nat} {ad0 : List Nat} {b : ByteArray} {pc : Nat} {ls st : List pv} {w : pw}
/-- behind the making of one cell -/
theorem sg_al {kd : Nat × Nat} {q : Nat} {e1 : va_E} {la : Array Slot} {sa : List Value} {H1 : Heap} {locs : List Loc} {cells slots pc' : Nat} {ws : va_W} (h1 : sr_ls E (sr_ad ws) nL ls la) (h2 : sr_st E (sr_ad ws) st sa) (hw : sr_w E w ws) (hn : cells + n0 = w.1.length) (hz : slots + z0 = px_sz w.1) (hy : ∃ x, sr_ad ws = ad0 ++ x) (he : ∀ ad, sr_e E ad kd (fun _ => 0) e1) (hP1 : va_P (se_D E) px_cl (ws ++ [(q, e1)]) H1) (hD1 : va_D (se_A E) (ws ++ [(q, e1)])) (hS1 : va_S (se_A E) s.heap H1 locs)
    (k : sg_G E p l e R s m args below meth c Q nL n0 z0 ad0 pc' ls ((2, (w.1.length : Int)) :: st) (px_al w kd)) : W p l e R s m args below meth c H1 locs (cells + 1) (slots + kd.2) Q (F0 m pc' la (.ref q :: sa)) := by
  obtain ⟨y, hy⟩ := hy
  have ea : sr_ad (ws ++ [(q, e1)]) = sr_ad ws ++ [q] := List.map_append
  have hlen : (sr_ad ws).length = ws.length := List.length_map ..
  refine k la _ H1 locs _ _ (ws ++ [(q, e1)]) ⟨by rw [ea]; exact sr_ls_app h1, ⟨⟨some q, rfl, Or.inr ⟨ws.length, q, ?_, ?_, rfl⟩⟩, by rw [ea]; exact sr_st_app h2⟩, ?_, hP1, hD1, hS1, ?_, ?_, y ++ [q], by rw [ea, hy, List.append_assoc]⟩
  · dsimp only
    have := hw.1
    omega
  · rw [ea, List.getElem?_append_right (by omega), hlen, Nat.sub_self]
    rfl
  · refine sr_w_app (ks := [kd]) hw rfl rfl (fun k hk j => ?_) (fun k hk => ?_)
    · show (if k = w.1.length then 0 else w.2 k j) = _
      rw [if_neg (by omega)]
    · have hk0 : k = 0 := by simpa using hk
      subst hk0
      refine ⟨q, e1, rfl, sr_e_fun (fun j => ?_) (he _)⟩
      show (if w.1.length + 0 = w.1.length then 0 else _) = _
      rw [if_pos (Nat.add_zero _)]
  · show cells + 1 + n0 = (w.1 ++ [kd]).length
    rw [List.length_append]
    show cells + 1 + n0 = w.1.length + 1
    omega
  · show slots + kd.2 + z0 = px_sz (w.1 ++ [kd])
    rw [px_sz_app]
    show slots + kd.2 + z0 = px_sz w.1 + (kd.2 + 0)
    omega
theorem sg_new (hx : p.tables.exec = Jvm.exec) (hb : c.code = b) (hts : ∀ w ∈ gw, w.before args s = true) {own idx ci : Nat} (hown : s.vm.findClass (px_nm own) = some m.cls) (hK : va_K (se_D E) px_cl (se_T E) s) (hbase : se_b E ≤ s.heap.size) (hc : ci < 10) (hl : Cond.classLink (px_nm own) idx (px_nm ci) ∈ gw) (hin : Cond.instantiable (px_nm ci) (px_nfl ci) ∈ gw) (hini : Cond.initialized (px_nm ci) ∈ gw) (hR1 : w.1.length + 1 ≤ n0 + R.cells) (hR2 : px_sz w.1 + px_nfl ci ≤ z0 + R.slots) (hd : decode b pc = .ok (.new idx, 3))
    (k : sg_G E p l e R s m args below meth c Q nL n0 z0 ad0 (pc + 3) ls ((2, (w.1.length : Int)) :: st) (px_al w (10 + ci, px_nfl ci))) : sg_G E p l e R s m args below meth c Q nL n0 z0 ad0 pc ls st w := by
  intro la sa H locs cells slots ws hR
  obtain ⟨h1, h2, hw, hP, hD, hS, hn, hz, hy⟩ := hR
  refine va_new (C := px_nm ci) (T := px_T ci) (N := px_nfl ci) (ci := ci) (fs := (List.range (px_nfl ci)).map fun j => defaultValue (px_fdt ci j)) (own := px_nm own) hx hb hts (px_inw hc) (px_fdt ci) (px_fty ci hc) hown (hts _ hl) (hts _ hin) (hts _ hini) hK hP hD hS (fun q h => Nat.le_trans hbase h) (px_cl_at hc) (fun j hj => ?_) (by omega) (by omega) hd (fun q H1 hP1 hD1 hS1 => sg_al (kd := (10 + ci, px_nfl ci)) h1 h2 hw hn hz hy (fun ad => ?_) hP1 hD1 hS1 k)
  · unfold vp_V
    rw [List.getD_eq_getElem?_getD, List.getElem?_map, List.getElem?_range hj]
    rfl
  · refine Or.inr (Or.inr (Or.inr ⟨ci, hc, rfl, _, rfl, by simp, fun j hj => ⟨_, ?_, px_dv hc hj⟩⟩))
    rw [List.getElem?_map, List.getElem?_range hj]
    rfl
theorem sg_newa (hx : p.tables.exec = Jvm.exec) (hb : c.code = b) (hts : ∀ w ∈ gw, w.before args s = true) (hE : se_E E s s.heap) (hbase : se_b E ≤ s.heap.size) {a : ArrayType} {t : Nat} (ha : px_aty a = some t) {x : Int} (h0 : 0 ≤ x) (hu : x < 1000) (hR1 : w.1.length + 1 ≤ n0 + R.cells) (hR2 : px_sz w.1 + x.toNat ≤ z0 + R.slots) (hd : decode b pc = .ok (.newarray a, 2))
    (k : sg_G E p l e R s m args below meth c Q nL n0 z0 ad0 (pc + 2) ls ((2, (w.1.length : Int)) :: st) (px_al w (t, x.toNat))) : sg_G E p l e R s m args below meth c Q nL n0 z0 ad0 pc ls ((0, x) :: st) w := by
  intro la sa H locs cells slots ws hR
  obtain ⟨h1, h2, hw, hP, hD, hS, hn, hz, hy⟩ := hR
  obtain ⟨x', sa, rfl, hx', h2a⟩ := sr_sti h2
  have hK := hE.2.2.2.2.2.2.2.2.2.2.1
  have hT := hE.2.2.2.2.2.2.2.2.2.2.2
  have hneg : ¬ x' < 0 := fun q => by
    have := Int32.lt_iff_toInt_lt.mp q
    have : x'.toInt < 0 := by simpa using this
    omega
  have hN : x'.toNatClampNeg = x.toNat := by rw [← hx']; rfl
  have hA : ∀ q, s.heap.size ≤ q → se_A E q := fun q h => Nat.le_trans hbase h
  -- the class that newarray finds is the one that the environment holds
  have same : ∀ {cA c0 : ClassId} {ty : FieldType}, va_K (se_D E) px_cl (se_T E ++ [(cA, ty)]) s → (se_T E)[t]? = some (c0, ty) → (∀ C, ty ≠ .object C) → cA = c0 := by
    intro cA c0 ty hK2 h0 hty
    have e1 := (hK2.2 (se_T E).length (cA, ty) (by rw [List.getElem?_append_right (Nat.le_refl _), Nat.sub_self]; rfl)).2
    have e2 := (hK.2 t (c0, ty) h0).2
    cases ty with
    | object C => exact absurd rfl (hty C)
    | _ =>
      have e1' : s.vm.findClass _ = some cA := e1
      have e2' : s.vm.findClass _ = some c0 := e2
      rw [e1'] at e2'
      exact Option.some.inj e2'
  cases a with
  | boolean =>
    cases ha
    obtain ⟨c0, hc0⟩ := hT 3 (by decide)
    refine va_newa (atype := .boolean) (ty := .boolean) (a0 := (x.toNat, .inl fun _ => 0)) hx hb (hts _ px_ac_boolean) rfl hK hP hD hS hA (fun cA => by rw [vp_cell_i]; rfl) hneg hN (by simp [componentBytes]; omega) (by omega) (by omega) hd (fun q cA H1 hK2 hP1 hD1 hS1 => sg_al (kd := (3, x.toNat)) h1 h2a hw hn hz hy (fun ad => Or.inl ⟨Or.inr (Or.inr rfl), cA, _, rfl, ?_, fun j _ => rfl⟩) hP1 hD1 hS1 k)
    rw [same (ty := .boolean) hK2 hc0 (fun _ => by simp)]
    exact hc0
  | byte =>
    cases ha
    obtain ⟨c0, hc0⟩ := hT 2 (by decide)
    refine va_newa (atype := .byte) (ty := .byte) (a0 := (x.toNat, .inl fun _ => 0)) hx hb (hts _ px_ac_byte) rfl hK hP hD hS hA (fun cA => by rw [vp_cell_i]; rfl) hneg hN (by simp [componentBytes]; omega) (by omega) (by omega) hd (fun q cA H1 hK2 hP1 hD1 hS1 => sg_al (kd := (2, x.toNat)) h1 h2a hw hn hz hy (fun ad => Or.inl ⟨Or.inr (Or.inl rfl), cA, _, rfl, ?_, fun j _ => rfl⟩) hP1 hD1 hS1 k)
    rw [same (ty := .byte) hK2 hc0 (fun _ => by simp)]
    exact hc0
  | int =>
    cases ha
    obtain ⟨c0, hc0⟩ := hT 0 (by decide)
    refine va_newa (atype := .int) (ty := .int) (a0 := (x.toNat, .inl fun _ => 0)) hx hb (hts _ px_ac_int) rfl hK hP hD hS hA (fun cA => by rw [vp_cell_i]; rfl) hneg hN (by simp [componentBytes]; omega) (by omega) (by omega) hd (fun q cA H1 hK2 hP1 hD1 hS1 => sg_al (kd := (0, x.toNat)) h1 h2a hw hn hz hy (fun ad => Or.inl ⟨Or.inl rfl, cA, _, rfl, ?_, fun j _ => rfl⟩) hP1 hD1 hS1 k)
    rw [same (ty := .int) hK2 hc0 (fun _ => by simp)]
    exact hc0
  | long =>
    cases ha
    obtain ⟨c0, hc0⟩ := hT 1 (by decide)
    refine va_newa (atype := .long) (ty := .long) (a0 := (x.toNat, .inr (.inl fun _ => 0))) hx hb (hts _ px_ac_long) rfl hK hP hD hS hA (fun cA => by rw [vp_cell_l]; rfl) hneg hN (by simp [componentBytes]; omega) (by omega) (by omega) hd (fun q cA H1 hK2 hP1 hD1 hS1 => sg_al (kd := (1, x.toNat)) h1 h2a hw hn hz hy (fun ad => Or.inr (Or.inl ⟨rfl, cA, _, rfl, ?_, fun j _ => rfl⟩)) hP1 hD1 hS1 k)
    rw [same (ty := .long) hK2 hc0 (fun _ => by simp)]
    exact hc0
  | _ => cases ha
theorem sg_anew (hx : p.tables.exec = Jvm.exec) (hb : c.code = b) (hts : ∀ w ∈ gw, w.before args s = true) (hE : se_E E s s.heap) (hbase : se_b E ≤ s.heap.size) {own idx : Nat} (hown : s.vm.findClass (px_nm own) = some m.cls) (hl : Cond.classLink (px_nm own) idx "TinString$Row" ∈ gw) {x : Int} (h0 : 0 ≤ x) (hu : x < 1000) (hR1 : w.1.length + 1 ≤ n0 + R.cells) (hR2 : px_sz w.1 + x.toNat ≤ z0 + R.slots) (hd : decode b pc = .ok (.anewarray idx, 3))
    (k : sg_G E p l e R s m args below meth c Q nL n0 z0 ad0 (pc + 3) ls ((2, (w.1.length : Int)) :: st) (px_al w (6, x.toNat))) : sg_G E p l e R s m args below meth c Q nL n0 z0 ad0 pc ls ((0, x) :: st) w := by
  intro la sa H locs cells slots ws hR
  obtain ⟨h1, h2, hw, hP, hD, hS, hn, hz, hy⟩ := hR
  obtain ⟨x', sa, rfl, hx', h2a⟩ := sr_sti h2
  have hK := hE.2.2.2.2.2.2.2.2.2.2.1
  have hT := hE.2.2.2.2.2.2.2.2.2.2.2
  have hneg : ¬ x' < 0 := fun q => by
    have := Int32.lt_iff_toInt_lt.mp q
    have : x'.toInt < 0 := by simpa using this
    omega
  have hN : x'.toNatClampNeg = x.toNat := by rw [← hx']; rfl
  have hA : ∀ q, s.heap.size ≤ q → se_A E q := fun q h => Nat.le_trans hbase h
  obtain ⟨c0, hc0⟩ := hT 6 (by decide)
  refine va_newq hx hb hown (hts _ hl) hE.2.2.2.2.2.2.2.1 hK hP hD hS hA hneg hN (by omega) (by omega) (by omega) hd (fun q cA H1 hK2 hP1 hD1 hS1 => sg_al (kd := (6, x.toNat)) h1 h2a hw hn hz hy (fun ad => Or.inr (Or.inr (Or.inl ⟨⟨Nat.le_of_ble_eq_true rfl, Nat.le_of_ble_eq_true rfl⟩, cA, _, rfl, ?_, fun j _ => Or.inl ⟨rfl, rfl⟩⟩))) hP1 hD1 hS1 k)
  have e1 := (hK2.2 (se_T E).length (cA, .object "TinString$Row") (by rw [List.getElem?_append_right (Nat.le_refl _), Nat.sub_self]; rfl)).2
  have e2 := (hK.2 6 (c0, .object "TinString$Row") hc0).2
  obtain ⟨-, -, -, -, -, e1'⟩ := e1
  obtain ⟨-, -, -, -, -, e2'⟩ := e2
  rw [e1'] at e2'
  have ee : cA = c0 := Option.some.inj e2'
  rw [ee]
  exact hc0
end SN
