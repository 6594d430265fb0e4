/-! What is called of the JDK. -/
theorem px_site_5 {c idx : Nat} {t : pm} (h : px_site c idx 5 t) : Cond.methodLink (px_nm c) idx px_oin ∈ gw := by
  rcases h with ⟨-, h⟩ | ⟨h, -⟩ | ⟨h, -⟩ | ⟨⟨h, -⟩, -⟩ | ⟨_, _, _, ⟨h, -⟩ | ⟨h, -⟩ | ⟨h, -⟩ | ⟨h, -⟩⟩ <;> first | exact h | omega
theorem px_site_6 {c idx : Nat} {t : pm} (h : px_site c idx 6 t) : Cond.methodLink (px_nm c) idx px_sln ∈ gw := by
  rcases h with ⟨h, -⟩ | ⟨-, h⟩ | ⟨h, -⟩ | ⟨⟨h, -⟩, -⟩ | ⟨_, _, _, ⟨h, -⟩ | ⟨h, -⟩ | ⟨h, -⟩ | ⟨h, -⟩⟩ <;> first | exact h | omega
theorem px_site_7 {c idx : Nat} {t : pm} (h : px_site c idx 7 t) : Cond.methodLink (px_nm c) idx px_sch ∈ gw := by
  rcases h with ⟨h, -⟩ | ⟨h, -⟩ | ⟨-, h⟩ | ⟨⟨h, -⟩, -⟩ | ⟨_, _, _, ⟨h, -⟩ | ⟨h, -⟩ | ⟨h, -⟩ | ⟨h, -⟩⟩ <;> first | exact h | omega
theorem px_site_m {c idx k : Nat} {t : pm} (hk : 8 ≤ k) (h : px_site c idx k t) : Cond.methodLink (px_nm c) idx (px_mth k) ∈ gw ∧ Cond.static (px_mth k) ∈ gw ∧ Cond.initialized "java/lang/Math" ∈ gw ∧ Cond.code (px_mth k) (px_mtc k) (bif Nat.beq k 8 then 1 else 2) (some .int) ∈ gw := by
  rcases h with ⟨h, -⟩ | ⟨h, -⟩ | ⟨h, -⟩ | ⟨-, h⟩ | ⟨_, _, _, ⟨h, -⟩ | ⟨h, -⟩ | ⟨h, -⟩ | ⟨h, -⟩⟩ <;> first | exact h | omega
theorem px_ab_eq (x : Int32) : (if 0 ≤ x then x else 0 - x).toInt = px_ab x.toInt := by
  unfold px_ab
  by_cases h : 0 ≤ x
  · have h' : (0 : Int) ≤ x.toInt := Int32.le_iff_toInt_le.mp h
    rw [if_pos h, if_pos h']
  · have h' : ¬ (0 : Int) ≤ x.toInt := fun q => h (Int32.le_iff_toInt_le.mpr q)
    rw [if_neg h, if_neg h', px_w_sub]
    rfl
theorem px_mx_eq (x y : Int32) : (if x < y then y else x).toInt = px_mx x.toInt y.toInt := by
  unfold px_mx
  by_cases h : x < y
  · rw [if_pos h, if_pos (Int32.lt_iff_toInt_lt.mp h)]
  · rw [if_neg h, if_neg (fun q => h (Int32.lt_iff_toInt_lt.mpr q))]
theorem px_mn_eq (x y : Int32) : (if y < x then y else x).toInt = px_mn x.toInt y.toInt := by
  unfold px_mn
  by_cases h : y < x
  · rw [if_pos h, if_pos (Int32.lt_iff_toInt_lt.mp h)]
  · rw [if_neg h, if_neg (fun q => h (Int32.lt_iff_toInt_lt.mpr q))]
def px_kin (i : Instr) (idx : Nat) (kinds : List Nat) : Prop := (i = .invokestatic idx ∧ kinds = [0]) ∨ (i = .invokevirtual idx ∧ kinds = [1]) ∨ (i = .invokespecial idx ∧ kinds = [3, 4, 5])
theorem px_kin_0 {i : Instr} {idx : Nat} {kinds : List Nat} (hi : px_kin i idx kinds) (h : px_mem kinds 0 = true) : i = .invokestatic idx := by
  rcases hi with ⟨h1, rfl⟩ | ⟨-, rfl⟩ | ⟨-, rfl⟩
  · exact h1
  · cases h
  · cases h
theorem px_kin_1 {i : Instr} {idx : Nat} {kinds : List Nat} (hi : px_kin i idx kinds) (h : px_mem kinds 1 = true) : i = .invokevirtual idx := by
  rcases hi with ⟨-, rfl⟩ | ⟨h1, rfl⟩ | ⟨-, rfl⟩
  · cases h
  · exact h1
  · cases h
theorem px_kin_3 {i : Instr} {idx k : Nat} {kinds : List Nat} (hi : px_kin i idx kinds) (hk : 3 ≤ k) (h : px_mem kinds k = true) : i = .invokespecial idx := by
  rcases hi with ⟨-, rfl⟩ | ⟨-, rfl⟩ | ⟨h1, rfl⟩
  · unfold px_mem at h
    cases e : Nat.beq 0 k <;> rw [e] at h
    · cases h
    · have := Nat.eq_of_beq_eq_true e
      omega
  · unfold px_mem at h
    cases e : Nat.beq 1 k <;> rw [e] at h
    · cases h
    · have := Nat.eq_of_beq_eq_true e
      omega
  · exact h1
section SP
variable {E : se} {p : Program} {l : Launch} {e : Env} {R : Room} {s : State} {m : MethodId} {args : Array Value} {below : List Frame} {meth : Method} {c : Code} {Q : State → Prop} {n0 z0 : Nat} {ad0 : List Nat} {b : ByteArray} {M : pm} {pc pc' n : Nat} {ls st ls' st' : List pv} {w w' : pw} {g : Bool}
theorem sp_jdk {idx : Nat} {kinds : List Nat} {i : Instr} (hi : px_kin i idx kinds) (C : sr_C E p R s m args meth c b M) (hd : decode b pc = .ok (i, 3)) (ha : px_inv M idx kinds (pc + 3) ls st w = some (.inl (g, pc', ls', st', w'))) (hg : g = true) (hcR : w.1.length ≤ n0 + R.cells) (hsR : px_sz w.1 ≤ z0 + R.slots) (k : sg_G E p l e R s m args below meth c Q (px_max M) n0 z0 ad0 pc' ls' st' w') : sg_G E p l e R s m args below meth c Q (px_max M) n0 z0 ad0 pc ls st w := by
  obtain ⟨hx, hb, hml, hown, hts, hini, hdec, hlok, hfr, hlo, hbase, hE, hL, ho⟩ := C
  cases e1 : px_find (px_cal (px_own M)) idx with
  | none => unfold px_inv at ha; rw [e1] at ha; cases ha
  | some q =>
    obtain ⟨kd, t⟩ := q
    have hsite := px_sites (px_own M) _ (px_fmem e1)
    dsimp only at hsite
    unfold px_inv at ha
    rw [e1] at ha
    split at ha
    · -- Object.<init>
      rename_i q' t' heq
      cases heq
      obtain ⟨h0, ha⟩ := px_bif ha
      obtain ⟨x, st, rfl, ha2⟩ := px_r1_s ha
      have ha := ha2
      obtain ⟨h1, ha⟩ := px_bif ha
      obtain ⟨rfl, rfl, rfl, rfl, rfl⟩ := px_gd_s ha
      rw [Bool.and_eq_true] at h1
      have h2 := Nat.le_of_ble_eq_true h1.1
      have h3 := Nat.le_of_ble_eq_true h1.2
      have hi' := px_kin_3 hi (by decide) h0
      subst hi'
      have hl := px_site_5 hsite
      rw [so_name] at hl
      have hg : ¬ x = 0 := by simpa using hg
      intro la sa H locs cells slots ws hR
      obtain ⟨g1, g2, g3⟩ := hR
      obtain ⟨v, sa, rfl, hv, g2a⟩ := sr_st1 g2
      obtain ⟨o, rfl, ho1⟩ := (hv : ∃ o, v = va_rf o ∧ sr_o (sr_ad ws) x o)
      have hsum := px_stcat g2a
      rcases ho1 with ⟨h, -⟩ | ⟨k1, a, -, -, rfl⟩
      · exact absurd h hg
      · refine W.objInit hx hb hown (hts _ hl) (hts _ so_inst) (hts _ so_code) rfl (by obtain ⟨-, lv, h4, -⟩ := g1; rw [hml]; exact h4.1) rfl hd (by omega) ?_ ?_
        · show 2 * 0 + (sa.map fun v => v.category).sum + 12 ≤ R.locals
          omega
        · exact k la sa H locs cells slots ws ⟨g1, g2a, g3⟩
    · -- String.length
      rename_i q' t' heq
      cases heq
      obtain ⟨h0, ha⟩ := px_bif ha
      rw [Bool.and_eq_true, Bool.and_eq_true] at h0
      obtain ⟨h0, h1, h2⟩ := h0
      have h1 : 2 ≤ px_dep M := Nat.le_of_ble_eq_true h1
      have h2 := Nat.le_of_ble_eq_true h2
      have hi' := px_kin_1 hi h0
      subst hi'
      split at ha
      · rename_i x st0 h00
        obtain ⟨h3, ha⟩ := px_bif ha
        have h3 := Nat.le_of_ble_eq_true h3
        obtain ⟨-, rfl, rfl, rfl, rfl⟩ := px_nx_s ha
        intro la sa H locs cells slots ws hR
        obtain ⟨g1, g2, gw1, gP, gD, gS, g3⟩ := hR
        obtain ⟨v, sa, rfl, hv, g2a⟩ := sr_st1 g2
        obtain ⟨z, hz, hz2, rfl⟩ := (hv : ∃ z : Nat, z < 10 ∧ x = (z : Int) ∧ v = .ref (se_K E z))
        have hxz : x.toNat = z := by omega
        rw [hxz] at k
        have hsum := px_stcat g2a
        have g1' := g1
        obtain ⟨-, lv, h4, -⟩ := g1
        refine sq_call (v := some (.int (Int32.ofNat (px_str z).length))) (rest := sa) (W.runV (As := []) (n := 0) (own := px_nm (px_own M)) (C := "java/lang/String") (index := idx) (b := se_K E z) ⟨hx, hb, hml, hown, hts⟩ (sq_sln l E z hz) (cwV 0 hts (gw_V (px_site_6 hsite) sn_sln ss_sln si_sln sc_sln) rfl rfl rfl (by decide +kernel) ⟨by show 1 + 1 ≤ _; omega, by show 8 + (1 + 11) + 20 ≤ _; omega⟩) ⟨sq_blind E _, vk_recv hE.2.2.2.2.2.1 hz gS, fun U hU hW => (sq_pre hE gS).2 U hU hW⟩ rfl rfl h4.1 rfl (lv_room (by omega)) hd ⟨by omega, by omega⟩) ?_
        exact k la _ H locs cells slots ws ⟨g1', sr_mki (nI_toInt (by have := (sq_tx z hz).2.1; omega)) g2a, gw1, gP, gD, gS, g3⟩
      · cases ha
    · -- String.charAt
      rename_i q' t' heq
      cases heq
      obtain ⟨h0, ha⟩ := px_bif ha
      rw [Bool.and_eq_true, Bool.and_eq_true] at h0
      obtain ⟨h0, h1, h2⟩ := h0
      have h1 : 5 ≤ px_dep M := Nat.le_of_ble_eq_true h1
      have h2 := Nat.le_of_ble_eq_true h2
      have hi' := px_kin_1 hi h0
      subst hi'
      split at ha
      · rename_i j x st0 h00
        obtain ⟨h3, ha⟩ := px_bif ha
        have h3 := Nat.le_of_ble_eq_true h3
        obtain ⟨rfl, rfl, rfl, rfl, rfl⟩ := px_gd_s ha
        obtain ⟨hj0, hj1⟩ := px_gl_spec hg
        intro la sa H locs cells slots ws hR
        obtain ⟨g1, g2, gw1, gP, gD, gS, g3⟩ := hR
        obtain ⟨j', sa, rfl, hj', g2a⟩ := sr_sti g2
        obtain ⟨v, sa, rfl, hv, g2b⟩ := sr_st1 g2a
        obtain ⟨z, hz, hz2, rfl⟩ := (hv : ∃ z : Nat, z < 10 ∧ x = (z : Int) ∧ v = .ref (se_K E z))
        have hxz : x.toNat = z := by omega
        rw [hxz] at k hj1
        have hlen := (sq_tx z hz).2.1
        have hjj : j' = Int32.ofNat j.toNat := Int32.toInt_inj.mp (by rw [hj']; exact ((nI_toInt (n := j.toNat) (by omega)).trans (by omega)).symm)
        subst hjj
        have hsum := px_stcat g2b
        have g1' := g1
        obtain ⟨-, lv, h4, -⟩ := g1
        refine sq_call (v := some (.int (Int32.ofInt (px_lst (px_str z) j.toNat)))) (rest := sa) (W.runV (As := [.int (Int32.ofNat j.toNat)]) (n := 1) (own := px_nm (px_own M)) (C := "java/lang/String") (index := idx) (b := se_K E z) ⟨hx, hb, hml, hown, hts⟩ (sq_sch l E z hz j.toNat (by omega)) (cwV 1 hts (gw_V (px_site_7 hsite) sn_sch ss_sch si_sch sc_sch) rfl rfl rfl (by decide +kernel) ⟨by show 3 + 1 ≤ _; omega, by show 8 + (2 + 11) + 64 ≤ _; omega⟩) ⟨sq_blind E _, vk_recv hE.2.2.2.2.2.1 hz gS, fun U hU hW => (sq_pre hE gS).2 U hU hW⟩ rfl rfl h4.1 rfl (lv_room (by omega)) hd ⟨by omega, by omega⟩) ?_
        exact k la _ H locs cells slots ws ⟨g1', sr_mki ((sq_tx z hz).2.2 _ (by omega)).2.1 g2b, gw1, gP, gD, gS, g3⟩
      · cases ha
    · -- Math.abs
      rename_i q' t' heq
      cases heq
      obtain ⟨h0, ha⟩ := px_bif ha
      rw [Bool.and_eq_true, Bool.and_eq_true] at h0
      obtain ⟨h0, h1, h2⟩ := h0
      have h1 := Nat.le_of_ble_eq_true h1
      have h2 := Nat.le_of_ble_eq_true h2
      have hi' := px_kin_0 hi h0
      subst hi'
      obtain ⟨x, st, rfl, ha2⟩ := px_i1_s ha
      have ha := ha2
      obtain ⟨h3, ha⟩ := px_bif ha
      have h3 := Nat.le_of_ble_eq_true h3
      obtain ⟨-, rfl, rfl, rfl, rfl⟩ := px_nx_s ha
      obtain ⟨m1, m2, m3, m4⟩ := px_site_m (by decide) hsite
      intro la sa H locs cells slots ws hR
      obtain ⟨g1, g2, gw1, gP, gD, gS, gn, gz, g3⟩ := hR
      obtain ⟨x', sa, rfl, hx', g2a⟩ := sr_sti g2
      have hsum := px_stcat g2a
      have g1' := g1
      obtain ⟨-, lv, h4, -⟩ := g1
      exact va_mabs hx hb (hml.trans h4.1.symm) hown (hts _ m1) (hts _ m2) (hts _ m3) (hts _ m4) (by omega) (by omega) (by omega) (by omega) hd (k la _ H locs cells slots ws ⟨g1', sr_mki (by rw [px_ab_eq, hx']) g2a, gw1, gP, gD, gS, gn, gz, g3⟩)
    · -- Math.max
      rename_i q' t' heq
      cases heq
      obtain ⟨h0, ha⟩ := px_bif ha
      rw [Bool.and_eq_true, Bool.and_eq_true] at h0
      obtain ⟨h0, h1, h2⟩ := h0
      have h1 := Nat.le_of_ble_eq_true h1
      have h2 := Nat.le_of_ble_eq_true h2
      have hi' := px_kin_0 hi h0
      subst hi'
      obtain ⟨x, y, st, rfl, ha2⟩ := px_i2_s ha
      have ha := ha2
      obtain ⟨h3, ha⟩ := px_bif ha
      have h3 := Nat.le_of_ble_eq_true h3
      obtain ⟨-, rfl, rfl, rfl, rfl⟩ := px_nx_s ha
      obtain ⟨m1, m2, m3, m4⟩ := px_site_m (by decide) hsite
      intro la sa H locs cells slots ws hR
      obtain ⟨g1, g2, gw1, gP, gD, gS, gn, gz, g3⟩ := hR
      obtain ⟨y', sa, rfl, hy', g2a⟩ := sr_sti g2
      obtain ⟨x', sa, rfl, hx', g2b⟩ := sr_sti g2a
      have hsum := px_stcat g2b
      have g1' := g1
      obtain ⟨-, lv, h4, -⟩ := g1
      exact va_mmax hx hb (hml.trans h4.1.symm) hown (hts _ m1) (hts _ m2) (hts _ m3) (hts _ m4) (by omega) (by omega) (by omega) (by omega) hd (k la _ H locs cells slots ws ⟨g1', sr_mki (by rw [px_mx_eq, hx', hy']) g2b, gw1, gP, gD, gS, gn, gz, g3⟩)
    · -- Math.min
      rename_i q' t' heq
      cases heq
      obtain ⟨h0, ha⟩ := px_bif ha
      rw [Bool.and_eq_true, Bool.and_eq_true] at h0
      obtain ⟨h0, h1, h2⟩ := h0
      have h1 := Nat.le_of_ble_eq_true h1
      have h2 := Nat.le_of_ble_eq_true h2
      have hi' := px_kin_0 hi h0
      subst hi'
      obtain ⟨x, y, st, rfl, ha2⟩ := px_i2_s ha
      have ha := ha2
      obtain ⟨h3, ha⟩ := px_bif ha
      have h3 := Nat.le_of_ble_eq_true h3
      obtain ⟨-, rfl, rfl, rfl, rfl⟩ := px_nx_s ha
      obtain ⟨m1, m2, m3, m4⟩ := px_site_m (by decide) hsite
      intro la sa H locs cells slots ws hR
      obtain ⟨g1, g2, gw1, gP, gD, gS, gn, gz, g3⟩ := hR
      obtain ⟨y', sa, rfl, hy', g2a⟩ := sr_sti g2
      obtain ⟨x', sa, rfl, hx', g2b⟩ := sr_sti g2a
      have hsum := px_stcat g2b
      have g1' := g1
      obtain ⟨-, lv, h4, -⟩ := g1
      exact va_mmin hx hb (hml.trans h4.1.symm) hown (hts _ m1) (hts _ m2) (hts _ m3) (hts _ m4) (by omega) (by omega) (by omega) (by omega) hd (k la _ H locs cells slots ws ⟨g1', sr_mki (by rw [px_mn_eq, hx', hy']) g2b, gw1, gP, gD, gS, gn, gz, g3⟩)
    · -- a call of ours is none of these
      obtain ⟨-, ha⟩ := px_bif ha
      split at ha
      · obtain ⟨-, ha⟩ := px_bif ha
        cases ha
      · cases ha
    · cases ha
end SP
