/-! Tokens of the tape: the reference's scan. -/
theorem wv_stepM {v c : Int} (h : 0 ≤ v ∧ v < 1099511627776) (hc : 97 ≤ c ∧ c ≤ 122) : px_wl (px_wl (px_wl (px_wl (32 * v) + c) - 97) + 1) = v * 32 + (c - 97 + 1) := by
  have u1 : -9223372036854775808 ≤ 32 * v ∧ 32 * v < 9223372036854775808 := by omega
  have u2 : -9223372036854775808 ≤ 32 * v + c ∧ 32 * v + c < 9223372036854775808 := by omega
  have u3 : -9223372036854775808 ≤ 32 * v + c - 97 ∧ 32 * v + c - 97 < 9223372036854775808 := by omega
  have u4 : -9223372036854775808 ≤ 32 * v + c - 97 + 1 ∧ 32 * v + c - 97 + 1 < 9223372036854775808 := by omega
  have e : 32 * v + c - 97 + 1 = v * 32 + (c - 97 + 1) := by omega
  rw [px_wl_n u1, px_wl_n u2, px_wl_n u3, px_wl_n u4, e]
theorem nv_stepM {v c : Int} (h : 0 ≤ v ∧ v < 100000) (hc : 48 ≤ c ∧ c ≤ 57) : px_w (px_w (px_w (10 * v) + c) - 48) = v * 10 + (c - 48) := by
  have u1 : -2147483648 ≤ 10 * v ∧ 10 * v < 2147483648 := by omega
  have u2 : -2147483648 ≤ 10 * v + c ∧ 10 * v + c < 2147483648 := by omega
  have u3 : -2147483648 ≤ 10 * v + c - 48 ∧ 10 * v + c - 48 < 2147483648 := by omega
  have e : 10 * v + c - 48 = v * 10 + (c - 48) := by omega
  rw [px_w_n u1, px_w_n u2, px_w_n u3, e]
theorem skip_M {T : Nat → Int} {N : Nat} {h : hp} (C : TM T N h) (k : Nat) : ∀ i : Nat, i + k = N → ∃ s : Nat, rn (chB T) N i s ∧ px_R (mm_Mod_scan, 5, [(2, 123), (0, (i : Int)), (9, 0), (9, 0)], [], (K0, h)) = px_R (mm_Mod_scan, 5, [(2, 123), (0, (s : Int)), (9, 0), (9, 0)], [], (K0, h)) := by
  induction k with
  | zero =>
    intro i hi
    have : i = N := hi
    subst this
    exact ⟨i, ⟨Nat.le_refl _, Nat.le_refl _, fun j h1 h2 => by omega, Or.inl rfl⟩, rfl⟩
  | succ k ih =>
    intro i hi
    have N9 := C.2.2.1
    cases c : chB T i
    · exact ⟨i, ⟨Nat.le_refl _, by omega, fun j h1 h2 => by omega, Or.inr c⟩, rfl⟩
    · obtain ⟨s, ⟨q1, q2, q3, q4⟩, r2⟩ := ih (i + 1) (by omega)
      refine ⟨s, ⟨by omega, q2, fun j h1 h2 => ?_, q4⟩, ?_⟩
      · by_cases e : j = i
        · rw [e]; exact c
        · exact q3 j (by omega) h2
      · have b := R_byteAt C i
        have cb := (cb_B (T := T) (N := N) (x := i) (C.2.2.2.2 i)).mpr ⟨by omega, c⟩
        rw [eq_Mod_scan_5]
        by_cases c32 : cbv T N i = 32
        · have e1 := eq_true c32
          simp only [px_rd_mk, px_wr_mk, Int.reduceToNat, Int.toNat_natCast, if_true, if_false, Option.bind_some, px_up_cell, px_up_slot, px_up_eq, ne_eq, Nat.reduceEqDiff, not_false_eq_true, Int.reduceEq, Int.reduceLT, Int.reduceLE, Int.reduceNeg, decide_true, decide_false, Bool.and_true, Bool.true_and, Bool.and_false, Bool.false_and, and_self, and_true, true_and, and_false, false_and, bi_T, bi_F, not_true_eq_false, Bool.false_eq_true, kg_123, b, e1, px_w_s (show i < 1000000 by omega)]
          exact r2
        · have e1 := eq_false c32
          have e2 := eq_true (cb.resolve_left c32)
          simp only [px_rd_mk, px_wr_mk, Int.reduceToNat, Int.toNat_natCast, if_true, if_false, Option.bind_some, px_up_cell, px_up_slot, px_up_eq, ne_eq, Nat.reduceEqDiff, not_false_eq_true, Int.reduceEq, Int.reduceLT, Int.reduceLE, Int.reduceNeg, decide_true, decide_false, Bool.and_true, Bool.true_and, Bool.and_false, Bool.false_and, and_self, and_true, true_and, and_false, false_and, bi_T, bi_F, not_true_eq_false, Bool.false_eq_true, kg_123, b, e1, e2, px_w_s (show i < 1000000 by omega)]
          exact r2
theorem word_M {T : Nat → Int} {N s : Nat} (x2 : Int) (k : Nat) : ∀ (i : Nat) (h : hp), i + k = N → s ≤ i → TM T N h → (∀ j, s ≤ j → j < i → chA T j = true) → (i - s ≤ 8 → h 123 10 = wvl T s (i - s)) → ∃ (e : Nat) (g : hp), i ≤ e ∧ e ≤ N ∧ (∀ j, s ≤ j → j < e → chA T j = true) ∧ (e = N ∨ chA T e = false) ∧ px_R (mm_Mod_scan, 80, [(2, 123), (0, (s : Int)), (0, x2), (0, (i : Int))], [], (K0, h)) = some (0, (K0, g)) ∧ Fr [] [(123, 3), (123, 4), (123, 6), (123, 10)] h g ∧ g 123 6 = (e : Int) ∧ g 123 3 = ((if 8 < e - s then 0 else 1 : Nat) : Int) ∧ g 123 4 = (if 8 < e - s then h 123 4 else kyV T s (e - s) 0 9) ∧ (e - s ≤ 8 → g 123 10 = wvl T s (e - s)) := by
  have stop : ∀ (i : Nat) (h : hp), s ≤ i → i ≤ N → (i = N ∨ chA T i = false) → TM T N h → (∀ j, s ≤ j → j < i → chA T j = true) → (i - s ≤ 8 → h 123 10 = wvl T s (i - s)) → ∃ (e : Nat) (g : hp), i ≤ e ∧ e ≤ N ∧ (∀ j, s ≤ j → j < e → chA T j = true) ∧ (e = N ∨ chA T e = false) ∧ px_R (mm_Mod_scan, 80, [(2, 123), (0, (s : Int)), (0, x2), (0, (i : Int))], [], (K0, h)) = some (0, (K0, g)) ∧ Fr [] [(123, 3), (123, 4), (123, 6), (123, 10)] h g ∧ g 123 6 = (e : Int) ∧ g 123 3 = ((if 8 < e - s then 0 else 1 : Nat) : Int) ∧ g 123 4 = (if 8 < e - s then h 123 4 else kyV T s (e - s) 0 9) ∧ (e - s ≤ 8 → g 123 10 = wvl T s (e - s)) := by
    intro i h hs hi hend C A V
    have N9 := C.2.2.1
    have b := R_byteAt C i
    have sm : ¬ (97 ≤ cbv T N i ∧ cbv T N i ≤ 122) := fun z => by
      have := (cb_A (C.2.2.2.2 i)).mp z
      rcases hend with q | q
      · omega
      · rw [this.2] at q; cases q
    have u : -2147483648 ≤ (i : Int) - (s : Int) ∧ (i : Int) - (s : Int) < 2147483648 := by omega
    by_cases c : 8 < i - s
    · have c2 : (8 < (i : Int) - (s : Int)) = True := eq_true (by omega)
      refine ⟨i, px_up (px_up h 123 3 0) 123 6 (i : Int), Nat.le_refl _, hi, A, hend, ?_, Fr_up (Fr_up (Fr_rf _ _ _) _ rfl) _ rfl, px_up_eq _ _ _ _, ?_, ?_, ?_⟩
      · rw [eq_Mod_scan_80]
        simp only [px_rd_mk, px_wr_mk, Int.reduceToNat, Int.toNat_natCast, if_true, if_false, Option.bind_some, px_up_cell, px_up_slot, px_up_eq, ne_eq, Nat.reduceEqDiff, not_false_eq_true, Int.reduceEq, Int.reduceLT, Int.reduceLE, Int.reduceNeg, decide_true, decide_false, Bool.and_true, Bool.true_and, Bool.and_false, Bool.false_and, and_self, and_true, true_and, and_false, false_and, bi_T, bi_F, not_true_eq_false, Bool.false_eq_true, kg_123, b, R_isSmall, bi_f sm, px_w_n u, c2]
        rw [eq_Mod_scan_144]
        simp only [px_rd_mk, px_wr_mk, Int.reduceToNat, Int.toNat_natCast, if_true, if_false, Option.bind_some, px_up_cell, px_up_slot, px_up_eq, ne_eq, Nat.reduceEqDiff, not_false_eq_true, Int.reduceEq, Int.reduceLT, Int.reduceLE, Int.reduceNeg, decide_true, decide_false, Bool.and_true, Bool.true_and, Bool.and_false, Bool.false_and, and_self, and_true, true_and, and_false, false_and, bi_T, bi_F, not_true_eq_false, Bool.false_eq_true, kg_123]
        rw [eq_Mod_scan_270]
        simp only [px_rd_mk, px_wr_mk, Int.reduceToNat, Int.toNat_natCast, if_true, if_false, Option.bind_some, px_up_cell, px_up_slot, px_up_eq, ne_eq, Nat.reduceEqDiff, not_false_eq_true, Int.reduceEq, Int.reduceLT, Int.reduceLE, Int.reduceNeg, decide_true, decide_false, Bool.and_true, Bool.true_and, Bool.and_false, Bool.false_and, and_self, and_true, true_and, and_false, false_and, bi_T, bi_F, not_true_eq_false, Bool.false_eq_true, kg_123]
      · rw [if_pos c]
        simp only [px_up_cell, px_up_slot, px_up_eq, ne_eq, Nat.reduceEqDiff, not_false_eq_true]
        rfl
      · rw [if_pos c]
        simp only [px_up_cell, px_up_slot, px_up_eq, ne_eq, Nat.reduceEqDiff, not_false_eq_true]
      · simp only [px_up_cell, px_up_slot, px_up_eq, ne_eq, Nat.reduceEqDiff, not_false_eq_true]
        exact V
    · have c2 : (8 < (i : Int) - (s : Int)) = False := eq_false (by omega)
      have F1 : Fr [] [(123, 3), (123, 4), (123, 6), (123, 10)] h (px_up h 123 3 1) := Fr_up (Fr_rf _ _ _) _ rfl
      have ka := R_keyAt (TM_F C F1 rfl (fun I => IR_Fr I F1 (by decide))) (s := s) (l := i - s) (by omega) (fun j hj => by
        have := chA_iff.mp (A (s + j) (by omega) (by omega))
        omega)
      have es : (i : Int) - (s : Int) = ((i - s : Nat) : Int) := by omega
      refine ⟨i, px_up (px_up (px_up h 123 3 1) 123 4 (kyV T s (i - s) 0 9)) 123 6 (i : Int), Nat.le_refl _, hi, A, hend, ?_, Fr_up (Fr_up F1 _ rfl) _ rfl, px_up_eq _ _ _ _, ?_, ?_, ?_⟩
      · rw [eq_Mod_scan_80]
        simp only [px_rd_mk, px_wr_mk, Int.reduceToNat, Int.toNat_natCast, if_true, if_false, Option.bind_some, px_up_cell, px_up_slot, px_up_eq, ne_eq, Nat.reduceEqDiff, not_false_eq_true, Int.reduceEq, Int.reduceLT, Int.reduceLE, Int.reduceNeg, decide_true, decide_false, Bool.and_true, Bool.true_and, Bool.and_false, Bool.false_and, and_self, and_true, true_and, and_false, false_and, bi_T, bi_F, not_true_eq_false, Bool.false_eq_true, kg_123, b, R_isSmall, bi_f sm, px_w_n u, c2]
        rw [eq_Mod_scan_144]
        simp only [px_rd_mk, px_wr_mk, Int.reduceToNat, Int.toNat_natCast, if_true, if_false, Option.bind_some, px_up_cell, px_up_slot, px_up_eq, ne_eq, Nat.reduceEqDiff, not_false_eq_true, Int.reduceEq, Int.reduceLT, Int.reduceLE, Int.reduceNeg, decide_true, decide_false, Bool.and_true, Bool.true_and, Bool.and_false, Bool.false_and, and_self, and_true, true_and, and_false, false_and, bi_T, bi_F, not_true_eq_false, Bool.false_eq_true, kg_123, (px_w_n u).trans es, ka]
        rw [eq_Mod_scan_270]
        simp only [px_rd_mk, px_wr_mk, Int.reduceToNat, Int.toNat_natCast, if_true, if_false, Option.bind_some, px_up_cell, px_up_slot, px_up_eq, ne_eq, Nat.reduceEqDiff, not_false_eq_true, Int.reduceEq, Int.reduceLT, Int.reduceLE, Int.reduceNeg, decide_true, decide_false, Bool.and_true, Bool.true_and, Bool.and_false, Bool.false_and, and_self, and_true, true_and, and_false, false_and, bi_T, bi_F, not_true_eq_false, Bool.false_eq_true, kg_123]
      · rw [if_neg c]
        simp only [px_up_cell, px_up_slot, px_up_eq, ne_eq, Nat.reduceEqDiff, not_false_eq_true]
        rfl
      · rw [if_neg c]
        simp only [px_up_cell, px_up_slot, px_up_eq, ne_eq, Nat.reduceEqDiff, not_false_eq_true]
      · simp only [px_up_cell, px_up_slot, px_up_eq, ne_eq, Nat.reduceEqDiff, not_false_eq_true]
        exact V
  induction k with
  | zero =>
    intro i h hi hs C A V
    exact stop i h hs (by omega) (Or.inl hi) C A V
  | succ k ih =>
    intro i h hi hs C A V
    cases c : chA T i
    · exact stop i h hs (by omega) (Or.inr c) C A V
    · have N9 := C.2.2.1
      have hI := C.1
      have b := R_byteAt C i
      have ci := chA_iff.mp c
      rw [cb_v (by omega) (by omega)] at b
      have u : -2147483648 ≤ (i : Int) - (s : Int) ∧ (i : Int) - (s : Int) < 2147483648 := by omega
      have A1 : ∀ j, s ≤ j → j < i + 1 → chA T j = true := fun j h1 h2 => by
        by_cases e : j = i
        · rw [e]; exact c
        · exact A j h1 (by omega)
      by_cases c8 : i - s < 8
      · have c2 : ((i : Int) - (s : Int) < 8) = True := eq_true (by omega)
        have rg := wvl_rng (T := T) (s := s) (i - s) (fun j h1 h2 => A j h1 (by omega))
        have p : 32 ^ (i - s) ≤ 32 ^ 7 := Nat.pow_le_pow_right (by decide) (by omega)
        have rg2 : 0 ≤ wvl T s (i - s) ∧ wvl T s (i - s) < 1099511627776 := ⟨rg.1, by omega⟩
        have es : i + 1 - s = (i - s) + 1 := by omega
        have es2 : s + (i - s) = i := by omega
        have F1 : Fr [] [(123, 3), (123, 4), (123, 6), (123, 10)] h (px_up h 123 10 (wvl T s (i + 1 - s))) := Fr_up (Fr_rf _ _ _) _ rfl
        obtain ⟨e, g, r1, r2, r3, r4, r5, r6, r7, r8, r9, r10⟩ := ih (i + 1) _ (by omega) (by omega) (TM_F C F1 rfl (fun I => IR_Fr I F1 (by decide))) A1 (fun _ => px_up_eq _ _ _ _)
        refine ⟨e, g, by omega, r2, r3, r4, ?_, Fr_tr2 F1 r6, r7, r8, r9, r10⟩
        have vs := wv_stepM rg2 ci
        rw [← V (by omega)] at vs
        have vs2 : px_wl (px_wl (px_wl (px_wl (32 * h 123 10) + T i) - 97) + 1) = wvl T s (i + 1 - s) := by
          rw [vs, es, wvl, es2, V (Nat.le_of_lt c8)]
        rw [eq_Mod_scan_80]
        simp only [px_rd_mk, px_wr_mk, Int.reduceToNat, Int.toNat_natCast, if_true, if_false, Option.bind_some, px_up_cell, px_up_slot, px_up_eq, ne_eq, Nat.reduceEqDiff, not_false_eq_true, Int.reduceEq, Int.reduceLT, Int.reduceLE, Int.reduceNeg, decide_true, decide_false, Bool.and_true, Bool.true_and, Bool.and_false, Bool.false_and, and_self, and_true, true_and, and_false, false_and, bi_T, bi_F, not_true_eq_false, Bool.false_eq_true, kg_123, b, R_isSmall, bi_t ci, px_w_n u, c2, vs2, px_w_s (show i < 1000000 by omega)]
        exact r5
      · have c2 : ((i : Int) - (s : Int) < 8) = False := eq_false (by omega)
        obtain ⟨e, g, r1, r2, r3, r4, r5, r6, r7, r8, r9, r10⟩ := ih (i + 1) h (by omega) (by omega) C A1 (fun z => absurd z (by omega))
        refine ⟨e, g, by omega, r2, r3, r4, ?_, r6, r7, r8, r9, r10⟩
        rw [eq_Mod_scan_80]
        simp only [px_rd_mk, px_wr_mk, Int.reduceToNat, Int.toNat_natCast, if_true, if_false, Option.bind_some, px_up_cell, px_up_slot, px_up_eq, ne_eq, Nat.reduceEqDiff, not_false_eq_true, Int.reduceEq, Int.reduceLT, Int.reduceLE, Int.reduceNeg, decide_true, decide_false, Bool.and_true, Bool.true_and, Bool.and_false, Bool.false_and, and_self, and_true, true_and, and_false, false_and, bi_T, bi_F, not_true_eq_false, Bool.false_eq_true, kg_123, b, R_isSmall, bi_t ci, px_w_n u, c2, px_w_s (show i < 1000000 by omega)]
        exact r5
theorem num_M {T : Nat → Int} {N s : Nat} (x2 : Int) (k : Nat) : ∀ (i : Nat) (h : hp), i + k = N → s < i → TM T N h → (∀ j, s ≤ j → j < i → chD T j = true) → (i - s ≤ 4 → h 123 7 = nvl T s (i - s)) → ∃ (e : Nat) (g : hp), i ≤ e ∧ e ≤ N ∧ (∀ j, s ≤ j → j < e → chD T j = true) ∧ (e = N ∨ chD T e = false) ∧ px_R (mm_Mod_scan, 185, [(2, 123), (0, (s : Int)), (0, x2), (0, (i : Int))], [], (K0, h)) = some (0, (K0, g)) ∧ Fr [] [(123, 3), (123, 6), (123, 7)] h g ∧ g 123 6 = (e : Int) ∧ g 123 3 = ((if 4 < e - s then 0 else 2 : Nat) : Int) ∧ (e - s ≤ 4 → g 123 7 = nvl T s (e - s)) := by
  have stop : ∀ (i : Nat) (h : hp), s < i → i ≤ N → (i = N ∨ chD T i = false) → TM T N h → (∀ j, s ≤ j → j < i → chD T j = true) → (i - s ≤ 4 → h 123 7 = nvl T s (i - s)) → ∃ (e : Nat) (g : hp), i ≤ e ∧ e ≤ N ∧ (∀ j, s ≤ j → j < e → chD T j = true) ∧ (e = N ∨ chD T e = false) ∧ px_R (mm_Mod_scan, 185, [(2, 123), (0, (s : Int)), (0, x2), (0, (i : Int))], [], (K0, h)) = some (0, (K0, g)) ∧ Fr [] [(123, 3), (123, 6), (123, 7)] h g ∧ g 123 6 = (e : Int) ∧ g 123 3 = ((if 4 < e - s then 0 else 2 : Nat) : Int) ∧ (e - s ≤ 4 → g 123 7 = nvl T s (e - s)) := by
    intro i h hs hi hend C A V
    have N9 := C.2.2.1
    have b := R_byteAt C i
    have sm : ¬ (48 ≤ cbv T N i ∧ cbv T N i ≤ 57) := fun z => by
      have := (cb_D (C.2.2.2.2 i)).mp z
      rcases hend with q | q
      · omega
      · rw [this.2] at q; cases q
    have u : -2147483648 ≤ (i : Int) - (s : Int) ∧ (i : Int) - (s : Int) < 2147483648 := by omega
    by_cases c : 4 < i - s
    · have c2 : (4 < (i : Int) - (s : Int)) = True := eq_true (by omega)
      refine ⟨i, px_up (px_up h 123 3 0) 123 6 (i : Int), Nat.le_refl _, hi, A, hend, ?_, Fr_up (Fr_up (Fr_rf _ _ _) _ rfl) _ rfl, px_up_eq _ _ _ _, ?_, ?_⟩
      · rw [eq_Mod_scan_185]
        simp only [px_rd_mk, px_wr_mk, Int.reduceToNat, Int.toNat_natCast, if_true, if_false, Option.bind_some, px_up_cell, px_up_slot, px_up_eq, ne_eq, Nat.reduceEqDiff, not_false_eq_true, Int.reduceEq, Int.reduceLT, Int.reduceLE, Int.reduceNeg, decide_true, decide_false, Bool.and_true, Bool.true_and, Bool.and_false, Bool.false_and, and_self, and_true, true_and, and_false, false_and, bi_T, bi_F, not_true_eq_false, Bool.false_eq_true, kg_123, b, R_isDigitM, bi_f sm, px_w_n u, c2]
        rw [eq_Mod_scan_270]
        simp only [px_rd_mk, px_wr_mk, Int.reduceToNat, Int.toNat_natCast, if_true, if_false, Option.bind_some, px_up_cell, px_up_slot, px_up_eq, ne_eq, Nat.reduceEqDiff, not_false_eq_true, Int.reduceEq, Int.reduceLT, Int.reduceLE, Int.reduceNeg, decide_true, decide_false, Bool.and_true, Bool.true_and, Bool.and_false, Bool.false_and, and_self, and_true, true_and, and_false, false_and, bi_T, bi_F, not_true_eq_false, Bool.false_eq_true, kg_123]
      · rw [if_pos c]
        simp only [px_up_cell, px_up_slot, px_up_eq, ne_eq, Nat.reduceEqDiff, not_false_eq_true]
        rfl
      · simp only [px_up_cell, px_up_slot, px_up_eq, ne_eq, Nat.reduceEqDiff, not_false_eq_true]
        exact V
    · have c2 : (4 < (i : Int) - (s : Int)) = False := eq_false (by omega)
      refine ⟨i, px_up (px_up h 123 3 2) 123 6 (i : Int), Nat.le_refl _, hi, A, hend, ?_, Fr_up (Fr_up (Fr_rf _ _ _) _ rfl) _ rfl, px_up_eq _ _ _ _, ?_, ?_⟩
      · rw [eq_Mod_scan_185]
        simp only [px_rd_mk, px_wr_mk, Int.reduceToNat, Int.toNat_natCast, if_true, if_false, Option.bind_some, px_up_cell, px_up_slot, px_up_eq, ne_eq, Nat.reduceEqDiff, not_false_eq_true, Int.reduceEq, Int.reduceLT, Int.reduceLE, Int.reduceNeg, decide_true, decide_false, Bool.and_true, Bool.true_and, Bool.and_false, Bool.false_and, and_self, and_true, true_and, and_false, false_and, bi_T, bi_F, not_true_eq_false, Bool.false_eq_true, kg_123, b, R_isDigitM, bi_f sm, px_w_n u, c2]
        rw [eq_Mod_scan_270]
        simp only [px_rd_mk, px_wr_mk, Int.reduceToNat, Int.toNat_natCast, if_true, if_false, Option.bind_some, px_up_cell, px_up_slot, px_up_eq, ne_eq, Nat.reduceEqDiff, not_false_eq_true, Int.reduceEq, Int.reduceLT, Int.reduceLE, Int.reduceNeg, decide_true, decide_false, Bool.and_true, Bool.true_and, Bool.and_false, Bool.false_and, and_self, and_true, true_and, and_false, false_and, bi_T, bi_F, not_true_eq_false, Bool.false_eq_true, kg_123]
      · rw [if_neg c]
        simp only [px_up_cell, px_up_slot, px_up_eq, ne_eq, Nat.reduceEqDiff, not_false_eq_true]
        rfl
      · simp only [px_up_cell, px_up_slot, px_up_eq, ne_eq, Nat.reduceEqDiff, not_false_eq_true]
        exact V
  induction k with
  | zero =>
    intro i h hi hs C A V
    exact stop i h hs (by omega) (Or.inl hi) C A V
  | succ k ih =>
    intro i h hi hs C A V
    cases c : chD T i
    · exact stop i h hs (by omega) (Or.inr c) C A V
    · have N9 := C.2.2.1
      have hI := C.1
      have b := R_byteAt C i
      have ci := chD_iff.mp c
      rw [cb_v (by omega) (by omega)] at b
      have u : -2147483648 ≤ (i : Int) - (s : Int) ∧ (i : Int) - (s : Int) < 2147483648 := by omega
      have A1 : ∀ j, s ≤ j → j < i + 1 → chD T j = true := fun j h1 h2 => by
        by_cases e : j = i
        · rw [e]; exact c
        · exact A j h1 (by omega)
      by_cases c8 : i - s < 4
      · have c2 : ((i : Int) - (s : Int) < 4) = True := eq_true (by omega)
        have rg := nvl_rng (T := T) (s := s) (i - s) (fun j h1 h2 => A j h1 (by omega))
        have p : 10 ^ (i - s) ≤ 10 ^ 3 := Nat.pow_le_pow_right (by decide) (by omega)
        have rg2 : 0 ≤ nvl T s (i - s) ∧ nvl T s (i - s) < 100000 := ⟨rg.1, by omega⟩
        have es : i + 1 - s = (i - s) + 1 := by omega
        have es2 : s + (i - s) = i := by omega
        have F1 : Fr [] [(123, 3), (123, 6), (123, 7)] h (px_up h 123 7 (nvl T s (i + 1 - s))) := Fr_up (Fr_rf _ _ _) _ rfl
        obtain ⟨e, g, r1, r2, r3, r4, r5, r6, r7, r8, r9⟩ := ih (i + 1) _ (by omega) (by omega) (TM_F C F1 rfl (fun I => IR_Fr I F1 (by decide))) A1 (fun _ => px_up_eq _ _ _ _)
        refine ⟨e, g, by omega, r2, r3, r4, ?_, Fr_tr2 F1 r6, r7, r8, r9⟩
        have vs := nv_stepM rg2 ci
        rw [← V (by omega)] at vs
        have vs2 : px_w (px_w (px_w (10 * h 123 7) + T i) - 48) = nvl T s (i + 1 - s) := by
          rw [vs, es, nvl, es2, V (Nat.le_of_lt c8)]
        rw [eq_Mod_scan_185]
        simp only [px_rd_mk, px_wr_mk, Int.reduceToNat, Int.toNat_natCast, if_true, if_false, Option.bind_some, px_up_cell, px_up_slot, px_up_eq, ne_eq, Nat.reduceEqDiff, not_false_eq_true, Int.reduceEq, Int.reduceLT, Int.reduceLE, Int.reduceNeg, decide_true, decide_false, Bool.and_true, Bool.true_and, Bool.and_false, Bool.false_and, and_self, and_true, true_and, and_false, false_and, bi_T, bi_F, not_true_eq_false, Bool.false_eq_true, kg_123, b, R_isDigitM, bi_t ci, px_w_n u, c2, vs2, px_w_s (show i < 1000000 by omega)]
        exact r5
      · have c2 : ((i : Int) - (s : Int) < 4) = False := eq_false (by omega)
        have hid : px_up h 123 7 (h 123 7) = h := px_up_id rfl
        obtain ⟨e, g, r1, r2, r3, r4, r5, r6, r7, r8, r9⟩ := ih (i + 1) h (by omega) (by omega) C A1 (fun z => absurd z (by omega))
        refine ⟨e, g, by omega, r2, r3, r4, ?_, r6, r7, r8, r9⟩
        rw [eq_Mod_scan_185]
        simp only [px_rd_mk, px_wr_mk, Int.reduceToNat, Int.toNat_natCast, if_true, if_false, Option.bind_some, px_up_cell, px_up_slot, px_up_eq, ne_eq, Nat.reduceEqDiff, not_false_eq_true, Int.reduceEq, Int.reduceLT, Int.reduceLE, Int.reduceNeg, decide_true, decide_false, Bool.and_true, Bool.true_and, Bool.and_false, Bool.false_and, and_self, and_true, true_and, and_false, false_and, bi_T, bi_F, not_true_eq_false, Bool.false_eq_true, kg_123, b, R_isDigitM, bi_t ci, px_w_n u, c2, hid, px_w_s (show i < 1000000 by omega)]
        exact r5
theorem R_scan {T : Nat → Int} {N i : Nat} {h : hp} (C : TM T N h) (hi : i ≤ N) (e6 : h 123 6 = (i : Int)) : ∃ (s e k : Nat) (g : hp), TK T N i s e k ∧ px_R (mm_Mod_scan, 0, [(2, 123), (9, 0), (9, 0), (9, 0)], [], (K0, h)) = some (0, (K0, g)) ∧ Fr [] [(123, 3), (123, 4), (123, 5), (123, 6), (123, 7), (123, 10)] h g ∧ g 123 3 = (((k + 4) % 5 : Nat) : Int) ∧ g 123 5 = (s : Int) ∧ g 123 6 = (e : Int) ∧ g 123 4 = (if k = 2 then kyV T s (e - s) 0 9 else -1) ∧ (k = 2 → g 123 10 = wvl T s (e - s)) ∧ (k = 3 → g 123 7 = nvl T s (e - s)) := by
  obtain ⟨s, r1, r2⟩ := skip_M C (N - i) i (by omega)
  have N9 := C.2.2.1
  have hI := C.1
  have hr := C.2.2.2.2
  have sN := r1.2.1
  have nB : ¬ (cbv T N s = 32 ∨ cbv T N s = 10) := fun z => by
    have := (cb_B (hr s)).mp z
    rcases r1.2.2.2 with q | q
    · omega
    · rw [this.2] at q; cases q
  have n32 := eq_false (fun z => nB (Or.inl z))
  have n10 := eq_false (fun z => nB (Or.inr z))
  have b0 := R_byteAt C s
  have F1 : Fr [] [(123, 3), (123, 4), (123, 5), (123, 6), (123, 7), (123, 10)] h (px_up h 123 5 (s : Int)) := Fr_up (Fr_rf _ _ _) _ rfl
  have b1 := R_byteAt (TM_F C F1 rfl (fun I => IR_Fr I F1 (by decide))) s
  have F2 : Fr [] [(123, 3), (123, 4), (123, 5), (123, 6), (123, 7), (123, 10)] h (px_up (px_up h 123 5 (s : Int)) 123 4 (-1)) := Fr_up F1 _ rfl
  have start : px_R (mm_Mod_scan, 0, [(2, 123), (9, 0), (9, 0), (9, 0)], [], (K0, h)) = px_R (mm_Mod_scan, 5, [(2, 123), (0, (s : Int)), (9, 0), (9, 0)], [], (K0, h)) := by
    rw [eq_Mod_scan_0]
    simp only [px_rd_mk, px_wr_mk, Int.reduceToNat, Int.toNat_natCast, if_true, if_false, Option.bind_some, px_up_cell, px_up_slot, px_up_eq, ne_eq, Nat.reduceEqDiff, not_false_eq_true, Int.reduceEq, Int.reduceLT, Int.reduceLE, Int.reduceNeg, decide_true, decide_false, Bool.and_true, Bool.true_and, Bool.and_false, Bool.false_and, and_self, and_true, true_and, and_false, false_and, bi_T, bi_F, not_true_eq_false, Bool.false_eq_true, kg_123, e6]
    exact r2
  by_cases c0 : s = N
  · have cm : cbv T N s = -1 := by unfold cbv; rw [if_neg (by omega)]
    refine ⟨s, N, 0, px_up (px_up (px_up (px_up h 123 5 (s : Int)) 123 4 (-1)) 123 3 4) 123 6 (s : Int), ⟨r1, Or.inl ⟨c0, rfl, rfl⟩⟩, ?_, Fr_up (Fr_up F2 _ rfl) _ rfl, ?_, ?_, ?_, ?_, fun z => absurd z (by decide), fun z => absurd z (by decide)⟩
    · rw [start, eq_Mod_scan_5]
      rw [cm] at b0 b1 n32 n10
      simp only [px_rd_mk, px_wr_mk, Int.reduceToNat, Int.toNat_natCast, if_true, if_false, Option.bind_some, px_up_cell, px_up_slot, px_up_eq, ne_eq, Nat.reduceEqDiff, not_false_eq_true, Int.reduceEq, Int.reduceLT, Int.reduceLE, Int.reduceNeg, decide_true, decide_false, Bool.and_true, Bool.true_and, Bool.and_false, Bool.false_and, and_self, and_true, true_and, and_false, false_and, bi_T, bi_F, not_true_eq_false, Bool.false_eq_true, kg_123, b0, b1]
      rw [eq_Mod_scan_270]
      simp only [px_rd_mk, px_wr_mk, Int.reduceToNat, Int.toNat_natCast, if_true, if_false, Option.bind_some, px_up_cell, px_up_slot, px_up_eq, ne_eq, Nat.reduceEqDiff, not_false_eq_true, Int.reduceEq, Int.reduceLT, Int.reduceLE, Int.reduceNeg, decide_true, decide_false, Bool.and_true, Bool.true_and, Bool.and_false, Bool.false_and, and_self, and_true, true_and, and_false, false_and, bi_T, bi_F, not_true_eq_false, Bool.false_eq_true, kg_123]
    · simp only [px_up_cell, px_up_slot, px_up_eq, ne_eq, Nat.reduceEqDiff, not_false_eq_true]
      rfl
    · simp only [px_up_cell, px_up_slot, px_up_eq, ne_eq, Nat.reduceEqDiff, not_false_eq_true]
    · simp only [px_up_cell, px_up_slot, px_up_eq, ne_eq, Nat.reduceEqDiff, not_false_eq_true]
      rw [c0]
    · simp only [px_up_cell, px_up_slot, px_up_eq, ne_eq, Nat.reduceEqDiff, not_false_eq_true]
      rfl
  · have sN2 : s < N := by omega
    have cm : (cbv T N s = -1) = False := eq_false (by
      unfold cbv
      rw [if_pos sN2]
      have := hr s
      split <;> omega)
    cases cA : chA T s
    · have sA : ¬ (97 ≤ cbv T N s ∧ cbv T N s ≤ 122) := fun z => by
        have := (cb_A (hr s)).mp z
        rw [cA] at this
        exact absurd this.2 (by decide)
      cases cD : chD T s
      · have sD : ¬ (48 ≤ cbv T N s ∧ cbv T N s ≤ 57) := fun z => by
          have := (cb_D (hr s)).mp z
          rw [cD] at this
          exact absurd this.2 (by decide)
        have c59 : (cbv T N s = 59) = (T s = 59) := by
          unfold cbv
          rw [if_pos sN2]
          have := hr s
          apply propext
          split <;> omega
        by_cases t59 : T s = 59
        · have d59 := c59.trans (eq_true t59)
          refine ⟨s, s + 1, 4, px_up (px_up (px_up (px_up h 123 5 (s : Int)) 123 4 (-1)) 123 3 3) 123 6 ((s + 1 : Nat) : Int), ⟨r1, Or.inr (Or.inr (Or.inr ⟨sN2, cA, cD, rfl, by rw [if_pos t59]⟩))⟩, ?_, Fr_up (Fr_up F2 _ rfl) _ rfl, ?_, ?_, ?_, ?_, fun z => absurd z (by decide), fun z => absurd z (by decide)⟩
          · rw [start, eq_Mod_scan_5]
            simp only [px_rd_mk, px_wr_mk, Int.reduceToNat, Int.toNat_natCast, if_true, if_false, Option.bind_some, px_up_cell, px_up_slot, px_up_eq, ne_eq, Nat.reduceEqDiff, not_false_eq_true, Int.reduceEq, Int.reduceLT, Int.reduceLE, Int.reduceNeg, decide_true, decide_false, Bool.and_true, Bool.true_and, Bool.and_false, Bool.false_and, and_self, and_true, true_and, and_false, false_and, bi_T, bi_F, not_true_eq_false, Bool.false_eq_true, kg_123, b0, b1, n32, n10, cm, R_isSmall, R_isDigitM, bi_f sA, bi_f sD, d59, px_w_s (show s < 1000000 by omega)]
            rw [eq_Mod_scan_270]
            simp only [px_rd_mk, px_wr_mk, Int.reduceToNat, Int.toNat_natCast, if_true, if_false, Option.bind_some, px_up_cell, px_up_slot, px_up_eq, ne_eq, Nat.reduceEqDiff, not_false_eq_true, Int.reduceEq, Int.reduceLT, Int.reduceLE, Int.reduceNeg, decide_true, decide_false, Bool.and_true, Bool.true_and, Bool.and_false, Bool.false_and, and_self, and_true, true_and, and_false, false_and, bi_T, bi_F, not_true_eq_false, Bool.false_eq_true, kg_123]
          · simp only [px_up_cell, px_up_slot, px_up_eq, ne_eq, Nat.reduceEqDiff, not_false_eq_true]
            rfl
          · simp only [px_up_cell, px_up_slot, px_up_eq, ne_eq, Nat.reduceEqDiff, not_false_eq_true]
          · simp only [px_up_cell, px_up_slot, px_up_eq, ne_eq, Nat.reduceEqDiff, not_false_eq_true]
          · simp only [px_up_cell, px_up_slot, px_up_eq, ne_eq, Nat.reduceEqDiff, not_false_eq_true]
            rfl
        · have d59 := c59.trans (eq_false t59)
          refine ⟨s, s + 1, 1, px_up (px_up (px_up (px_up h 123 5 (s : Int)) 123 4 (-1)) 123 3 0) 123 6 ((s + 1 : Nat) : Int), ⟨r1, Or.inr (Or.inr (Or.inr ⟨sN2, cA, cD, rfl, by rw [if_neg t59]⟩))⟩, ?_, Fr_up (Fr_up F2 _ rfl) _ rfl, ?_, ?_, ?_, ?_, fun z => absurd z (by decide), fun z => absurd z (by decide)⟩
          · rw [start, eq_Mod_scan_5]
            simp only [px_rd_mk, px_wr_mk, Int.reduceToNat, Int.toNat_natCast, if_true, if_false, Option.bind_some, px_up_cell, px_up_slot, px_up_eq, ne_eq, Nat.reduceEqDiff, not_false_eq_true, Int.reduceEq, Int.reduceLT, Int.reduceLE, Int.reduceNeg, decide_true, decide_false, Bool.and_true, Bool.true_and, Bool.and_false, Bool.false_and, and_self, and_true, true_and, and_false, false_and, bi_T, bi_F, not_true_eq_false, Bool.false_eq_true, kg_123, b0, b1, n32, n10, cm, R_isSmall, R_isDigitM, bi_f sA, bi_f sD, d59, px_w_s (show s < 1000000 by omega)]
            rw [eq_Mod_scan_270]
            simp only [px_rd_mk, px_wr_mk, Int.reduceToNat, Int.toNat_natCast, if_true, if_false, Option.bind_some, px_up_cell, px_up_slot, px_up_eq, ne_eq, Nat.reduceEqDiff, not_false_eq_true, Int.reduceEq, Int.reduceLT, Int.reduceLE, Int.reduceNeg, decide_true, decide_false, Bool.and_true, Bool.true_and, Bool.and_false, Bool.false_and, and_self, and_true, true_and, and_false, false_and, bi_T, bi_F, not_true_eq_false, Bool.false_eq_true, kg_123]
          · simp only [px_up_cell, px_up_slot, px_up_eq, ne_eq, Nat.reduceEqDiff, not_false_eq_true]
            rfl
          · simp only [px_up_cell, px_up_slot, px_up_eq, ne_eq, Nat.reduceEqDiff, not_false_eq_true]
          · simp only [px_up_cell, px_up_slot, px_up_eq, ne_eq, Nat.reduceEqDiff, not_false_eq_true]
          · simp only [px_up_cell, px_up_slot, px_up_eq, ne_eq, Nat.reduceEqDiff, not_false_eq_true]
            rfl
      · have tD := chD_iff.mp cD
        have sD : 48 ≤ T s ∧ T s ≤ 57 := tD
        rw [cb_v sN2 (by omega)] at b0 b1 n32 n10 cm sA
        have F3 : Fr [] [(123, 3), (123, 4), (123, 5), (123, 6), (123, 7), (123, 10)] h (px_up (px_up (px_up h 123 5 (s : Int)) 123 4 (-1)) 123 7 (nvl T s 1)) := Fr_up F2 _ rfl
        obtain ⟨e, g, q1, q2, q3, q4, q5, q6, q7, q8, q9⟩ := num_M (s := s) (T s) (N - (s + 1)) (s + 1) _ (by omega) (by omega) (TM_F C F3 rfl (fun I => IR_Fr I F3 (by decide))) (fun j h1 h2 => by
          have : j = s := by omega
          rw [this]; exact cD) (fun _ => by
          rw [px_up_eq, show s + 1 - s = 1 by omega])
        have n1 : nvl T s 1 = T s - 48 := by
          show 0 * 10 + (T (s + 0) - 48) = T s - 48
          rw [Nat.add_zero]; omega
        have u : -2147483648 ≤ T s - 48 ∧ T s - 48 < 2147483648 := by omega
        refine ⟨s, e, (if 4 < e - s then 1 else 3), g, ⟨r1, Or.inr (Or.inr (Or.inl ⟨sN2, cA, cD, ⟨by omega, q2, q3, q4⟩, rfl⟩))⟩, ?_, Fr_tr2 F3 (Fr_sub q6 rfl rfl), ?_, ?_, q7, ?_, fun z => ?_, fun z => ?_⟩
        · rw [start, eq_Mod_scan_5]
          simp only [px_rd_mk, px_wr_mk, Int.reduceToNat, Int.toNat_natCast, if_true, if_false, Option.bind_some, px_up_cell, px_up_slot, px_up_eq, ne_eq, Nat.reduceEqDiff, not_false_eq_true, Int.reduceEq, Int.reduceLT, Int.reduceLE, Int.reduceNeg, decide_true, decide_false, Bool.and_true, Bool.true_and, Bool.and_false, Bool.false_and, and_self, and_true, true_and, and_false, false_and, bi_T, bi_F, not_true_eq_false, Bool.false_eq_true, kg_123, b0, b1, n32, n10, cm, R_isSmall, R_isDigitM, bi_f sA, bi_t sD, px_w_s (show s < 1000000 by omega), (px_w_n u).trans n1.symm]
          exact q5
        · rw [q8]
          split <;> rfl
        · rw [q6 123 5 rfl]
          simp only [px_up_cell, px_up_slot, px_up_eq, ne_eq, Nat.reduceEqDiff, not_false_eq_true]
        · rw [q6 123 4 rfl]
          simp only [px_up_cell, px_up_slot, px_up_eq, ne_eq, Nat.reduceEqDiff, not_false_eq_true]
          rw [if_neg (by split <;> decide)]
        · split at z <;> omega
        · refine q9 ?_
          split at z <;> omega
    · have tA := chA_iff.mp cA
      rw [cb_v sN2 (by omega)] at b0 b1 n32 n10 cm
      have F3 : Fr [] [(123, 3), (123, 4), (123, 5), (123, 6), (123, 7), (123, 10)] h (px_up (px_up (px_up h 123 5 (s : Int)) 123 4 (-1)) 123 10 0) := Fr_up F2 _ rfl
      obtain ⟨e, g, q1, q2, q3, q4, q5, q6, q7, q8, q9, q10⟩ := word_M (s := s) (T s) (N - s) s _ (by omega) (Nat.le_refl _) (TM_F C F3 rfl (fun I => IR_Fr I F3 (by decide))) (fun j h1 h2 => by omega) (fun _ => by
        rw [px_up_eq, Nat.sub_self]
        rfl)
      refine ⟨s, e, (if 8 < e - s then 1 else 2), g, ⟨r1, Or.inr (Or.inl ⟨sN2, cA, ⟨q1, q2, q3, q4⟩, rfl⟩)⟩, ?_, Fr_tr2 F3 (Fr_sub q6 rfl rfl), ?_, ?_, q7, ?_, fun z => ?_, fun z => ?_⟩
      · rw [start, eq_Mod_scan_5]
        simp only [px_rd_mk, px_wr_mk, Int.reduceToNat, Int.toNat_natCast, if_true, if_false, Option.bind_some, px_up_cell, px_up_slot, px_up_eq, ne_eq, Nat.reduceEqDiff, not_false_eq_true, Int.reduceEq, Int.reduceLT, Int.reduceLE, Int.reduceNeg, decide_true, decide_false, Bool.and_true, Bool.true_and, Bool.and_false, Bool.false_and, and_self, and_true, true_and, and_false, false_and, bi_T, bi_F, not_true_eq_false, Bool.false_eq_true, kg_123, b0, b1, n32, n10, cm, R_isSmall, bi_t tA]
        exact q5
      · rw [q8]
        split <;> rfl
      · rw [q6 123 5 rfl]
        simp only [px_up_cell, px_up_slot, px_up_eq, ne_eq, Nat.reduceEqDiff, not_false_eq_true]
      · rw [q9]
        by_cases z : 8 < e - s
        · rw [if_pos z, if_pos z, if_neg (by decide)]
          simp only [px_up_cell, px_up_slot, px_up_eq, ne_eq, Nat.reduceEqDiff, not_false_eq_true]
        · rw [if_neg z, if_neg z, if_pos rfl]
      · refine q10 ?_
        split at z <;> omega
      · split at z <;> omega
