/-! Both sides begin to read a street: the calls. -/
theorem mStart {T : Nat → Int} {N : Nat} {h : hp} (hI : IR h) (h1 : h 123 1 = (N : Int)) (N9 : N ≤ 900) (hT : ∀ j, h 124 j = T j) (hr : ∀ j, -128 ≤ T j ∧ T j < 128) : ∃ (m : hp) (s e k : Nat), px_R (mm_Mod_street, 0, [(2, 123), (9, 0)], [], (K0, h)) = px_R (mm_Mod_street, 20, [(2, 123), (0, 0)], [], (K0, m)) ∧ TM T N m ∧ TK T N 0 s e k ∧ SC T s e k m ∧ (∀ a b, ¬ fmt2 a b → ¬ (a = 123 ∧ (b = 1 ∨ b = 2)) → m a b = h a b) ∧ m 123 1 = 0 ∧ m 123 8 = 0 ∧ m 123 9 = -1 ∧ (∀ j, j < 8 → m 125 (9 + j) = 0) ∧ m 125 17 = 1 ∧ m 123 23 = 0 := by
  have K1 : Fr [] mss h (px_up (px_up (px_up h 123 2 (h 123 1)) 123 1 0) 123 6 0) := Fr_up (Fr_up (Fr_up (Fr_rf _ _ _) _ rfl) _ rfl) _ rfl
  have M1 : TM T N (px_up (px_up (px_up h 123 2 (h 123 1)) 123 1 0) 123 6 0) := ⟨IR_Fr hI K1 (by decide), by
    simp only [px_up_cell, px_up_slot, px_up_eq, ne_eq, Nat.reduceEqDiff, not_false_eq_true]
    exact h1, N9, fun j => by
    simp only [px_up_cell, px_up_slot, px_up_eq, ne_eq, Nat.reduceEqDiff, not_false_eq_true]
    exact hT j, hr⟩
  obtain ⟨s, e, k, m1, t, q1, sc, f1, _⟩ := scanT M1 (Nat.zero_le N) (px_up_eq _ _ _ _)
  have M2 := FMt_TM M1 (FTk_FMt f1)
  have F3 : FMt m1 (px_up (px_up m1 123 8 0) 123 9 (-1)) := FMt_up (FMt_up (FMt_rf _) _ (by unfold fmt2; decide)) _ (by unfold fmt2; decide)
  obtain ⟨g, r1, r2, r3, r4, r5, r6⟩ := mbegin 9 0 (px_up (px_up m1 123 8 0) 123 9 (-1)) rfl (FMt_IR M2.1 F3) (fun j hj => absurd hj (by omega))
  have r1 : px_R (mm_Mod_begin, 2, [(2, 123), (0, 0)], [], (K0, px_up (px_up m1 123 8 0) 123 9 (-1))) = some (0, (K0, g)) := r1
  refine ⟨g, s, e, k, ?_, FMt_TM M2 (FMt_tr F3 r2), t, ?_, fun a b h2 h3 => ?_, ?_, ?_, ?_, r3, r4, r5⟩
  · rw [eq_Mod_street_0, eq_Mod_takeTape_0]
    simp only [px_rd_mk, px_wr_mk, Int.reduceToNat, Int.toNat_natCast, if_true, if_false, Option.bind_some, px_up_cell, px_up_slot, px_up_eq, ne_eq, Nat.reduceEqDiff, not_false_eq_true, Int.reduceEq, Int.reduceLT, Int.reduceLE, Int.reduceNeg, decide_true, decide_false, Bool.and_true, Bool.true_and, Bool.and_false, Bool.false_and, and_self, and_true, true_and, and_false, false_and, bi_T, bi_F, not_true_eq_false, Bool.false_eq_true, kg_123, q1]
    rw [eq_Mod_begin_0, r1]
    simp only [px_rd_mk, px_wr_mk, Int.reduceToNat, Int.toNat_natCast, if_true, if_false, Option.bind_some, px_up_cell, px_up_slot, px_up_eq, ne_eq, Nat.reduceEqDiff, not_false_eq_true, Int.reduceEq, Int.reduceLT, Int.reduceLE, Int.reduceNeg, decide_true, decide_false, Bool.and_true, Bool.true_and, Bool.and_false, Bool.false_and, and_self, and_true, true_and, and_false, false_and, bi_T, bi_F, not_true_eq_false, Bool.false_eq_true, kg_123]
  · have tok : ∀ b, ¬ b = 23 → ¬ b = 8 → ¬ b = 9 → g 123 b = m1 123 b := fun b b1 b2 b3 => by
      rw [r6 b b1, px_up_slot _ _ _ _ b3, px_up_slot _ _ _ _ b2]
    obtain ⟨d3, d5, d6, d4, d10, d7⟩ := sc
    exact ⟨(tok 3 (by decide) (by decide) (by decide)).trans d3, (tok 5 (by decide) (by decide) (by decide)).trans d5, (tok 6 (by decide) (by decide) (by decide)).trans d6, (tok 4 (by decide) (by decide) (by decide)).trans d4, fun z => (tok 10 (by decide) (by decide) (by decide)).trans (d10 z), fun z => (tok 7 (by decide) (by decide) (by decide)).trans (d7 z)⟩
  · rw [r2 a b h2, F3 a b h2, f1 a b (fun z => h2 (by unfold fmt2; omega))]
    unfold px_up
    rw [if_neg (fun z => h2 (by unfold fmt2; omega)), if_neg (fun z => h3 ⟨z.1, Or.inl z.2⟩), if_neg (fun z => h3 ⟨z.1, Or.inr z.2⟩)]
  · rw [r6 1 (by decide), px_up_slot _ _ _ _ (by decide), px_up_slot _ _ _ _ (by decide), f1 123 1 (by decide)]
    simp only [px_up_cell, px_up_slot, px_up_eq, ne_eq, Nat.reduceEqDiff, not_false_eq_true]
  · rw [r6 8 (by decide), px_up_slot _ _ _ _ (by decide), px_up_eq]
  · rw [r6 9 (by decide), px_up_eq]
theorem cStart_4 {T : Nat → Int} {N : Nat} {h : hp} (hI : IR h) (h1 : h 2 1 = (N : Int)) (N9 : N ≤ 900) (hT : ∀ j, h 3 j = T j) : ∃ c : hp, px_R (mm_Str_read, 0, [(2, 4), (2, 2), (9, 0), (9, 0)], [], (K0, h)) = px_R (mm_Str_read, 11, [(2, 4), (2, 2), (0, 0), (9, 0)], [], (K0, c)) ∧ TC2 T N c ∧ c 2 4 = 0 ∧ c 4 0 = 0 ∧ (∀ j, j < 9 → c 5 j = 0) ∧ c 23 0 = 0 ∧ c 24 0 = 0 ∧ c 25 0 = 1 ∧ FS2 4 h c := by
  have F0 : Fr [] [(4, 0)] h (px_up h 4 0 0) := Fr_up (Fr_rf _ _ _) _ rfl
  have I0 := IR_Fr hI F0 (by decide)
  obtain ⟨g, r1, r2, r3, r4, r5, r6⟩ := forget_4 9 0 (px_up h 4 0 0) rfl I0 (fun j hj => absurd hj (by omega))
  have r1 : px_R (mm_Str_forget, 7, [(2, 4), (0, 0)], [], (K0, px_up h 4 0 0)) = some (0, (K0, g)) := r1
  have fo : px_R (mm_Str_forget, 0, [(2, 4), (9, 0)], [], (K0, h)) = some (0, (K0, g)) := by
    rw [eq_Str_forget_0]
    simp only [px_rd_mk, px_wr_mk, Int.reduceToNat, Int.toNat_natCast, if_true, if_false, Option.bind_some, px_up_cell, px_up_slot, px_up_eq, ne_eq, Nat.reduceEqDiff, not_false_eq_true, Int.reduceEq, Int.reduceLT, Int.reduceLE, Int.reduceNeg, decide_true, decide_false, Bool.and_true, Bool.true_and, Bool.and_false, Bool.false_and, and_self, and_true, true_and, and_false, false_and, bi_T, bi_F, not_true_eq_false, Bool.false_eq_true, kg_4, r1]
  have C0 : TC2 T N (px_up h 4 0 0) := TC2_F ⟨hI, h1, N9, hT⟩ F0 rfl (fun I => IR_Fr I F0 (by decide))
  have C1 := FSt_TC (s := 4) (by decide) C0 r2
  have C2 := FSt_TC (s := 4) (by decide) C1 (FSt_up (FSt_rf _ _) (a := 2) (b := 4) 0 (by unfold fst2; decide))
  refine ⟨px_up g 2 4 0, ?_, C2, px_up_eq _ _ _ _, ?_, fun j hj => ?_, ?_, ?_, ?_, fun a b z1 z2 => ?_⟩
  · rw [eq_Str_read_0]
    simp only [px_rd_mk, px_wr_mk, Int.reduceToNat, Int.toNat_natCast, if_true, if_false, Option.bind_some, px_up_cell, px_up_slot, px_up_eq, ne_eq, Nat.reduceEqDiff, not_false_eq_true, Int.reduceEq, Int.reduceLT, Int.reduceLE, Int.reduceNeg, decide_true, decide_false, Bool.and_true, Bool.true_and, Bool.and_false, Bool.false_and, and_self, and_true, true_and, and_false, false_and, bi_T, bi_F, not_true_eq_false, Bool.false_eq_true, kg_2, kg_4, fo]
  · rw [px_up_cell _ _ _ _ (by decide), r2 4 0 (by unfold fst2; decide), px_up_eq]
  · rw [px_up_cell _ _ _ _ (by decide)]
    exact r3 j hj
  · rw [px_up_cell _ _ _ _ (by decide)]
    exact r4
  · rw [px_up_cell _ _ _ _ (by decide)]
    exact r5
  · rw [px_up_cell _ _ _ _ (by decide)]
    exact r6
  · unfold px_up
    rw [if_neg (fun w => z1 (by unfold fst2; omega)), r2 a b z1]
    unfold px_up
    rw [if_neg z2]
theorem cStart_26 {T : Nat → Int} {N : Nat} {h : hp} (hI : IR h) (h1 : h 2 1 = (N : Int)) (N9 : N ≤ 900) (hT : ∀ j, h 3 j = T j) : ∃ c : hp, px_R (mm_Str_read, 0, [(2, 26), (2, 2), (9, 0), (9, 0)], [], (K0, h)) = px_R (mm_Str_read, 11, [(2, 26), (2, 2), (0, 0), (9, 0)], [], (K0, c)) ∧ TC2 T N c ∧ c 2 4 = 0 ∧ c 26 0 = 0 ∧ (∀ j, j < 9 → c 27 j = 0) ∧ c 45 0 = 0 ∧ c 46 0 = 0 ∧ c 47 0 = 1 ∧ FS2 26 h c := by
  have F0 : Fr [] [(26, 0)] h (px_up h 26 0 0) := Fr_up (Fr_rf _ _ _) _ rfl
  have I0 := IR_Fr hI F0 (by decide)
  obtain ⟨g, r1, r2, r3, r4, r5, r6⟩ := forget_26 9 0 (px_up h 26 0 0) rfl I0 (fun j hj => absurd hj (by omega))
  have r1 : px_R (mm_Str_forget, 7, [(2, 26), (0, 0)], [], (K0, px_up h 26 0 0)) = some (0, (K0, g)) := r1
  have fo : px_R (mm_Str_forget, 0, [(2, 26), (9, 0)], [], (K0, h)) = some (0, (K0, g)) := by
    rw [eq_Str_forget_0]
    simp only [px_rd_mk, px_wr_mk, Int.reduceToNat, Int.toNat_natCast, if_true, if_false, Option.bind_some, px_up_cell, px_up_slot, px_up_eq, ne_eq, Nat.reduceEqDiff, not_false_eq_true, Int.reduceEq, Int.reduceLT, Int.reduceLE, Int.reduceNeg, decide_true, decide_false, Bool.and_true, Bool.true_and, Bool.and_false, Bool.false_and, and_self, and_true, true_and, and_false, false_and, bi_T, bi_F, not_true_eq_false, Bool.false_eq_true, kg_26, r1]
  have C0 : TC2 T N (px_up h 26 0 0) := TC2_F ⟨hI, h1, N9, hT⟩ F0 rfl (fun I => IR_Fr I F0 (by decide))
  have C1 := FSt_TC (s := 26) (by decide) C0 r2
  have C2 := FSt_TC (s := 26) (by decide) C1 (FSt_up (FSt_rf _ _) (a := 2) (b := 4) 0 (by unfold fst2; decide))
  refine ⟨px_up g 2 4 0, ?_, C2, px_up_eq _ _ _ _, ?_, fun j hj => ?_, ?_, ?_, ?_, fun a b z1 z2 => ?_⟩
  · rw [eq_Str_read_0]
    simp only [px_rd_mk, px_wr_mk, Int.reduceToNat, Int.toNat_natCast, if_true, if_false, Option.bind_some, px_up_cell, px_up_slot, px_up_eq, ne_eq, Nat.reduceEqDiff, not_false_eq_true, Int.reduceEq, Int.reduceLT, Int.reduceLE, Int.reduceNeg, decide_true, decide_false, Bool.and_true, Bool.true_and, Bool.and_false, Bool.false_and, and_self, and_true, true_and, and_false, false_and, bi_T, bi_F, not_true_eq_false, Bool.false_eq_true, kg_2, kg_26, fo]
  · rw [px_up_cell _ _ _ _ (by decide), r2 26 0 (by unfold fst2; decide), px_up_eq]
  · rw [px_up_cell _ _ _ _ (by decide)]
    exact r3 j hj
  · rw [px_up_cell _ _ _ _ (by decide)]
    exact r4
  · rw [px_up_cell _ _ _ _ (by decide)]
    exact r5
  · rw [px_up_cell _ _ _ _ (by decide)]
    exact r6
  · unfold px_up
    rw [if_neg (fun w => z1 (by unfold fst2; omega)), r2 a b z1]
    unfold px_up
    rw [if_neg z2]
theorem cStart {p : Nat} (hpp : p = 4 ∨ p = 26) {T : Nat → Int} {N : Nat} {h : hp} (hI : IR h) (h1 : h 2 1 = (N : Int)) (N9 : N ≤ 900) (hT : ∀ j, h 3 j = T j) : ∃ c : hp, px_R (mm_Str_read, 0, [(2, (p : Int)), (2, 2), (9, 0), (9, 0)], [], (K0, h)) = px_R (mm_Str_read, 11, [(2, (p : Int)), (2, 2), (0, 0), (9, 0)], [], (K0, c)) ∧ TC2 T N c ∧ c 2 4 = 0 ∧ c p 0 = 0 ∧ (∀ j, j < 9 → c (p + 1) j = 0) ∧ c (p + 19) 0 = 0 ∧ c (p + 20) 0 = 0 ∧ c (p + 21) 0 = 1 ∧ FS2 p h c := by
  rcases hpp with rfl | rfl
  · exact cStart_4 hI h1 N9 hT
  · exact cStart_26 hI h1 N9 hT
