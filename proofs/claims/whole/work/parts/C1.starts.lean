/-! Both sides begin to read a street. -/
theorem forget_4 (k : Nat) : ∀ (i : Nat) (h : hp), i + k = 9 → IR h → (∀ j, j < i → h 5 j = 0) → ∃ g : hp, px_R (mm_Str_forget, 7, [(2, 4), (0, (i : Int))], [], (K0, h)) = some (0, (K0, g)) ∧ FSt 4 h g ∧ (∀ j, j < 9 → g 5 j = 0) ∧ g 23 0 = 0 ∧ g 24 0 = 0 ∧ g 25 0 = 1 := by
  induction k with
  | zero =>
    intro i h hi hI V
    have : i = 9 := hi
    subst this
    refine ⟨px_up (px_up (px_up h 23 0 0) 24 0 0) 25 0 1, ?_, FSt_up (FSt_up (FSt_up (FSt_rf _ _) _ (by unfold fst2; decide)) _ (by unfold fst2; decide)) _ (by unfold fst2; decide), fun j hj => ?_, ?_, ?_, ?_⟩
    · rw [eq_Str_forget_7, if_neg (by decide)]
      simp only [px_rd_mk, px_wr_mk, Int.reduceToNat, Int.toNat_natCast, if_true, if_false, Option.bind_some, px_up_cell, px_up_slot, px_up_eq, ne_eq, Nat.reduceEqDiff, not_false_eq_true, Int.reduceEq, Int.reduceLT, Int.reduceLE, Int.reduceNeg, decide_true, decide_false, Bool.and_true, Bool.true_and, Bool.and_false, Bool.false_and, and_self, and_true, true_and, and_false, false_and, bi_T, bi_F, not_true_eq_false, Bool.false_eq_true, kg_4, ka_16, ka_23, ka_24, ka_25, Bool.true_or, ir_4_1 hI, ir_4_2 hI, ir_4_3 hI, ir_16_0 hI, ir_16_1 hI, ir_16_2 hI, ir_16_3 hI, ir_16_4 hI, ir_16_5 hI, ir_16_6 hI, ir_16_7 hI, ir_16_8 hI]
    · simp only [px_up_cell, px_up_slot, px_up_eq, ne_eq, Nat.reduceEqDiff, not_false_eq_true]
      exact V j hj
    · simp only [px_up_cell, px_up_slot, px_up_eq, ne_eq, Nat.reduceEqDiff, not_false_eq_true]
    · simp only [px_up_cell, px_up_slot, px_up_eq, ne_eq, Nat.reduceEqDiff, not_false_eq_true]
    · simp only [px_up_cell, px_up_slot, px_up_eq, ne_eq, Nat.reduceEqDiff, not_false_eq_true]
  | succ k ih =>
    intro i h hi hI V
    have hlt : ((i : Int) < 9) = True := eq_true (by omega)
    have gi : (decide ((0 : Int) ≤ (i : Int)) && decide ((i : Int) < 9)) = true := gd_ok (by omega)
    have F1 : FSt 4 h (px_up h 5 i 0) := FSt_up (FSt_rf _ _) _ (by unfold fst2; omega)
    obtain ⟨g, g1, g2, g3⟩ := ih (i + 1) (px_up h 5 i 0) (by omega) (FSt_IR (by decide) hI F1) (fun j hj => by
      rw [px_up_at]
      by_cases e : j = i
      · rw [if_pos e]
      · rw [if_neg e]
        exact V j (by omega))
    refine ⟨g, ?_, FSt_tr F1 g2, g3⟩
    rw [eq_Str_forget_7]
    simp only [px_rd_mk, px_wr_mk, Int.reduceToNat, Int.toNat_natCast, if_true, if_false, Option.bind_some, px_up_cell, px_up_slot, px_up_eq, ne_eq, Nat.reduceEqDiff, not_false_eq_true, Int.reduceEq, Int.reduceLT, Int.reduceLE, Int.reduceNeg, decide_true, decide_false, Bool.and_true, Bool.true_and, Bool.and_false, Bool.false_and, and_self, and_true, true_and, and_false, false_and, bi_T, bi_F, not_true_eq_false, Bool.false_eq_true, kg_4, ka_5, ir_4_1 hI, ir_4_2 hI, ir_4_3 hI, hlt, Int.natCast_nonneg i, gi, px_w_s (show i < 1000000 by omega)]
    exact g1
theorem forget_26 (k : Nat) : ∀ (i : Nat) (h : hp), i + k = 9 → IR h → (∀ j, j < i → h 27 j = 0) → ∃ g : hp, px_R (mm_Str_forget, 7, [(2, 26), (0, (i : Int))], [], (K0, h)) = some (0, (K0, g)) ∧ FSt 26 h g ∧ (∀ j, j < 9 → g 27 j = 0) ∧ g 45 0 = 0 ∧ g 46 0 = 0 ∧ g 47 0 = 1 := by
  induction k with
  | zero =>
    intro i h hi hI V
    have : i = 9 := hi
    subst this
    refine ⟨px_up (px_up (px_up h 45 0 0) 46 0 0) 47 0 1, ?_, FSt_up (FSt_up (FSt_up (FSt_rf _ _) _ (by unfold fst2; decide)) _ (by unfold fst2; decide)) _ (by unfold fst2; decide), fun j hj => ?_, ?_, ?_, ?_⟩
    · rw [eq_Str_forget_7, if_neg (by decide)]
      simp only [px_rd_mk, px_wr_mk, Int.reduceToNat, Int.toNat_natCast, if_true, if_false, Option.bind_some, px_up_cell, px_up_slot, px_up_eq, ne_eq, Nat.reduceEqDiff, not_false_eq_true, Int.reduceEq, Int.reduceLT, Int.reduceLE, Int.reduceNeg, decide_true, decide_false, Bool.and_true, Bool.true_and, Bool.and_false, Bool.false_and, and_self, and_true, true_and, and_false, false_and, bi_T, bi_F, not_true_eq_false, Bool.false_eq_true, kg_26, ka_38, ka_45, ka_46, ka_47, Bool.true_or, ir_26_1 hI, ir_26_2 hI, ir_26_3 hI, ir_38_0 hI, ir_38_1 hI, ir_38_2 hI, ir_38_3 hI, ir_38_4 hI, ir_38_5 hI, ir_38_6 hI, ir_38_7 hI, ir_38_8 hI]
    · simp only [px_up_cell, px_up_slot, px_up_eq, ne_eq, Nat.reduceEqDiff, not_false_eq_true]
      exact V j hj
    · simp only [px_up_cell, px_up_slot, px_up_eq, ne_eq, Nat.reduceEqDiff, not_false_eq_true]
    · simp only [px_up_cell, px_up_slot, px_up_eq, ne_eq, Nat.reduceEqDiff, not_false_eq_true]
    · simp only [px_up_cell, px_up_slot, px_up_eq, ne_eq, Nat.reduceEqDiff, not_false_eq_true]
  | succ k ih =>
    intro i h hi hI V
    have hlt : ((i : Int) < 9) = True := eq_true (by omega)
    have gi : (decide ((0 : Int) ≤ (i : Int)) && decide ((i : Int) < 9)) = true := gd_ok (by omega)
    have F1 : FSt 26 h (px_up h 27 i 0) := FSt_up (FSt_rf _ _) _ (by unfold fst2; omega)
    obtain ⟨g, g1, g2, g3⟩ := ih (i + 1) (px_up h 27 i 0) (by omega) (FSt_IR (by decide) hI F1) (fun j hj => by
      rw [px_up_at]
      by_cases e : j = i
      · rw [if_pos e]
      · rw [if_neg e]
        exact V j (by omega))
    refine ⟨g, ?_, FSt_tr F1 g2, g3⟩
    rw [eq_Str_forget_7]
    simp only [px_rd_mk, px_wr_mk, Int.reduceToNat, Int.toNat_natCast, if_true, if_false, Option.bind_some, px_up_cell, px_up_slot, px_up_eq, ne_eq, Nat.reduceEqDiff, not_false_eq_true, Int.reduceEq, Int.reduceLT, Int.reduceLE, Int.reduceNeg, decide_true, decide_false, Bool.and_true, Bool.true_and, Bool.and_false, Bool.false_and, and_self, and_true, true_and, and_false, false_and, bi_T, bi_F, not_true_eq_false, Bool.false_eq_true, kg_26, ka_27, ir_26_1 hI, ir_26_2 hI, ir_26_3 hI, hlt, Int.natCast_nonneg i, gi, px_w_s (show i < 1000000 by omega)]
    exact g1
theorem mbegin (k : Nat) : ∀ (i : Nat) (h : hp), i + k = 9 → IR h → (∀ j, j < i → h 125 (9 + j) = 0) → ∃ g : hp, px_R (mm_Mod_begin, 2, [(2, 123), (0, (i : Int))], [], (K0, h)) = some (0, (K0, g)) ∧ FMt h g ∧ (∀ j, j < 8 → g 125 (9 + j) = 0) ∧ g 125 17 = 1 ∧ g 123 23 = 0 ∧ ∀ b, ¬ b = 23 → g 123 b = h 123 b := by
  induction k with
  | zero =>
    intro i h hi hI V
    have : i = 9 := hi
    subst this
    refine ⟨px_up (px_up h 125 17 1) 123 23 0, ?_, FMt_up (FMt_up (FMt_rf _) _ (by unfold fmt2; decide)) _ (by unfold fmt2; decide), fun j hj => ?_, ?_, ?_, fun b hb => ?_⟩
    · rw [eq_Mod_begin_2, if_neg (by decide)]
      simp only [px_rd_mk, px_wr_mk, Int.reduceToNat, Int.toNat_natCast, if_true, if_false, Option.bind_some, px_up_cell, px_up_slot, px_up_eq, ne_eq, Nat.reduceEqDiff, not_false_eq_true, Int.reduceEq, Int.reduceLT, Int.reduceLE, Int.reduceNeg, decide_true, decide_false, Bool.and_true, Bool.true_and, Bool.and_false, Bool.false_and, and_self, and_true, true_and, and_false, false_and, bi_T, bi_F, not_true_eq_false, Bool.false_eq_true, kg_123, ka_125, ir_123_0 hI, ir_123_12 hI, ir_123_13 hI, ir_123_14 hI, ir_123_15 hI, ir_123_16 hI, ir_123_17 hI, ir_123_18 hI, ir_123_19 hI, ir_123_20 hI, ir_123_21 hI, ir_123_30 hI, ir_123_31 hI, ir_123_32 hI, ir_123_33 hI, ir_123_34 hI, ir_123_35 hI, ir_123_36 hI, ir_123_37 hI, ir_123_38 hI, ir_123_39 hI, ir_123_41 hI, ir_123_42 hI, ir_123_44 hI, ir_123_45 hI, ir_123_46 hI, ir_123_50 hI, ir_123_54 hI, ir_123_55 hI, ir_123_56 hI, ir_123_57 hI, ir_123_58 hI, ir_123_59 hI, ir_123_60 hI, ir_123_61 hI, ir_123_62 hI]
    · rw [px_up_cell _ _ _ _ (by decide), px_up_slot _ _ _ _ (by omega)]
      exact V j (by omega)
    · simp only [px_up_cell, px_up_slot, px_up_eq, ne_eq, Nat.reduceEqDiff, not_false_eq_true]
    · simp only [px_up_cell, px_up_slot, px_up_eq, ne_eq, Nat.reduceEqDiff, not_false_eq_true]
    · rw [px_up_slot _ _ _ _ hb, px_up_cell _ _ _ _ (by decide)]
  | succ k ih =>
    intro i h hi hI V
    have hlt : ((i : Int) < 9) = True := eq_true (by omega)
    have gi : (decide ((0 : Int) ≤ ((9 + i : Nat) : Int)) && decide (((9 + i : Nat) : Int) < 18)) = true := gd_ok (by omega)
    have u9 : -2147483648 ≤ 9 + (i : Int) ∧ 9 + (i : Int) < 2147483648 := by omega
    have u9e : 9 + (i : Int) = ((9 + i : Nat) : Int) := by omega
    have F1 : FMt h (px_up h 125 (9 + i) 0) := FMt_up (FMt_rf _) _ (by unfold fmt2; omega)
    obtain ⟨g, g1, g2, g3, g4, g5, g6⟩ := ih (i + 1) (px_up h 125 (9 + i) 0) (by omega) (FMt_IR hI F1) (fun j hj => by
      rw [px_up_at]
      by_cases e : j = i
      · rw [if_pos (by omega)]
      · rw [if_neg (by omega)]
        exact V j (by omega))
    refine ⟨g, ?_, FMt_tr F1 g2, g3, g4, g5, fun b hb => (g6 b hb).trans (px_up_cell _ _ _ _ (by decide))⟩
    rw [eq_Mod_begin_2]
    simp only [px_rd_mk, px_wr_mk, Int.reduceToNat, Int.toNat_natCast, if_true, if_false, Option.bind_some, px_up_cell, px_up_slot, px_up_eq, ne_eq, Nat.reduceEqDiff, not_false_eq_true, Int.reduceEq, Int.reduceLT, Int.reduceLE, Int.reduceNeg, decide_true, decide_false, Bool.and_true, Bool.true_and, Bool.and_false, Bool.false_and, and_self, and_true, true_and, and_false, false_and, bi_T, bi_F, not_true_eq_false, Bool.false_eq_true, kg_123, ka_125, ir_123_0 hI, ir_123_12 hI, ir_123_13 hI, ir_123_14 hI, ir_123_15 hI, ir_123_16 hI, ir_123_17 hI, ir_123_18 hI, ir_123_19 hI, ir_123_20 hI, ir_123_21 hI, ir_123_30 hI, ir_123_31 hI, ir_123_32 hI, ir_123_33 hI, ir_123_34 hI, ir_123_35 hI, ir_123_36 hI, ir_123_37 hI, ir_123_38 hI, ir_123_39 hI, ir_123_41 hI, ir_123_42 hI, ir_123_44 hI, ir_123_45 hI, ir_123_46 hI, ir_123_50 hI, ir_123_54 hI, ir_123_55 hI, ir_123_56 hI, ir_123_57 hI, ir_123_58 hI, ir_123_59 hI, ir_123_60 hI, ir_123_61 hI, ir_123_62 hI, hlt, (px_w_n u9).trans u9e, gi, px_w_s (show i < 1000000 by omega)]
    exact g1
theorem SPR_0 {n : Nat} {c m : hp} (h1 : ∀ j, j < 9 → c (n + 1) j = 0) (h6 : c (n + 19) 0 = 0) (h7 : c (n + 20) 0 = 0) (h8 : c (n + 21) 0 = 1) (m1 : ∀ j, j < 8 → m 125 (9 + j) = 0) (m8 : m 125 17 = 1) (m23 : m 123 23 = 0) : SPR n c m := by
  have no : ∀ (k z : Nat), k < 9 → (z : Int) < c (n + 1) k → False := fun k z hk hz => by
    rw [h1 k hk] at hz
    omega
  refine ⟨fun k hk => ?_, ⟨0, m23, by decide, fun k h6' h9 => ?_⟩, fun k hk _ z hz => (no k z (by omega) hz).elim, fun z hz => (no 0 z (by decide) hz).elim, fun z hz => (no 1 z (by decide) hz).elim, fun z hz => (no 2 z (by decide) hz).elim, fun z hz => (no 5 z (by decide) hz).elim, fun z hz => (no 3 z (by decide) hz).elim, fun z hz => (no 4 z (by decide) hz).elim⟩
  · rw [h1 k (by omega), m1 k (by omega)]
    exact ⟨rfl, Int.le_refl _, (lim_6 k).1⟩
  · rw [h1 k h9, Nat.zero_testBit]
    have k3 : k = 6 ∨ k = 7 ∨ k = 8 := by omega
    rcases k3 with rfl | rfl | rfl
    · rw [m1 6 (by decide), show n + 13 + 6 = n + 19 from rfl, h6]
      decide
    · rw [m1 7 (by decide), show n + 13 + 7 = n + 20 from rfl, h7]
      decide
    · rw [show n + 13 + 8 = n + 21 from rfl, h8, show 9 + 8 = 17 from rfl, m8]
      decide
