/-! The easy calls. -/
theorem C_fault {h : hp} (C : CI h) (x : Int) : AL h mm_Tin_fault mm_Mod_fault [(2, 1), (0, x)] [(2, 123), (0, x)] := by
  have C2 := C
  obtain ⟨n, ⟨hn, h8, h9⟩, hI, hT, hK, hS, hL, hR, hC, hKs, hW, hB⟩ := C2
  refine AL_same C (if x = 0 then h 1 10 else if x = 1 then h 1 11 else -1) ?_ ?_
  · rw [eq_Tin_fault_0]
    simp only [px_rd_mk, px_wr_mk, Int.reduceToNat, Int.toNat_natCast, if_true, if_false, Option.bind_some, px_up_cell, px_up_slot, px_up_eq, ne_eq, Nat.reduceEqDiff, not_false_eq_true, Int.reduceEq, Int.reduceLT, Int.reduceLE, Int.reduceNeg, decide_true, decide_false, Bool.and_true, Bool.true_and, Bool.and_false, Bool.false_and, and_self, and_true, true_and, and_false, false_and, bi_T, bi_F, not_true_eq_false, Bool.false_eq_true, kg_1]
    (repeat' split) <;> rfl
  · rw [eq_Mod_fault_0]
    simp only [px_rd_mk, px_wr_mk, Int.reduceToNat, Int.toNat_natCast, if_true, if_false, Option.bind_some, px_up_cell, px_up_slot, px_up_eq, ne_eq, Nat.reduceEqDiff, not_false_eq_true, Int.reduceEq, Int.reduceLT, Int.reduceLE, Int.reduceNeg, decide_true, decide_false, Bool.and_true, Bool.true_and, Bool.and_false, Bool.false_and, and_self, and_true, true_and, and_false, false_and, bi_T, bi_F, not_true_eq_false, Bool.false_eq_true, kg_123, hK.1, hK.2]
    (repeat' split) <;> rfl
theorem C_straighten {h : hp} (C : CI h) : AL h mm_Tin_straighten mm_Mod_straighten [(2, 1), (9, 0)] [(2, 123), (9, 0)] := by
  have C2 := C
  obtain ⟨n, ⟨hn, h8, h9⟩, hI, hT, hK, hS, hL, hR, hC, hKs, hW, hB⟩ := C2
  obtain ⟨l0, l1, l2, l3, l4, l5, l6, l7⟩ := hL
  have F : Fr [] [(48, 4), (48, 6), (123, 28), (123, 29)] h (px_up (px_up (px_up (px_up h 48 4 0) 48 6 0) 123 28 0) 123 29 0) := Fr_up (Fr_up (Fr_up (Fr_up (Fr_rf _ _ _) _ rfl) _ rfl) _ rfl) _ rfl
  refine ⟨px_w (h 48 4 + h 48 6), px_up (px_up h 48 4 0) 48 6 0, px_up (px_up (px_up (px_up h 48 4 0) 48 6 0) 123 28 0) 123 29 0, ?_, ?_, ⟨n, SP_F F rfl ⟨hn, h8, h9⟩, IR_Fr hI F (by decide), TP_F F rfl hT, FK_F F rfl hK, ST_F hn F rfl hS, ?_, RW_F F rfl hR, CR_F F rfl hC, KS_F F rfl hKs, WI_F hn F rfl hW, BK_F hn F rfl hB⟩⟩
  · rw [eq_Tin_straighten_0]
    simp only [px_rd_mk, px_wr_mk, Int.reduceToNat, Int.toNat_natCast, if_true, if_false, Option.bind_some, px_up_cell, px_up_slot, px_up_eq, ne_eq, Nat.reduceEqDiff, not_false_eq_true, Int.reduceEq, Int.reduceLT, Int.reduceLE, Int.reduceNeg, decide_true, decide_false, Bool.and_true, Bool.true_and, Bool.and_false, Bool.false_and, and_self, and_true, true_and, and_false, false_and, bi_T, bi_F, not_true_eq_false, Bool.false_eq_true, kg_1, kg_48, ir_1_0 hI, ir_1_1 hI, ir_1_2 hI, ir_1_3 hI, ir_1_4 hI, ir_1_5 hI, ir_1_6 hI, ir_1_7 hI]
  · rw [eq_Mod_straighten_0]
    simp only [px_rd_mk, px_wr_mk, Int.reduceToNat, Int.toNat_natCast, if_true, if_false, Option.bind_some, px_up_cell, px_up_slot, px_up_eq, ne_eq, Nat.reduceEqDiff, not_false_eq_true, Int.reduceEq, Int.reduceLT, Int.reduceLE, Int.reduceNeg, decide_true, decide_false, Bool.and_true, Bool.true_and, Bool.and_false, Bool.false_and, and_self, and_true, true_and, and_false, false_and, bi_T, bi_F, not_true_eq_false, Bool.false_eq_true, kg_123, l4.1, l5.1]
  · unfold LI
    rw [Fr_st hn F rfl (n + 1) (by omega) (by omega)]
    simp only [px_up_cell, px_up_slot, px_up_eq, ne_eq, Nat.reduceEqDiff, not_false_eq_true]
    exact ⟨l0, l1, l2, l3, by decide, by decide, fun i hi => absurd hi (by omega), fun i hi => absurd hi (by omega)⟩
theorem C_tie {h : hp} (C : CI h) (x : Int) : AL h mm_Tin_tie mm_Mod_tie [(2, 1), (0, x)] [(2, 123), (0, x)] := by
  have C2 := C
  obtain ⟨n, ⟨hn, h8, h9⟩, hI, hT, hK, hS, hL, hR, hC, hKs, hW, hB⟩ := C2
  obtain ⟨l0, l1, l2, l3, l4, ⟨l5, l5a, l5b⟩, l6, l7⟩ := hL
  by_cases hx : 0 ≤ x ∧ x ≤ 100
  · obtain ⟨T, hT6⟩ := Int.eq_ofNat_of_zero_le l5a
    by_cases ht : T = 4
    · subst ht
      have hT7 : h 48 6 = 4 := hT6
      refine AL_same C (-3) ?_ ?_
      · rw [eq_Tin_tie_0, R_Tin_within, bi_t hx]
        simp only [px_rd_mk, px_wr_mk, Int.reduceToNat, Int.toNat_natCast, if_true, if_false, Option.bind_some, px_up_cell, px_up_slot, px_up_eq, ne_eq, Nat.reduceEqDiff, not_false_eq_true, Int.reduceEq, Int.reduceLT, Int.reduceLE, Int.reduceNeg, decide_true, decide_false, Bool.and_true, Bool.true_and, Bool.and_false, Bool.false_and, and_self, and_true, true_and, and_false, false_and, bi_T, bi_F, not_true_eq_false, Bool.false_eq_true, kg_1, kg_48, ir_1_0 hI, ir_1_1 hI, ir_1_2 hI, ir_1_3 hI, ir_1_4 hI, ir_1_5 hI, ir_1_6 hI, ir_1_7 hI, hT7]
      · rw [eq_Mod_tie_0, R_Mod_in, bi_t hx]
        simp only [px_rd_mk, px_wr_mk, Int.reduceToNat, Int.toNat_natCast, if_true, if_false, Option.bind_some, px_up_cell, px_up_slot, px_up_eq, ne_eq, Nat.reduceEqDiff, not_false_eq_true, Int.reduceEq, Int.reduceLT, Int.reduceLE, Int.reduceNeg, decide_true, decide_false, Bool.and_true, Bool.true_and, Bool.and_false, Bool.false_and, and_self, and_true, true_and, and_false, false_and, bi_T, bi_F, not_true_eq_false, Bool.false_eq_true, kg_123, l5, hT7]
    · have hlt : ((T : Int) < 4) = True := by simp; omega
      have hne : ((T : Int) = 4) = False := by simp; omega
      have hb : (decide ((0 : Int) ≤ (T : Int)) && decide ((T : Int) < 4)) = true := by simp; omega
      have hT4 : T < 4 := by omega
      have w1 : px_w ((T : Int) + 1) = ((T + 1 : Nat) : Int) := by rw [px_w_id (by omega) (by omega)]; omega
      have F : Fr [50, 136] [(48, 6), (123, 29)] h (px_up (px_up (px_up (px_up h 50 T x) 48 6 ((T + 1 : Nat) : Int)) 136 T x) 123 29 ((T + 1 : Nat) : Int)) := Fr_up (Fr_up (Fr_up (Fr_up (Fr_rf _ _ _) _ rfl) _ rfl) _ rfl) _ rfl
      refine ⟨((T + 1 : Nat) : Int), px_up (px_up h 50 T x) 48 6 ((T + 1 : Nat) : Int), px_up (px_up (px_up (px_up h 50 T x) 48 6 ((T + 1 : Nat) : Int)) 136 T x) 123 29 ((T + 1 : Nat) : Int), ?_, ?_, ⟨n, SP_F F rfl ⟨hn, h8, h9⟩, IR_Fr hI F (by decide), TP_F F rfl hT, FK_F F rfl hK, ST_F hn F rfl hS, ?_, RW_F F rfl hR, CR_F F rfl hC, KS_F F rfl hKs, WI_F hn F rfl hW, BK_F hn F rfl hB⟩⟩
      · rw [eq_Tin_tie_0, R_Tin_within, bi_t hx]
        simp only [px_rd_mk, px_wr_mk, Int.reduceToNat, Int.toNat_natCast, if_true, if_false, Option.bind_some, px_up_cell, px_up_slot, px_up_eq, ne_eq, Nat.reduceEqDiff, not_false_eq_true, Int.reduceEq, Int.reduceLT, Int.reduceLE, Int.reduceNeg, decide_true, decide_false, Bool.and_true, Bool.true_and, Bool.and_false, Bool.false_and, and_self, and_true, true_and, and_false, false_and, bi_T, bi_F, not_true_eq_false, Bool.false_eq_true, kg_1, kg_48, ka_50, ir_1_0 hI, ir_1_1 hI, ir_1_2 hI, ir_1_3 hI, ir_1_4 hI, ir_1_5 hI, ir_1_6 hI, ir_1_7 hI, ir_48_5 hI, ir_48_7 hI, hT6, hlt, hb, w1, decide_true, Bool.and_true, Int.natCast_nonneg]
      · rw [eq_Mod_tie_0, R_Mod_in, bi_t hx]
        simp only [px_rd_mk, px_wr_mk, Int.reduceToNat, Int.toNat_natCast, if_true, if_false, Option.bind_some, px_up_cell, px_up_slot, px_up_eq, ne_eq, Nat.reduceEqDiff, not_false_eq_true, Int.reduceEq, Int.reduceLT, Int.reduceLE, Int.reduceNeg, decide_true, decide_false, Bool.and_true, Bool.true_and, Bool.and_false, Bool.false_and, and_self, and_true, true_and, and_false, false_and, bi_T, bi_F, not_true_eq_false, Bool.false_eq_true, kg_123, ka_136, ir_123_0 hI, ir_123_12 hI, ir_123_13 hI, ir_123_14 hI, ir_123_15 hI, ir_123_16 hI, ir_123_17 hI, ir_123_18 hI, ir_123_19 hI, ir_123_20 hI, ir_123_21 hI, ir_123_30 hI, ir_123_31 hI, ir_123_32 hI, ir_123_33 hI, ir_123_34 hI, ir_123_35 hI, ir_123_36 hI, ir_123_37 hI, ir_123_38 hI, ir_123_39 hI, ir_123_41 hI, ir_123_42 hI, ir_123_44 hI, ir_123_45 hI, ir_123_46 hI, ir_123_50 hI, ir_123_54 hI, ir_123_55 hI, ir_123_56 hI, ir_123_57 hI, ir_123_58 hI, ir_123_59 hI, ir_123_60 hI, ir_123_61 hI, ir_123_62 hI, l5, hT6, hne, hb, w1]
      · clear w1
        unfold LI
        rw [Fr_st hn F rfl (n + 1) (by omega) (by omega)]
        simp only [px_up_cell, px_up_slot, px_up_eq, ne_eq, Nat.reduceEqDiff, not_false_eq_true, px_up_at]
        refine ⟨l0, l1, l2, l3, l4, ⟨trivial, by omega, by omega⟩, l6, fun i hi => ?_⟩
        by_cases e : i = T
        · rw [if_pos e, if_pos e]; exact ⟨rfl, hx⟩
        · rw [if_neg e, if_neg e]; exact l7 i (by omega)
  · refine AL_same C (-2) ?_ ?_
    · rw [eq_Tin_tie_0, R_Tin_within, bi_f hx]
      simp only [px_rd_mk, px_wr_mk, Int.reduceToNat, Int.toNat_natCast, if_true, if_false, Option.bind_some, px_up_cell, px_up_slot, px_up_eq, ne_eq, Nat.reduceEqDiff, not_false_eq_true, Int.reduceEq, Int.reduceLT, Int.reduceLE, Int.reduceNeg, decide_true, decide_false, Bool.and_true, Bool.true_and, Bool.and_false, Bool.false_and, and_self, and_true, true_and, and_false, false_and, bi_T, bi_F, not_true_eq_false, Bool.false_eq_true]
    · rw [eq_Mod_tie_0, R_Mod_in, bi_f hx]
      simp only [px_rd_mk, px_wr_mk, Int.reduceToNat, Int.toNat_natCast, if_true, if_false, Option.bind_some, px_up_cell, px_up_slot, px_up_eq, ne_eq, Nat.reduceEqDiff, not_false_eq_true, Int.reduceEq, Int.reduceLT, Int.reduceLE, Int.reduceNeg, decide_true, decide_false, Bool.and_true, Bool.true_and, Bool.and_false, Bool.false_and, and_self, and_true, true_and, and_false, false_and, bi_T, bi_F, not_true_eq_false, Bool.false_eq_true]
theorem ST_n {n : Nat} {h : hp} (S : ST n h) {k : Nat} (hk : k < 6) : h 125 k = h (n + 1) k ∧ 0 ≤ h (n + 1) k ∧ h (n + 1) k ≤ 6 := by
  obtain ⟨a, b, c⟩ := S.2.1 k hk
  refine ⟨a, b, Int.le_trans c ?_⟩
  match k, hk with
  | 0, _ => decide
  | 1, _ => decide
  | 2, _ => decide
  | 3, _ => decide
  | 4, _ => decide
  | 5, _ => decide
/-- whether a number names one of a kind: both sides alike -/
theorem R_one {h : hp} {n : Nat} (hn : n = 4 ∨ n = 26) (h8 : h 1 8 = (n : Int)) (hI : IR h) (S : ST n h) {y : Int} {k : Nat} (hy : y = (k : Int)) (hk : k < 6) (x : Int) : px_R (mm_Tin_isOne, 0, [(2, 1), (0, y), (0, x)], [], (K0, h)) = some (bi (0 ≤ x ∧ x < h (n + 1) k), (K0, h)) := by
  have := ST_n S hk
  subst hy
  exact R_Tin_isOne hI hn h8 (by omega) x (by omega)
theorem R_is {h : hp} {n : Nat} (hI : IR h) (S : ST n h) {y : Int} {k : Nat} (hy : y = (k : Int)) (hk : k < 6) (x : Int) : px_R (mm_Mod_is, 0, [(2, 123), (0, y), (0, x)], [], (K0, h)) = some (bi (0 ≤ x ∧ x < h (n + 1) k), (K0, h)) := by
  have := ST_n S hk
  subst hy
  rw [R_Mod_is hI (by omega) x (by omega), this.1]
theorem C_bend_in {h : hp} (C : CI h) (x : Int) (hx : ∀ n : Nat, h 1 8 = (n : Int) → x = -1 ∨ (0 ≤ x ∧ x < h (n + 1) 5)) : ∃ (v : Int) (g k : hp), px_R (mm_Tin_bend, 17, [(2, 1), (0, x)], [], (K0, h)) = some (v, (K0, g)) ∧ px_R (mm_Mod_bend, 17, [(2, 123), (0, x)], [], (K0, g)) = some (v, (K0, k)) ∧ CI k ∧ Fr [49] [(48, 4)] h g := by
  have C2 := C
  obtain ⟨n, ⟨hn, h8, h9⟩, hI, hT, hK, hS, hL, hR, hC, hKs, hW, hB⟩ := C2
  have hx := hx n h8
  obtain ⟨l0, l1, l2, l3, ⟨l4, l4a, l4b⟩, l5, l6, l7⟩ := hL
  obtain ⟨T, hT6⟩ := Int.eq_ofNat_of_zero_le l4a
  by_cases ht : T = 4
  · subst ht
    have hT7 : h 48 4 = 4 := hT6
    refine ⟨-3, h, h, ?_, ?_, C, Fr_rf _ _ _⟩
    · rw [eq_Tin_bend_17]
      simp only [px_rd_mk, px_wr_mk, Int.reduceToNat, Int.toNat_natCast, if_true, if_false, Option.bind_some, px_up_cell, px_up_slot, px_up_eq, ne_eq, Nat.reduceEqDiff, not_false_eq_true, Int.reduceEq, Int.reduceLT, Int.reduceLE, Int.reduceNeg, decide_true, decide_false, Bool.and_true, Bool.true_and, Bool.and_false, Bool.false_and, and_self, and_true, true_and, and_false, false_and, bi_T, bi_F, not_true_eq_false, Bool.false_eq_true, kg_1, kg_48, ir_1_0 hI, ir_1_1 hI, ir_1_2 hI, ir_1_3 hI, ir_1_4 hI, ir_1_5 hI, ir_1_6 hI, ir_1_7 hI, hT7]
    · rw [eq_Mod_bend_17]
      simp only [px_rd_mk, px_wr_mk, Int.reduceToNat, Int.toNat_natCast, if_true, if_false, Option.bind_some, px_up_cell, px_up_slot, px_up_eq, ne_eq, Nat.reduceEqDiff, not_false_eq_true, Int.reduceEq, Int.reduceLT, Int.reduceLE, Int.reduceNeg, decide_true, decide_false, Bool.and_true, Bool.true_and, Bool.and_false, Bool.false_and, and_self, and_true, true_and, and_false, false_and, bi_T, bi_F, not_true_eq_false, Bool.false_eq_true, kg_123, l4, hT7]
  · have hlt : ((T : Int) < 4) = True := by simp; omega
    have hne : ((T : Int) = 4) = False := by simp; omega
    have hb : (decide ((0 : Int) ≤ (T : Int)) && decide ((T : Int) < 4)) = true := by simp; omega
    have hT4 : T < 4 := by omega
    have w1 : px_w ((T : Int) + 1) = ((T + 1 : Nat) : Int) := by rw [px_w_id (by omega) (by omega)]; omega
    have F0 : Fr [49] [(48, 4)] h (px_up (px_up h 49 T x) 48 4 ((T + 1 : Nat) : Int)) := Fr_up (Fr_up (Fr_rf _ _ _) _ rfl) _ rfl
    have F : Fr [49, 135] [(48, 4), (123, 28)] h (px_up (px_up (px_up (px_up h 49 T x) 48 4 ((T + 1 : Nat) : Int)) 135 T x) 123 28 ((T + 1 : Nat) : Int)) := Fr_up (Fr_up (Fr_up (Fr_up (Fr_rf _ _ _) _ rfl) _ rfl) _ rfl) _ rfl
    refine ⟨((T + 1 : Nat) : Int), px_up (px_up h 49 T x) 48 4 ((T + 1 : Nat) : Int), px_up (px_up (px_up (px_up h 49 T x) 48 4 ((T + 1 : Nat) : Int)) 135 T x) 123 28 ((T + 1 : Nat) : Int), ?_, ?_, ⟨n, SP_F F rfl ⟨hn, h8, h9⟩, IR_Fr hI F (by decide), TP_F F rfl hT, FK_F F rfl hK, ST_F hn F rfl hS, ?_, RW_F F rfl hR, CR_F F rfl hC, KS_F F rfl hKs, WI_F hn F rfl hW, BK_F hn F rfl hB⟩, F0⟩
    · rw [eq_Tin_bend_17]
      simp only [px_rd_mk, px_wr_mk, Int.reduceToNat, Int.toNat_natCast, if_true, if_false, Option.bind_some, px_up_cell, px_up_slot, px_up_eq, ne_eq, Nat.reduceEqDiff, not_false_eq_true, Int.reduceEq, Int.reduceLT, Int.reduceLE, Int.reduceNeg, decide_true, decide_false, Bool.and_true, Bool.true_and, Bool.and_false, Bool.false_and, and_self, and_true, true_and, and_false, false_and, bi_T, bi_F, not_true_eq_false, Bool.false_eq_true, kg_1, kg_48, ka_49, ir_1_0 hI, ir_1_1 hI, ir_1_2 hI, ir_1_3 hI, ir_1_4 hI, ir_1_5 hI, ir_1_6 hI, ir_1_7 hI, ir_48_5 hI, ir_48_7 hI, hT6, hlt, hb, w1, decide_true, Bool.and_true, Int.natCast_nonneg]
    · rw [eq_Mod_bend_17]
      simp only [px_rd_mk, px_wr_mk, Int.reduceToNat, Int.toNat_natCast, if_true, if_false, Option.bind_some, px_up_cell, px_up_slot, px_up_eq, ne_eq, Nat.reduceEqDiff, not_false_eq_true, Int.reduceEq, Int.reduceLT, Int.reduceLE, Int.reduceNeg, decide_true, decide_false, Bool.and_true, Bool.true_and, Bool.and_false, Bool.false_and, and_self, and_true, true_and, and_false, false_and, bi_T, bi_F, not_true_eq_false, Bool.false_eq_true, kg_123, ka_135, ir_123_0 hI, ir_123_12 hI, ir_123_13 hI, ir_123_14 hI, ir_123_15 hI, ir_123_16 hI, ir_123_17 hI, ir_123_18 hI, ir_123_19 hI, ir_123_20 hI, ir_123_21 hI, ir_123_30 hI, ir_123_31 hI, ir_123_32 hI, ir_123_33 hI, ir_123_34 hI, ir_123_35 hI, ir_123_36 hI, ir_123_37 hI, ir_123_38 hI, ir_123_39 hI, ir_123_41 hI, ir_123_42 hI, ir_123_44 hI, ir_123_45 hI, ir_123_46 hI, ir_123_50 hI, ir_123_54 hI, ir_123_55 hI, ir_123_56 hI, ir_123_57 hI, ir_123_58 hI, ir_123_59 hI, ir_123_60 hI, ir_123_61 hI, ir_123_62 hI, l4, hT6, hne, hb, w1]
    · clear w1
      unfold LI
      rw [Fr_st hn F rfl (n + 1) (by omega) (by omega)]
      simp only [px_up_cell, px_up_slot, px_up_eq, ne_eq, Nat.reduceEqDiff, not_false_eq_true, px_up_at]
      refine ⟨l0, l1, l2, l3, ⟨trivial, by omega, by omega⟩, l5, fun i hi => ?_, l7⟩
      by_cases e : i = T
      · rw [if_pos e, if_pos e]; exact ⟨rfl, hx⟩
      · rw [if_neg e, if_neg e]; exact l6 i (by omega)
theorem C_bend {h : hp} (C : CI h) (x : Int) : AL h mm_Tin_bend mm_Mod_bend [(2, 1), (0, x)] [(2, 123), (0, x)] := by
  have C2 := C
  obtain ⟨n, ⟨hn, h8, h9⟩, hI, hT, hK, hS, hL, hR, hC, hKs, hW, hB⟩ := C2
  by_cases h1 : x = -1
  · obtain ⟨v, g, k, e1, e2, e3, F0⟩ := C_bend_in C x fun _ _ => Or.inl h1
    exact ⟨v, g, k, by rw [eq_Tin_bend_0, if_pos h1]; exact e1, by rw [eq_Mod_bend_0, if_pos h1]; exact e2, e3⟩
  · by_cases hx : 0 ≤ x ∧ x < h (n + 1) 5
    · obtain ⟨v, g, k, e1, e2, e3, F0⟩ := C_bend_in C x fun m hm => by
        have : m = n := by omega
        subst this
        exact Or.inr hx
      have hq : g (n + 1) 5 = h (n + 1) 5 := by rw [Fr_st hn F0 rfl (n + 1) (by omega) (by omega)]
      have S := ST_F hn F0 rfl hS
      have hx2 : 0 ≤ x ∧ x < g (n + 1) 5 := by rw [hq]; exact hx
      refine ⟨v, g, k, ?_, ?_, e3⟩
      · rw [eq_Tin_bend_0, if_neg h1]
        simp only [px_rd_mk, px_wr_mk, Int.reduceToNat, Int.toNat_natCast, if_true, if_false, Option.bind_some, px_up_cell, px_up_slot, px_up_eq, ne_eq, Nat.reduceEqDiff, not_false_eq_true, Int.reduceEq, Int.reduceLT, Int.reduceLE, Int.reduceNeg, decide_true, decide_false, Bool.and_true, Bool.true_and, Bool.and_false, Bool.false_and, and_self, and_true, true_and, and_false, false_and, bi_T, bi_F, not_true_eq_false, Bool.false_eq_true, kg_1, R_one hn h8 hI hS (y := 5) (k := 5) rfl (by decide) x, bi_t hx]
        exact e1
      · rw [eq_Mod_bend_0, if_neg h1]
        simp only [px_rd_mk, px_wr_mk, Int.reduceToNat, Int.toNat_natCast, if_true, if_false, Option.bind_some, px_up_cell, px_up_slot, px_up_eq, ne_eq, Nat.reduceEqDiff, not_false_eq_true, Int.reduceEq, Int.reduceLT, Int.reduceLE, Int.reduceNeg, decide_true, decide_false, Bool.and_true, Bool.true_and, Bool.and_false, Bool.false_and, and_self, and_true, true_and, and_false, false_and, bi_T, bi_F, not_true_eq_false, Bool.false_eq_true, kg_123, R_is (IR_Fr hI F0 (by decide)) S (y := 5) (k := 5) rfl (by decide) x, bi_t hx2]
        exact e2
    · refine AL_same C (-2) ?_ ?_
      · rw [eq_Tin_bend_0, if_neg h1]
        simp only [px_rd_mk, px_wr_mk, Int.reduceToNat, Int.toNat_natCast, if_true, if_false, Option.bind_some, px_up_cell, px_up_slot, px_up_eq, ne_eq, Nat.reduceEqDiff, not_false_eq_true, Int.reduceEq, Int.reduceLT, Int.reduceLE, Int.reduceNeg, decide_true, decide_false, Bool.and_true, Bool.true_and, Bool.and_false, Bool.false_and, and_self, and_true, true_and, and_false, false_and, bi_T, bi_F, not_true_eq_false, Bool.false_eq_true, kg_1, R_one hn h8 hI hS (y := 5) (k := 5) rfl (by decide) x, bi_f hx]
      · rw [eq_Mod_bend_0, if_neg h1]
        simp only [px_rd_mk, px_wr_mk, Int.reduceToNat, Int.toNat_natCast, if_true, if_false, Option.bind_some, px_up_cell, px_up_slot, px_up_eq, ne_eq, Nat.reduceEqDiff, not_false_eq_true, Int.reduceEq, Int.reduceLT, Int.reduceLE, Int.reduceNeg, decide_true, decide_false, Bool.and_true, Bool.true_and, Bool.and_false, Bool.false_and, and_self, and_true, true_and, and_false, false_and, bi_T, bi_F, not_true_eq_false, Bool.false_eq_true, kg_123, R_is hI hS (y := 5) (k := 5) rfl (by decide) x, bi_f hx]
theorem C_line {h : hp} (C : CI h) (x y z t : Int) : AL h mm_Tin_line mm_Mod_line [(2, 1), (0, x), (0, y), (0, z), (0, t)] [(2, 123), (0, x), (0, y), (0, z), (0, t)] := by
  have C2 := C
  obtain ⟨n, ⟨hn, h8, h9⟩, hI, hT, hK, hS, hL, hR, hC, hKs, hW, hB⟩ := C2
  by_cases hx : 0 ≤ x ∧ x < h (n + 1) 0
  · by_cases hy : 0 ≤ y ∧ y < h (n + 1) 1
    · by_cases hz : 1 ≤ z ∧ z ≤ 400
      · by_cases ht : 0 ≤ t ∧ t ≤ 99
        · obtain ⟨l0, l1, l2, l3, l4, l5, l6, l7⟩ := hL
          have F0 : Fr [] [(48, 0), (48, 1), (48, 2), (48, 3)] h (px_up (px_up (px_up (px_up h 48 0 x) 48 1 y) 48 2 z) 48 3 t) := Fr_up (Fr_up (Fr_up (Fr_up (Fr_rf _ _ _) _ rfl) _ rfl) _ rfl) _ rfl
          have F : Fr [] [(48, 0), (48, 1), (48, 2), (48, 3), (123, 24), (123, 25), (123, 26), (123, 27)] h (px_up (px_up (px_up (px_up (px_up (px_up (px_up (px_up h 48 0 x) 48 1 y) 48 2 z) 48 3 t) 123 24 x) 123 25 y) 123 26 z) 123 27 t) := Fr_up (Fr_up (Fr_up (Fr_up (Fr_up (Fr_up (Fr_up (Fr_up (Fr_rf _ _ _) _ rfl) _ rfl) _ rfl) _ rfl) _ rfl) _ rfl) _ rfl) _ rfl
          have S := ST_F hn F0 rfl hS
          have I0 := IR_Fr hI F0 (by decide)
          have q0 := Fr_st hn F0 rfl (n + 1) (by omega) (by omega)
          have i0 := R_is I0 S (y := 0) (k := 0) rfl (by decide) x
          have i1 := R_is I0 S (y := 1) (k := 1) rfl (by decide) y
          rw [q0] at i0 i1
          refine ⟨1, px_up (px_up (px_up (px_up h 48 0 x) 48 1 y) 48 2 z) 48 3 t, px_up (px_up (px_up (px_up (px_up (px_up (px_up (px_up h 48 0 x) 48 1 y) 48 2 z) 48 3 t) 123 24 x) 123 25 y) 123 26 z) 123 27 t, ?_, ?_, ⟨n, SP_F F rfl ⟨hn, h8, h9⟩, IR_Fr hI F (by decide), TP_F F rfl hT, FK_F F rfl hK, ST_F hn F rfl hS, ?_, RW_F F rfl hR, CR_F F rfl hC, KS_F F rfl hKs, WI_F hn F rfl hW, BK_F hn F rfl hB⟩⟩
          · rw [eq_Tin_line_0]
            simp only [px_rd_mk, px_wr_mk, Int.reduceToNat, Int.toNat_natCast, if_true, if_false, Option.bind_some, px_up_cell, px_up_slot, px_up_eq, ne_eq, Nat.reduceEqDiff, not_false_eq_true, Int.reduceEq, Int.reduceLT, Int.reduceLE, Int.reduceNeg, decide_true, decide_false, Bool.and_true, Bool.true_and, Bool.and_false, Bool.false_and, and_self, and_true, true_and, and_false, false_and, bi_T, bi_F, not_true_eq_false, Bool.false_eq_true, kg_1, kg_48, R_one hn h8 hI hS (y := 0) (k := 0) rfl (by decide) x, bi_t hx, R_one hn h8 hI hS (y := 1) (k := 1) rfl (by decide) y, bi_t hy, R_Tin_within, bi_t hz, bi_t ht, ir_1_0 hI, ir_1_1 hI, ir_1_2 hI, ir_1_3 hI, ir_1_4 hI, ir_1_5 hI, ir_1_6 hI, ir_1_7 hI, eq_Tin_line_79]
          · rw [eq_Mod_line_0]
            simp only [px_rd_mk, px_wr_mk, Int.reduceToNat, Int.toNat_natCast, if_true, if_false, Option.bind_some, px_up_cell, px_up_slot, px_up_eq, ne_eq, Nat.reduceEqDiff, not_false_eq_true, Int.reduceEq, Int.reduceLT, Int.reduceLE, Int.reduceNeg, decide_true, decide_false, Bool.and_true, Bool.true_and, Bool.and_false, Bool.false_and, and_self, and_true, true_and, and_false, false_and, bi_T, bi_F, not_true_eq_false, Bool.false_eq_true, kg_123, i0, bi_t hx, i1, bi_t hy, R_Mod_in, bi_t hz, bi_t ht, eq_Mod_line_64]
          · unfold LI
            rw [Fr_st hn F rfl (n + 1) (by omega) (by omega)]
            simp only [px_up_cell, px_up_slot, px_up_eq, ne_eq, Nat.reduceEqDiff, not_false_eq_true]
            exact ⟨⟨trivial, hx.1, Or.inr hx.2⟩, ⟨trivial, hy.1, Or.inr hy.2⟩, ⟨trivial, hz⟩, ⟨trivial, ht⟩, l4, l5, l6, l7⟩
        · refine AL_same C (-2) ?_ ?_
          · rw [eq_Tin_line_0]
            simp only [px_rd_mk, px_wr_mk, Int.reduceToNat, Int.toNat_natCast, if_true, if_false, Option.bind_some, px_up_cell, px_up_slot, px_up_eq, ne_eq, Nat.reduceEqDiff, not_false_eq_true, Int.reduceEq, Int.reduceLT, Int.reduceLE, Int.reduceNeg, decide_true, decide_false, Bool.and_true, Bool.true_and, Bool.and_false, Bool.false_and, and_self, and_true, true_and, and_false, false_and, bi_T, bi_F, not_true_eq_false, Bool.false_eq_true, kg_1, R_one hn h8 hI hS (y := 0) (k := 0) rfl (by decide) x, bi_t hx, R_one hn h8 hI hS (y := 1) (k := 1) rfl (by decide) y, bi_t hy, R_Tin_within, bi_t hz, bi_f ht]
          · rw [eq_Mod_line_0]
            simp only [px_rd_mk, px_wr_mk, Int.reduceToNat, Int.toNat_natCast, if_true, if_false, Option.bind_some, px_up_cell, px_up_slot, px_up_eq, ne_eq, Nat.reduceEqDiff, not_false_eq_true, Int.reduceEq, Int.reduceLT, Int.reduceLE, Int.reduceNeg, decide_true, decide_false, Bool.and_true, Bool.true_and, Bool.and_false, Bool.false_and, and_self, and_true, true_and, and_false, false_and, bi_T, bi_F, not_true_eq_false, Bool.false_eq_true, kg_123, R_is hI hS (y := 0) (k := 0) rfl (by decide) x, bi_t hx, R_is hI hS (y := 1) (k := 1) rfl (by decide) y, bi_t hy, R_Mod_in, bi_t hz, bi_f ht]
      · refine AL_same C (-2) ?_ ?_
        · rw [eq_Tin_line_0]
          simp only [px_rd_mk, px_wr_mk, Int.reduceToNat, Int.toNat_natCast, if_true, if_false, Option.bind_some, px_up_cell, px_up_slot, px_up_eq, ne_eq, Nat.reduceEqDiff, not_false_eq_true, Int.reduceEq, Int.reduceLT, Int.reduceLE, Int.reduceNeg, decide_true, decide_false, Bool.and_true, Bool.true_and, Bool.and_false, Bool.false_and, and_self, and_true, true_and, and_false, false_and, bi_T, bi_F, not_true_eq_false, Bool.false_eq_true, kg_1, R_one hn h8 hI hS (y := 0) (k := 0) rfl (by decide) x, bi_t hx, R_one hn h8 hI hS (y := 1) (k := 1) rfl (by decide) y, bi_t hy, R_Tin_within, bi_f hz]
        · rw [eq_Mod_line_0]
          simp only [px_rd_mk, px_wr_mk, Int.reduceToNat, Int.toNat_natCast, if_true, if_false, Option.bind_some, px_up_cell, px_up_slot, px_up_eq, ne_eq, Nat.reduceEqDiff, not_false_eq_true, Int.reduceEq, Int.reduceLT, Int.reduceLE, Int.reduceNeg, decide_true, decide_false, Bool.and_true, Bool.true_and, Bool.and_false, Bool.false_and, and_self, and_true, true_and, and_false, false_and, bi_T, bi_F, not_true_eq_false, Bool.false_eq_true, kg_123, R_is hI hS (y := 0) (k := 0) rfl (by decide) x, bi_t hx, R_is hI hS (y := 1) (k := 1) rfl (by decide) y, bi_t hy, R_Mod_in, bi_f hz]
    · refine AL_same C (-2) ?_ ?_
      · rw [eq_Tin_line_0]
        simp only [px_rd_mk, px_wr_mk, Int.reduceToNat, Int.toNat_natCast, if_true, if_false, Option.bind_some, px_up_cell, px_up_slot, px_up_eq, ne_eq, Nat.reduceEqDiff, not_false_eq_true, Int.reduceEq, Int.reduceLT, Int.reduceLE, Int.reduceNeg, decide_true, decide_false, Bool.and_true, Bool.true_and, Bool.and_false, Bool.false_and, and_self, and_true, true_and, and_false, false_and, bi_T, bi_F, not_true_eq_false, Bool.false_eq_true, kg_1, R_one hn h8 hI hS (y := 0) (k := 0) rfl (by decide) x, bi_t hx, R_one hn h8 hI hS (y := 1) (k := 1) rfl (by decide) y, bi_f hy]
      · rw [eq_Mod_line_0]
        simp only [px_rd_mk, px_wr_mk, Int.reduceToNat, Int.toNat_natCast, if_true, if_false, Option.bind_some, px_up_cell, px_up_slot, px_up_eq, ne_eq, Nat.reduceEqDiff, not_false_eq_true, Int.reduceEq, Int.reduceLT, Int.reduceLE, Int.reduceNeg, decide_true, decide_false, Bool.and_true, Bool.true_and, Bool.and_false, Bool.false_and, and_self, and_true, true_and, and_false, false_and, bi_T, bi_F, not_true_eq_false, Bool.false_eq_true, kg_123, R_is hI hS (y := 0) (k := 0) rfl (by decide) x, bi_t hx, R_is hI hS (y := 1) (k := 1) rfl (by decide) y, bi_f hy]
  · refine AL_same C (-2) ?_ ?_
    · rw [eq_Tin_line_0]
      simp only [px_rd_mk, px_wr_mk, Int.reduceToNat, Int.toNat_natCast, if_true, if_false, Option.bind_some, px_up_cell, px_up_slot, px_up_eq, ne_eq, Nat.reduceEqDiff, not_false_eq_true, Int.reduceEq, Int.reduceLT, Int.reduceLE, Int.reduceNeg, decide_true, decide_false, Bool.and_true, Bool.true_and, Bool.and_false, Bool.false_and, and_self, and_true, true_and, and_false, false_and, bi_T, bi_F, not_true_eq_false, Bool.false_eq_true, kg_1, R_one hn h8 hI hS (y := 0) (k := 0) rfl (by decide) x, bi_f hx]
    · rw [eq_Mod_line_0]
      simp only [px_rd_mk, px_wr_mk, Int.reduceToNat, Int.toNat_natCast, if_true, if_false, Option.bind_some, px_up_cell, px_up_slot, px_up_eq, ne_eq, Nat.reduceEqDiff, not_false_eq_true, Int.reduceEq, Int.reduceLT, Int.reduceLE, Int.reduceNeg, decide_true, decide_false, Bool.and_true, Bool.true_and, Bool.and_false, Bool.false_and, and_self, and_true, true_and, and_false, false_and, bi_T, bi_F, not_true_eq_false, Bool.false_eq_true, kg_123, R_is hI hS (y := 0) (k := 0) rfl (by decide) x, bi_f hx]
