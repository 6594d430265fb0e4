/-! right; feed. -/
def ctn (f : Nat → Int) (x : Int) : Nat → Nat → Nat
  | _, 0 => 0
  | i, n + 1 => (if f i = x then 1 else 0) + ctn f x (i + 1) n
theorem mend_loop {h : hp} (hI : IR h) {M : Nat} (hM : h 83 2 = (M : Int)) (h20 : M ≤ 20) (x1 x2 x3 : Int) (n : Nat) : ∀ i c : Nat, i + n = M → c ≤ i → px_R (mm_Book_mend, 51, [(2, 83), (0, x1), (0, x2), (0, x3), (0, (c : Int)), (0, (i : Int))], [], (K0, h)) = some (((c + ctn (h 88) x2 i n : Nat) : Int), (K0, h)) := by
  induction n with
  | zero =>
    intro i c hi hc
    have hlt : ((i : Int) < (M : Int)) = False := by simp; omega
    rw [eq_Book_mend_51]
    simp only [px_rd_mk, px_wr_mk, Int.reduceToNat, Int.toNat_natCast, if_true, if_false, Option.bind_some, px_up_cell, px_up_slot, px_up_eq, ne_eq, Nat.reduceEqDiff, not_false_eq_true, Int.reduceEq, Int.reduceLT, Int.reduceLE, Int.reduceNeg, decide_true, decide_false, Bool.and_true, Bool.true_and, Bool.and_false, Bool.false_and, and_self, and_true, true_and, and_false, false_and, bi_T, bi_F, not_true_eq_false, Bool.false_eq_true, kg_83, hM, hlt]
    rfl
  | succ n ih =>
    intro i c hi hc
    have hlt : ((i : Int) < (M : Int)) = True := by simp; omega
    have hb : (decide ((0 : Int) ≤ (i : Int)) && decide ((i : Int) < 20)) = true := by simp; omega
    have w3 : px_w ((i : Int) + 1) = ((i + 1 : Nat) : Int) := by rw [px_w_id (by omega) (by omega)]; omega
    have w4 : px_w ((c : Int) + 1) = ((c + 1 : Nat) : Int) := by rw [px_w_id (by omega) (by omega)]; omega
    have w5 : px_w ((c : Int) + 0) = (c : Int) := by rw [px_w_id (by omega) (by omega)]; omega
    have i1 := ih (i + 1) (c + 1) (by omega) (by omega)
    have i2 := ih (i + 1) c (by omega) (by omega)
    rw [eq_Book_mend_51]
    simp only [px_rd_mk, px_wr_mk, Int.reduceToNat, Int.toNat_natCast, if_true, if_false, Option.bind_some, px_up_cell, px_up_slot, px_up_eq, ne_eq, Nat.reduceEqDiff, not_false_eq_true, Int.reduceEq, Int.reduceLT, Int.reduceLE, Int.reduceNeg, decide_true, decide_false, Bool.and_true, Bool.true_and, Bool.and_false, Bool.false_and, and_self, and_true, true_and, and_false, false_and, bi_T, bi_F, not_true_eq_false, Bool.false_eq_true, kg_83, ka_88, ir_83_3 hI, ir_83_4 hI, ir_83_5 hI, ir_83_6 hI, ir_83_7 hI, ir_83_8 hI, ir_83_12 hI, ir_83_13 hI, ir_83_14 hI, hM, hlt, hb, w3, w4, w5, i1, i2]
    by_cases e : h 88 i = x2
    · rw [if_pos e, ctn, if_pos e, Nat.add_assoc]
    · rw [if_neg e, ctn, if_neg e, Nat.zero_add]
theorem mright_loop {h : hp} (hI : IR h) {M : Nat} (hM : h 123 52 = (M : Int)) (h20 : M ≤ 20) (x1 x2 x3 : Int) (n : Nat) : ∀ i c : Nat, i + n = M → c ≤ i → px_R (mm_Mod_right_1, 103, [(2, 123), (0, x1), (0, x2), (0, x3), (0, (c : Int)), (0, (i : Int))], [], (K0, h)) = some (((c + ctn (h 155) x2 i n : Nat) : Int), (K0, h)) := by
  induction n with
  | zero =>
    intro i c hi hc
    have hlt : ((i : Int) < (M : Int)) = False := by simp; omega
    rw [eq_Mod_right_1_103]
    simp only [px_rd_mk, px_wr_mk, Int.reduceToNat, Int.toNat_natCast, if_true, if_false, Option.bind_some, px_up_cell, px_up_slot, px_up_eq, ne_eq, Nat.reduceEqDiff, not_false_eq_true, Int.reduceEq, Int.reduceLT, Int.reduceLE, Int.reduceNeg, decide_true, decide_false, Bool.and_true, Bool.true_and, Bool.and_false, Bool.false_and, and_self, and_true, true_and, and_false, false_and, bi_T, bi_F, not_true_eq_false, Bool.false_eq_true, kg_123, hM, hlt]
    rfl
  | succ n ih =>
    intro i c hi hc
    have hlt : ((i : Int) < (M : Int)) = True := by simp; omega
    have hb : (decide ((0 : Int) ≤ (i : Int)) && decide ((i : Int) < 20)) = true := by simp; omega
    have w3 : px_w ((i : Int) + 1) = ((i + 1 : Nat) : Int) := by rw [px_w_id (by omega) (by omega)]; omega
    have w4 : px_w ((c : Int) + 1) = ((c + 1 : Nat) : Int) := by rw [px_w_id (by omega) (by omega)]; omega
    have w5 : px_w ((c : Int) + 0) = (c : Int) := by rw [px_w_id (by omega) (by omega)]; omega
    have i1 := ih (i + 1) (c + 1) (by omega) (by omega)
    have i2 := ih (i + 1) c (by omega) (by omega)
    rw [eq_Mod_right_1_103]
    simp only [px_rd_mk, px_wr_mk, Int.reduceToNat, Int.toNat_natCast, if_true, if_false, Option.bind_some, px_up_cell, px_up_slot, px_up_eq, ne_eq, Nat.reduceEqDiff, not_false_eq_true, Int.reduceEq, Int.reduceLT, Int.reduceLE, Int.reduceNeg, decide_true, decide_false, Bool.and_true, Bool.true_and, Bool.and_false, Bool.false_and, and_self, and_true, true_and, and_false, false_and, bi_T, bi_F, not_true_eq_false, Bool.false_eq_true, kg_123, ka_155, ir_123_0 hI, ir_123_12 hI, ir_123_13 hI, ir_123_14 hI, ir_123_15 hI, ir_123_16 hI, ir_123_17 hI, ir_123_18 hI, ir_123_19 hI, ir_123_20 hI, ir_123_21 hI, ir_123_30 hI, ir_123_31 hI, ir_123_32 hI, ir_123_33 hI, ir_123_34 hI, ir_123_35 hI, ir_123_36 hI, ir_123_37 hI, ir_123_38 hI, ir_123_39 hI, ir_123_41 hI, ir_123_42 hI, ir_123_44 hI, ir_123_45 hI, ir_123_46 hI, ir_123_50 hI, ir_123_54 hI, ir_123_55 hI, ir_123_56 hI, ir_123_57 hI, ir_123_58 hI, ir_123_59 hI, ir_123_60 hI, ir_123_61 hI, ir_123_62 hI, hM, hlt, hb, w3, w4, w5, i1, i2]
    by_cases e : h 155 i = x2
    · rw [if_pos e, ctn, if_pos e, Nat.add_assoc]
    · rw [if_neg e, ctn, if_neg e, Nat.zero_add]
theorem C_right {h : hp} (C : CI h) (x y z : Int) : AL h mm_Tin_right mm_Mod_right_1 [(2, 1), (0, x), (0, y), (0, z)] [(2, 123), (0, x), (0, y), (0, z), (9, 0), (9, 0)] := by
  have C2 := C
  obtain ⟨n, ⟨hn, h8, h9⟩, hI, hT, hK, hS, hL, hR, hC, hKs, hW, hB⟩ := C2
  obtain ⟨⟨b0, b0a, b0b⟩, ⟨b1, b1a, b1b⟩, ⟨b2, b2a, b2b⟩, b3, b4, b5⟩ := hB
  have o2 := fun x => R_one hn h8 hI hS (y := 2) (k := 2) rfl (by decide) x
  have i2 := fun x => R_is hI hS (y := 2) (k := 2) rfl (by decide) x
  have uy : -2147483648 ≤ h 83 1 - 1 ∧ h 83 1 - 1 < 2147483648 := by omega
  by_cases hx : h 83 0 ≤ x ∧ x ≤ 999
  · by_cases hy : 0 ≤ y ∧ y ≤ h 83 1 - 1
    · by_cases hz : 0 ≤ z ∧ z < h (n + 1) 2
      · obtain ⟨L, hL1⟩ := Int.eq_ofNat_of_zero_le b2a
        by_cases h20 : L = 20
        · subst h20
          have hL2 : h 83 2 = 20 := hL1
          refine AL_same C (-3) ?_ ?_
          · rw [eq_Tin_right_0]
            simp only [px_rd_mk, px_wr_mk, Int.reduceToNat, Int.toNat_natCast, if_true, if_false, Option.bind_some, px_up_cell, px_up_slot, px_up_eq, ne_eq, Nat.reduceEqDiff, not_false_eq_true, Int.reduceEq, Int.reduceLT, Int.reduceLE, Int.reduceNeg, decide_true, decide_false, Bool.and_true, Bool.true_and, Bool.and_false, Bool.false_and, and_self, and_true, true_and, and_false, false_and, bi_T, bi_F, not_true_eq_false, Bool.false_eq_true, kg_1, kg_83, R_isStep hI, bi_t hx, R_Tin_within, o2, px_w_n uy, bi_t hy, bi_t hz, ir_1_0 hI, ir_1_1 hI, ir_1_2 hI, ir_1_3 hI, ir_1_4 hI, ir_1_5 hI, ir_1_6 hI, ir_1_7 hI, hL2]
          · rw [eq_Mod_right_1_0]
            simp only [px_rd_mk, px_wr_mk, Int.reduceToNat, Int.toNat_natCast, if_true, if_false, Option.bind_some, px_up_cell, px_up_slot, px_up_eq, ne_eq, Nat.reduceEqDiff, not_false_eq_true, Int.reduceEq, Int.reduceLT, Int.reduceLE, Int.reduceNeg, decide_true, decide_false, Bool.and_true, Bool.true_and, Bool.and_false, Bool.false_and, and_self, and_true, true_and, and_false, false_and, bi_T, bi_F, not_true_eq_false, Bool.false_eq_true, kg_123, R_Mod_in, b0, bi_t hx, i2, b1, px_w_n uy, bi_t hy, bi_t hz, b2, hL2]
        · have hlt : ((L : Int) < 20) = True := by simp; omega
          have hne : ((L : Int) = 20) = False := by simp; omega
          have u1 : -2147483648 ≤ (L : Int) + 1 ∧ (L : Int) + 1 < 2147483648 := by omega
          have u3 : (L : Int) + 1 = ((L + 1 : Nat) : Int) := by omega
          have F0 : Fr [87, 88, 89] [(83, 0), (83, 2)] h (px_up (px_up (px_up (px_up (px_up h 83 0 x) 87 L x) 88 L y) 89 L z) 83 2 ((L + 1 : Nat) : Int)) := Fr_up (Fr_up (Fr_up (Fr_up (Fr_up (Fr_rf _ _ _) _ rfl) _ rfl) _ rfl) _ rfl) _ rfl
          have F : Fr [87, 88, 89, 154, 155, 156] [(83, 0), (83, 2), (123, 53), (123, 52)] h (px_up (px_up (px_up (px_up (px_up (px_up (px_up (px_up (px_up (px_up h 83 0 x) 87 L x) 88 L y) 89 L z) 83 2 ((L + 1 : Nat) : Int)) 123 53 x) 154 L x) 155 L y) 156 L z) 123 52 ((L + 1 : Nat) : Int)) := Fr_up (Fr_up (Fr_up (Fr_up (Fr_up (Fr_up (Fr_up (Fr_up (Fr_up (Fr_up (Fr_rf _ _ _) _ rfl) _ rfl) _ rfl) _ rfl) _ rfl) _ rfl) _ rfl) _ rfl) _ rfl) _ rfl
          have q0 := Fr_st hn F0 rfl (n + 1) (by omega) (by omega)
          have i3 := fun x => R_is (IR_Fr hI F0 (by decide)) (ST_F hn F0 rfl hS) (y := 2) (k := 2) rfl (by decide) x
          rw [q0] at i3
          have l1 := mend_loop (IR_Fr hI F0 (by decide)) (M := L + 1) rfl (by omega) x y z (L + 1) 0 0 (by omega) (by omega)
          have l2 := mright_loop (IR_Fr hI F (by decide)) (M := L + 1) rfl (by omega) x y z (L + 1) 0 0 (by omega) (by omega)
          have e88 : px_up (px_up (px_up (px_up (px_up (px_up (px_up (px_up (px_up (px_up h 83 0 x) 87 L x) 88 L y) 89 L z) 83 2 ((L + 1 : Nat) : Int)) 123 53 x) 154 L x) 155 L y) 156 L z) 123 52 ((L + 1 : Nat) : Int) 155 = px_up (px_up (px_up (px_up (px_up h 83 0 x) 87 L x) 88 L y) 89 L z) 83 2 ((L + 1 : Nat) : Int) 88 := by
            funext b
            simp only [px_up_cell, px_up_slot, px_up_eq, ne_eq, Nat.reduceEqDiff, not_false_eq_true, px_up_at]
            rw [(b3 b).2.2.2.2.1]
          rw [e88] at l2
          generalize hv : ((0 + ctn (px_up (px_up (px_up (px_up (px_up h 83 0 x) 87 L x) 88 L y) 89 L z) 83 2 ((L + 1 : Nat) : Int) 88) y 0 (L + 1) : Nat) : Int) = v at l1 l2
          have w1 : px_w ((L : Int) + 1) = ((L + 1 : Nat) : Int) := (px_w_n u1).trans u3
          refine ⟨v, px_up (px_up (px_up (px_up (px_up h 83 0 x) 87 L x) 88 L y) 89 L z) 83 2 ((L + 1 : Nat) : Int), px_up (px_up (px_up (px_up (px_up (px_up (px_up (px_up (px_up (px_up h 83 0 x) 87 L x) 88 L y) 89 L z) 83 2 ((L + 1 : Nat) : Int)) 123 53 x) 154 L x) 155 L y) 156 L z) 123 52 ((L + 1 : Nat) : Int), ?_, ?_, ⟨n, SP_F F rfl ⟨hn, h8, h9⟩, IR_Fr hI F (by decide), TP_F F rfl hT, FK_F F rfl hK, ST_F hn F rfl hS, LI_F hn F rfl hL, RW_F F rfl hR, CR_F F rfl hC, KS_F F rfl hKs, WI_F hn F rfl hW, ?_⟩⟩
          · rw [eq_Tin_right_0]
            simp only [px_rd_mk, px_wr_mk, Int.reduceToNat, Int.toNat_natCast, if_true, if_false, Option.bind_some, px_up_cell, px_up_slot, px_up_eq, ne_eq, Nat.reduceEqDiff, not_false_eq_true, Int.reduceEq, Int.reduceLT, Int.reduceLE, Int.reduceNeg, decide_true, decide_false, Bool.and_true, Bool.true_and, Bool.and_false, Bool.false_and, and_self, and_true, true_and, and_false, false_and, bi_T, bi_F, not_true_eq_false, Bool.false_eq_true, kg_1, kg_83, R_isStep hI, bi_t hx, R_Tin_within, o2, px_w_n uy, bi_t hy, bi_t hz, ir_1_0 hI, ir_1_1 hI, ir_1_2 hI, ir_1_3 hI, ir_1_4 hI, ir_1_5 hI, ir_1_6 hI, ir_1_7 hI, hL1, hlt]
            rw [eq_Book_mend_0]
            simp only [px_rd_mk, px_wr_mk, Int.reduceToNat, Int.toNat_natCast, if_true, if_false, Option.bind_some, px_up_cell, px_up_slot, px_up_eq, ne_eq, Nat.reduceEqDiff, not_false_eq_true, Int.reduceEq, Int.reduceLT, Int.reduceLE, Int.reduceNeg, decide_true, decide_false, Bool.and_true, Bool.true_and, Bool.and_false, Bool.false_and, and_self, and_true, true_and, and_false, false_and, bi_T, bi_F, not_true_eq_false, Bool.false_eq_true, kg_1, kg_83, ka_87, ka_88, ka_89, ir_83_3 hI, ir_83_4 hI, ir_83_5 hI, ir_83_6 hI, ir_83_7 hI, ir_83_8 hI, ir_83_12 hI, ir_83_13 hI, ir_83_14 hI, hL1, hlt, Int.natCast_nonneg]
            rw [eq_Book_mend_35]
            simp only [px_rd_mk, px_wr_mk, Int.reduceToNat, Int.toNat_natCast, if_true, if_false, Option.bind_some, px_up_cell, px_up_slot, px_up_eq, ne_eq, Nat.reduceEqDiff, not_false_eq_true, Int.reduceEq, Int.reduceLT, Int.reduceLE, Int.reduceNeg, decide_true, decide_false, Bool.and_true, Bool.true_and, Bool.and_false, Bool.false_and, and_self, and_true, true_and, and_false, false_and, bi_T, bi_F, not_true_eq_false, Bool.false_eq_true, kg_83, hL1, w1]
            rw [show (0 : Int) = ((0 : Nat) : Int) from rfl, l1]
            rfl
          · rw [eq_Mod_right_1_0]
            simp only [px_rd_mk, px_wr_mk, Int.reduceToNat, Int.toNat_natCast, if_true, if_false, Option.bind_some, px_up_cell, px_up_slot, px_up_eq, ne_eq, Nat.reduceEqDiff, not_false_eq_true, Int.reduceEq, Int.reduceLT, Int.reduceLE, Int.reduceNeg, decide_true, decide_false, Bool.and_true, Bool.true_and, Bool.and_false, Bool.false_and, and_self, and_true, true_and, and_false, false_and, bi_T, bi_F, not_true_eq_false, Bool.false_eq_true, kg_123, ka_154, ka_155, ka_156, R_Mod_in, b0, bi_t hx, i3, b1, px_w_n uy, bi_t hy, bi_t hz, ir_123_0 hI, ir_123_12 hI, ir_123_13 hI, ir_123_14 hI, ir_123_15 hI, ir_123_16 hI, ir_123_17 hI, ir_123_18 hI, ir_123_19 hI, ir_123_20 hI, ir_123_21 hI, ir_123_30 hI, ir_123_31 hI, ir_123_32 hI, ir_123_33 hI, ir_123_34 hI, ir_123_35 hI, ir_123_36 hI, ir_123_37 hI, ir_123_38 hI, ir_123_39 hI, ir_123_41 hI, ir_123_42 hI, ir_123_44 hI, ir_123_45 hI, ir_123_46 hI, ir_123_50 hI, ir_123_54 hI, ir_123_55 hI, ir_123_56 hI, ir_123_57 hI, ir_123_58 hI, ir_123_59 hI, ir_123_60 hI, ir_123_61 hI, ir_123_62 hI, b2, hL1, hne, hlt, Int.natCast_nonneg]
            rw [eq_Mod_right_1_87]
            simp only [px_rd_mk, px_wr_mk, Int.reduceToNat, Int.toNat_natCast, if_true, if_false, Option.bind_some, px_up_cell, px_up_slot, px_up_eq, ne_eq, Nat.reduceEqDiff, not_false_eq_true, Int.reduceEq, Int.reduceLT, Int.reduceLE, Int.reduceNeg, decide_true, decide_false, Bool.and_true, Bool.true_and, Bool.and_false, Bool.false_and, and_self, and_true, true_and, and_false, false_and, bi_T, bi_F, not_true_eq_false, Bool.false_eq_true, kg_123, b2, hL1, w1]
            exact l2
          · clear w1
            unfold BK
            rw [Fr_st hn F rfl (n + 1) (by omega) (by omega)]
            simp only [px_up_cell, px_up_slot, px_up_eq, ne_eq, Nat.reduceEqDiff, not_false_eq_true, px_up_at]
            refine ⟨⟨trivial, by omega, hx.2⟩, ⟨b1, b1a, b1b⟩, ⟨trivial, by omega, by omega⟩, fun i => ?_, b4, fun i hi => ?_⟩
            · obtain ⟨c1, c2, c3, c4, c5, c6⟩ := b3 i
              rw [c4, c5, c6]
              exact ⟨c1, c2, c3, rfl, rfl, rfl⟩
            · by_cases e : i = L
              · rw [if_pos e]; exact hz
              · rw [if_neg e]; exact b5 i (by omega)
      · refine AL_same C (-2) ?_ ?_
        · rw [eq_Tin_right_0]
          simp only [px_rd_mk, px_wr_mk, Int.reduceToNat, Int.toNat_natCast, if_true, if_false, Option.bind_some, px_up_cell, px_up_slot, px_up_eq, ne_eq, Nat.reduceEqDiff, not_false_eq_true, Int.reduceEq, Int.reduceLT, Int.reduceLE, Int.reduceNeg, decide_true, decide_false, Bool.and_true, Bool.true_and, Bool.and_false, Bool.false_and, and_self, and_true, true_and, and_false, false_and, bi_T, bi_F, not_true_eq_false, Bool.false_eq_true, kg_1, kg_83, R_isStep hI, bi_t hx, R_Tin_within, ir_1_0 hI, ir_1_1 hI, ir_1_2 hI, ir_1_3 hI, ir_1_4 hI, ir_1_5 hI, ir_1_6 hI, ir_1_7 hI, px_w_n uy, bi_t hy, o2, bi_f hz]
        · rw [eq_Mod_right_1_0]
          simp only [px_rd_mk, px_wr_mk, Int.reduceToNat, Int.toNat_natCast, if_true, if_false, Option.bind_some, px_up_cell, px_up_slot, px_up_eq, ne_eq, Nat.reduceEqDiff, not_false_eq_true, Int.reduceEq, Int.reduceLT, Int.reduceLE, Int.reduceNeg, decide_true, decide_false, Bool.and_true, Bool.true_and, Bool.and_false, Bool.false_and, and_self, and_true, true_and, and_false, false_and, bi_T, bi_F, not_true_eq_false, Bool.false_eq_true, kg_123, R_Mod_in, b0, bi_t hx, b1, px_w_n uy, bi_t hy, i2, bi_f hz]
    · refine AL_same C (-2) ?_ ?_
      · rw [eq_Tin_right_0]
        simp only [px_rd_mk, px_wr_mk, Int.reduceToNat, Int.toNat_natCast, if_true, if_false, Option.bind_some, px_up_cell, px_up_slot, px_up_eq, ne_eq, Nat.reduceEqDiff, not_false_eq_true, Int.reduceEq, Int.reduceLT, Int.reduceLE, Int.reduceNeg, decide_true, decide_false, Bool.and_true, Bool.true_and, Bool.and_false, Bool.false_and, and_self, and_true, true_and, and_false, false_and, bi_T, bi_F, not_true_eq_false, Bool.false_eq_true, kg_1, kg_83, R_isStep hI, bi_t hx, R_Tin_within, ir_1_0 hI, ir_1_1 hI, ir_1_2 hI, ir_1_3 hI, ir_1_4 hI, ir_1_5 hI, ir_1_6 hI, ir_1_7 hI, px_w_n uy, bi_f hy]
      · rw [eq_Mod_right_1_0]
        simp only [px_rd_mk, px_wr_mk, Int.reduceToNat, Int.toNat_natCast, if_true, if_false, Option.bind_some, px_up_cell, px_up_slot, px_up_eq, ne_eq, Nat.reduceEqDiff, not_false_eq_true, Int.reduceEq, Int.reduceLT, Int.reduceLE, Int.reduceNeg, decide_true, decide_false, Bool.and_true, Bool.true_and, Bool.and_false, Bool.false_and, and_self, and_true, true_and, and_false, false_and, bi_T, bi_F, not_true_eq_false, Bool.false_eq_true, kg_123, R_Mod_in, b0, bi_t hx, b1, px_w_n uy, bi_f hy]
  · refine AL_same C (-2) ?_ ?_
    · rw [eq_Tin_right_0]
      simp only [px_rd_mk, px_wr_mk, Int.reduceToNat, Int.toNat_natCast, if_true, if_false, Option.bind_some, px_up_cell, px_up_slot, px_up_eq, ne_eq, Nat.reduceEqDiff, not_false_eq_true, Int.reduceEq, Int.reduceLT, Int.reduceLE, Int.reduceNeg, decide_true, decide_false, Bool.and_true, Bool.true_and, Bool.and_false, Bool.false_and, and_self, and_true, true_and, and_false, false_and, bi_T, bi_F, not_true_eq_false, Bool.false_eq_true, kg_1, kg_83, R_isStep hI, bi_f hx]
    · rw [eq_Mod_right_1_0]
      simp only [px_rd_mk, px_wr_mk, Int.reduceToNat, Int.toNat_natCast, if_true, if_false, Option.bind_some, px_up_cell, px_up_slot, px_up_eq, ne_eq, Nat.reduceEqDiff, not_false_eq_true, Int.reduceEq, Int.reduceLT, Int.reduceLE, Int.reduceNeg, decide_true, decide_false, Bool.and_true, Bool.true_and, Bool.and_false, Bool.false_and, and_self, and_true, true_and, and_false, false_and, bi_T, bi_F, not_true_eq_false, Bool.false_eq_true, kg_123, R_Mod_in, b0, bi_f hx]
/-- four bytes of a number behind place s -/
def wr4 (f : Nat → Int) (s : Nat) (x : Int) : Nat → Int := fun j => if j = s then px_wb (px_shr x 24) else if j = s + 1 then px_wb (px_shr x 16) else if j = s + 2 then px_wb (px_shr x 8) else if j = s + 3 then px_wb (px_shr x 0) else f j
theorem px_wb_rng (x : Int) : -128 ≤ px_wb x ∧ px_wb x < 128 := ⟨Int.le_bmod (by decide), Int.bmod_lt (by decide)⟩
theorem wr4_rng {f : Nat → Int} (hf : ∀ j, -128 ≤ f j ∧ f j < 128) (s : Nat) (x : Int) (j : Nat) : -128 ≤ wr4 f s x j ∧ wr4 f s x j < 128 := by
  unfold wr4
  (repeat' split) <;> first | exact px_wb_rng _ | exact hf j
theorem put_step {h : hp} (hI : IR h) {S : Nat} (hS : h 2 1 = (S : Int)) (h9 : S < 900) {x c : Int} (hc : 0 ≤ c ∧ c ≤ 24) : px_R (mm_Tape_put, 3, [(2, 2), (0, x), (0, c)], [], (K0, h)) = px_R (mm_Tape_put, 3, [(2, 2), (0, x), (0, c - 8)], [], (K0, px_up (px_up h 3 S (px_wb (px_shr x c))) 2 1 ((S + 1 : Nat) : Int))) := by
  have n1 : ¬ c < 0 := by omega
  have hlt : ((S : Int) < 900) = True := by simp; omega
  have rg := px_wb_rng (px_shr x c)
  have gb : px_gb (K0, h) 3 (S : Int) (px_wb (px_shr x c)) = true := by
    unfold px_gb
    rw [ka_3]
    simp [hlt, rg]
  have u1 : -2147483648 ≤ (S : Int) + 1 ∧ (S : Int) + 1 < 2147483648 := by omega
  have u2 : -2147483648 ≤ c + -8 ∧ c + -8 < 2147483648 := by omega
  have u3 : (S : Int) + 1 = ((S + 1 : Nat) : Int) := by omega
  have w1 : px_w ((S : Int) + 1) = ((S + 1 : Nat) : Int) := (px_w_n u1).trans u3
  rw [eq_Tape_put_3, if_neg n1]
  simp only [px_rd_mk, px_wr_mk, Int.reduceToNat, Int.toNat_natCast, if_true, if_false, Option.bind_some, px_up_cell, px_up_slot, px_up_eq, ne_eq, Nat.reduceEqDiff, not_false_eq_true, Int.reduceEq, Int.reduceLT, Int.reduceLE, Int.reduceNeg, decide_true, decide_false, Bool.and_true, Bool.true_and, Bool.and_false, Bool.false_and, and_self, and_true, true_and, and_false, false_and, bi_T, bi_F, not_true_eq_false, Bool.false_eq_true, kg_2, ir_2_0 hI, hS, hlt, gb, w1, px_w_n u2]
  rfl
theorem R_put {h : hp} (hI : IR h) {S : Nat} (hS : h 2 1 = (S : Int)) (h9 : S + 4 ≤ 900) (x : Int) : ∃ g : hp, px_R (mm_Tape_put, 0, [(2, 2), (0, x), (9, 0)], [], (K0, h)) = some (0, (K0, g)) ∧ Fr [3] [(2, 1)] h g ∧ g 2 1 = ((S + 4 : Nat) : Int) ∧ g 3 = wr4 (h 3) S x := by
  have F : ∀ (h : hp) (S : Nat) (c : Int), Fr [3] [(2, 1)] h (px_up (px_up h 3 S (px_wb (px_shr x c))) 2 1 ((S + 1 : Nat) : Int)) := fun h S c => Fr_up (Fr_up (Fr_rf _ _ _) _ rfl) _ rfl
  have F1 := F h S 24
  have F2 := F (px_up (px_up h 3 S (px_wb (px_shr x 24))) 2 1 ((S + 1 : Nat) : Int)) (S + 1) 16
  have F3 := F (px_up (px_up (px_up (px_up h 3 S (px_wb (px_shr x 24))) 2 1 ((S + 1 : Nat) : Int)) 3 (S + 1) (px_wb (px_shr x 16))) 2 1 ((S + 1 + 1 : Nat) : Int)) (S + 1 + 1) 8
  have F4 := F (px_up (px_up (px_up (px_up (px_up (px_up h 3 S (px_wb (px_shr x 24))) 2 1 ((S + 1 : Nat) : Int)) 3 (S + 1) (px_wb (px_shr x 16))) 2 1 ((S + 1 + 1 : Nat) : Int)) 3 (S + 1 + 1) (px_wb (px_shr x 8))) 2 1 ((S + 1 + 1 + 1 : Nat) : Int)) (S + 1 + 1 + 1) 0
  have I1 := IR_Fr hI F1 (by decide)
  have I2 := IR_Fr I1 F2 (by decide)
  have I3 := IR_Fr I2 F3 (by decide)
  have p1 := put_step hI hS (by omega) (x := x) (c := 24) (by decide)
  have p2 := put_step I1 (S := S + 1) rfl (by omega) (x := x) (c := 16) (by decide)
  have p3 := put_step I2 (S := S + 1 + 1) rfl (by omega) (x := x) (c := 8) (by decide)
  have p4 := put_step I3 (S := S + 1 + 1 + 1) rfl (by omega) (x := x) (c := 0) (by decide)
  refine ⟨_, ?_, Fr_tr2 (Fr_tr2 (Fr_tr2 F1 F2) F3) F4, rfl, ?_⟩
  · rw [eq_Tape_put_0, p1]
    refine p2.trans (p3.trans (p4.trans ?_))
    rw [eq_Tape_put_3, if_pos (by decide)]
  · funext j
    simp only [px_up_cell, px_up_slot, px_up_eq, ne_eq, Nat.reduceEqDiff, not_false_eq_true, px_up_at]
    unfold wr4
    by_cases e3 : j = S + 3
    · subst e3
      rw [if_pos (by omega), if_neg (by omega), if_neg (by omega), if_neg (by omega), if_pos rfl]
    · rw [if_neg (by omega)]
      by_cases e2 : j = S + 2
      · subst e2
        rw [if_pos (by omega), if_neg (by omega), if_neg (by omega), if_pos rfl]
      · rw [if_neg (by omega)]
        by_cases e1 : j = S + 1
        · subst e1
          rw [if_pos (by omega), if_neg (by omega), if_pos rfl]
        · rw [if_neg (by omega)]
          by_cases e0 : j = S
          · rw [if_pos e0, if_pos e0]
          · rw [if_neg e0, if_neg e0, if_neg e1, if_neg e2, if_neg e3]
