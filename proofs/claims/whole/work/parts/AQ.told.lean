/-! told and band. -/
theorem px_w_off {x d c : Int} (hx : -2147483648 ≤ x ∧ x < 2147483648) (hd : 0 ≤ d ∧ d ≤ 100) (hc : c ≤ 100) : (0 ≤ px_w (x - d) ∧ px_w (x - d) < c) ↔ (0 ≤ x - d ∧ x - d < c) := by
  by_cases e : -2147483648 ≤ x - d
  · rw [px_w_id e (by omega)]
  · have e1 : px_w (x - d) = x - d + 4294967296 := by
      have : px_w (x - d) = px_w (x - d + 4294967296) := by
        unfold px_w
        exact (Int.add_bmod_right (x - d) 4294967296).symm
      rw [this, px_w_id (by omega) (by omega)]
    rw [e1]
    constructor <;> intro q <;> omega
theorem ST_num {n : Nat} {h : hp} (S : ST n h) {k : Nat} (h6 : 6 ≤ k) (h9 : k < 9) : h 125 k = h (n + 13 + k) 0 := by
  have hk : k = 6 ∨ k = 7 ∨ k = 8 := by omega
  rcases hk with rfl | rfl | rfl
  · exact S.2.2.1.1
  · exact S.2.2.2.1.1
  · exact S.2.2.2.2.1.1
theorem C_told {h : hp} (C : CI h) (x : Int) (hxr : -2147483648 ≤ x ∧ x < 2147483648) : AL h mm_Tin_told mm_Mod_told [(2, 1), (0, x)] [(2, 123), (0, x)] := by
  have C2 := C
  obtain ⟨n, ⟨hn, h8, h9⟩, hI, hT, hK, hS, hL, hR, hC, hKs, hW, hB⟩ := C2
  have c0 := ST_n hS (k := 0) (by decide)
  have c5 := ST_n hS (k := 5) (by decide)
  have o10 := px_w_off hxr (d := 10) (by decide) (c := h (n + 1) 0) (by omega)
  have o20 := px_w_off hxr (d := 20) (by decide) (c := h (n + 1) 5) (by omega)
  by_cases a : 0 ≤ x ∧ x ≤ 8
  · obtain ⟨k, rfl⟩ := Int.eq_ofNat_of_zero_le a.1
    have g9 : (decide ((0 : Int) ≤ (k : Int)) && decide ((k : Int) < 9)) = true := gd_ok (by omega)
    have g18 : (decide ((0 : Int) ≤ (k : Int)) && decide ((k : Int) < 18)) = true := gd_ok (by omega)
    by_cases a5 : k < 6
    · have a1 : 0 ≤ (k : Int) ∧ (k : Int) ≤ 5 := by omega
      refine AL_same C (h (n + 1) k) ?_ ?_
      · rw [eq_Tin_told_0, R_Tin_within, bi_t a1]
        simp only [px_rd_mk, px_wr_mk, Int.reduceToNat, Int.toNat_natCast, if_true, if_false, Option.bind_some, px_up_cell, px_up_slot, px_up_eq, ne_eq, Nat.reduceEqDiff, not_false_eq_true, Int.reduceEq, Int.reduceLT, Int.reduceLE, Int.reduceNeg, decide_true, decide_false, Bool.and_true, Bool.true_and, Bool.and_false, Bool.false_and, and_self, and_true, true_and, and_false, false_and, bi_T, bi_F, not_true_eq_false, Bool.false_eq_true, kg_1, h8, sgo hn, sr1 hn hI, sga1 hn, g9]
      · rw [eq_Mod_told_0, R_Mod_in, bi_t a]
        simp only [px_rd_mk, px_wr_mk, Int.reduceToNat, Int.toNat_natCast, if_true, if_false, Option.bind_some, px_up_cell, px_up_slot, px_up_eq, ne_eq, Nat.reduceEqDiff, not_false_eq_true, Int.reduceEq, Int.reduceLT, Int.reduceLE, Int.reduceNeg, decide_true, decide_false, Bool.and_true, Bool.true_and, Bool.and_false, Bool.false_and, and_self, and_true, true_and, and_false, false_and, bi_T, bi_F, not_true_eq_false, Bool.false_eq_true, kg_123, ka_125, ir_123_0 hI, ir_123_12 hI, ir_123_13 hI, ir_123_14 hI, ir_123_15 hI, ir_123_16 hI, ir_123_17 hI, ir_123_18 hI, ir_123_19 hI, ir_123_20 hI, ir_123_21 hI, ir_123_30 hI, ir_123_31 hI, ir_123_32 hI, ir_123_33 hI, ir_123_34 hI, ir_123_35 hI, ir_123_36 hI, ir_123_37 hI, ir_123_38 hI, ir_123_39 hI, ir_123_41 hI, ir_123_42 hI, ir_123_44 hI, ir_123_45 hI, ir_123_46 hI, ir_123_50 hI, ir_123_54 hI, ir_123_55 hI, ir_123_56 hI, ir_123_57 hI, ir_123_58 hI, ir_123_59 hI, ir_123_60 hI, ir_123_61 hI, ir_123_62 hI, g18, (hS.2.1 k a5).1]
    · have a1 : ¬ (0 ≤ (k : Int) ∧ (k : Int) ≤ 5) := by omega
      have a2 : 6 ≤ (k : Int) ∧ (k : Int) ≤ 8 := by omega
      have e1 := R_Str_number hn hI (x1 := (k : Int)) (x2 := 0) (x3 := 0) k 0 0 rfl rfl rfl (by omega) (by decide)
      refine AL_same C (h (n + 13 + k) 0) ?_ ?_
      · rw [eq_Tin_told_0, R_Tin_within, bi_f a1]
        simp only [px_rd_mk, px_wr_mk, Int.reduceToNat, Int.toNat_natCast, if_true, if_false, Option.bind_some, px_up_cell, px_up_slot, px_up_eq, ne_eq, Nat.reduceEqDiff, not_false_eq_true, Int.reduceEq, Int.reduceLT, Int.reduceLE, Int.reduceNeg, decide_true, decide_false, Bool.and_true, Bool.true_and, Bool.and_false, Bool.false_and, and_self, and_true, true_and, and_false, false_and, bi_T, bi_F, not_true_eq_false, Bool.false_eq_true, kg_1, R_Tin_within, bi_t a2, h8, sgo hn, e1]
      · rw [eq_Mod_told_0, R_Mod_in, bi_t a]
        simp only [px_rd_mk, px_wr_mk, Int.reduceToNat, Int.toNat_natCast, if_true, if_false, Option.bind_some, px_up_cell, px_up_slot, px_up_eq, ne_eq, Nat.reduceEqDiff, not_false_eq_true, Int.reduceEq, Int.reduceLT, Int.reduceLE, Int.reduceNeg, decide_true, decide_false, Bool.and_true, Bool.true_and, Bool.and_false, Bool.false_and, and_self, and_true, true_and, and_false, false_and, bi_T, bi_F, not_true_eq_false, Bool.false_eq_true, kg_123, ka_125, ir_123_0 hI, ir_123_12 hI, ir_123_13 hI, ir_123_14 hI, ir_123_15 hI, ir_123_16 hI, ir_123_17 hI, ir_123_18 hI, ir_123_19 hI, ir_123_20 hI, ir_123_21 hI, ir_123_30 hI, ir_123_31 hI, ir_123_32 hI, ir_123_33 hI, ir_123_34 hI, ir_123_35 hI, ir_123_36 hI, ir_123_37 hI, ir_123_38 hI, ir_123_39 hI, ir_123_41 hI, ir_123_42 hI, ir_123_44 hI, ir_123_45 hI, ir_123_46 hI, ir_123_50 hI, ir_123_54 hI, ir_123_55 hI, ir_123_56 hI, ir_123_57 hI, ir_123_58 hI, ir_123_59 hI, ir_123_60 hI, ir_123_61 hI, ir_123_62 hI, g18, ST_num hS (k := k) (by omega) (by omega)]
  · have a1 : ¬ (0 ≤ x ∧ x ≤ 5) := by omega
    have a2 : ¬ (6 ≤ x ∧ x ≤ 8) := by omega
    by_cases b : 0 ≤ x - 10 ∧ x - 10 < h (n + 1) 0
    · have b1 : 10 ≤ x ∧ x ≤ 19 := by omega
      obtain ⟨k, hk⟩ := Int.eq_ofNat_of_zero_le b.1
      have uk : -2147483648 ≤ x - 10 ∧ x - 10 < 2147483648 := by omega
      have b2 : 0 ≤ (k : Int) ∧ (k : Int) < h (n + 1) 0 := by omega
      have e1 := R_Str_number hn hI (x1 := 0) (x2 := (k : Int)) (x3 := 0) 0 k 0 rfl rfl rfl (by decide) (by omega)
      have g40 : (decide ((0 : Int) ≤ ((5 * k : Nat) : Int)) && decide (((5 * k : Nat) : Int) < 40)) = true := gd_ok (by omega)
      have u5 : -2147483648 ≤ 5 * (k : Int) ∧ 5 * (k : Int) < 2147483648 := by omega
      have v5 : 5 * (k : Int) = ((5 * k : Nat) : Int) := by omega
      have s6 := (hS.2.2.2.2.2.1 k b2.2).1.1
      have wk : px_w (x - 10) = (k : Int) := (px_w_n uk).trans hk
      refine AL_same C (h (n + 13) (5 * k)) ?_ ?_
      · rw [eq_Tin_told_0, R_Tin_within, bi_f a1]
        simp only [px_rd_mk, px_wr_mk, Int.reduceToNat, Int.toNat_natCast, if_true, if_false, Option.bind_some, px_up_cell, px_up_slot, px_up_eq, ne_eq, Nat.reduceEqDiff, not_false_eq_true, Int.reduceEq, Int.reduceLT, Int.reduceLE, Int.reduceNeg, decide_true, decide_false, Bool.and_true, Bool.true_and, Bool.and_false, Bool.false_and, and_self, and_true, true_and, and_false, false_and, bi_T, bi_F, not_true_eq_false, Bool.false_eq_true, kg_1, R_Tin_within, bi_f a2, bi_t b1, wk, R_one hn h8 hI hS (y := 0) (k := 0) rfl (by decide) (k : Int), bi_t b2, h8, sgo hn, e1]
        rfl
      · rw [eq_Mod_told_0, R_Mod_in, bi_f a]
        simp only [px_rd_mk, px_wr_mk, Int.reduceToNat, Int.toNat_natCast, if_true, if_false, Option.bind_some, px_up_cell, px_up_slot, px_up_eq, ne_eq, Nat.reduceEqDiff, not_false_eq_true, Int.reduceEq, Int.reduceLT, Int.reduceLE, Int.reduceNeg, decide_true, decide_false, Bool.and_true, Bool.true_and, Bool.and_false, Bool.false_and, and_self, and_true, true_and, and_false, false_and, bi_T, bi_F, not_true_eq_false, Bool.false_eq_true, kg_123, ka_127, ir_123_0 hI, ir_123_12 hI, ir_123_13 hI, ir_123_14 hI, ir_123_15 hI, ir_123_16 hI, ir_123_17 hI, ir_123_18 hI, ir_123_19 hI, ir_123_20 hI, ir_123_21 hI, ir_123_30 hI, ir_123_31 hI, ir_123_32 hI, ir_123_33 hI, ir_123_34 hI, ir_123_35 hI, ir_123_36 hI, ir_123_37 hI, ir_123_38 hI, ir_123_39 hI, ir_123_41 hI, ir_123_42 hI, ir_123_44 hI, ir_123_45 hI, ir_123_46 hI, ir_123_50 hI, ir_123_54 hI, ir_123_55 hI, ir_123_56 hI, ir_123_57 hI, ir_123_58 hI, ir_123_59 hI, ir_123_60 hI, ir_123_61 hI, ir_123_62 hI, wk, R_is hI hS (y := 0) (k := 0) rfl (by decide) (k : Int), bi_t b2, (px_w_n u5).trans v5, g40, s6]
    · have b3 : ¬ (0 ≤ px_w (x - 10) ∧ px_w (x - 10) < h (n + 1) 0) := fun q => b (o10.mp q)
      have t78 : px_R (mm_Tin_told, 0, [(2, 1), (0, x)], [], (K0, h)) = px_R (mm_Tin_told, 78, [(2, 1), (0, x)], [], (K0, h)) := by
        rw [eq_Tin_told_0, R_Tin_within, bi_f a1]
        by_cases b1 : 10 ≤ x ∧ x ≤ 19
        · simp only [px_rd_mk, px_wr_mk, Int.reduceToNat, Int.toNat_natCast, if_true, if_false, Option.bind_some, px_up_cell, px_up_slot, px_up_eq, ne_eq, Nat.reduceEqDiff, not_false_eq_true, Int.reduceEq, Int.reduceLT, Int.reduceLE, Int.reduceNeg, decide_true, decide_false, Bool.and_true, Bool.true_and, Bool.and_false, Bool.false_and, and_self, and_true, true_and, and_false, false_and, bi_T, bi_F, not_true_eq_false, Bool.false_eq_true, kg_1, R_Tin_within, bi_f a2, bi_t b1, R_one hn h8 hI hS (y := 0) (k := 0) rfl (by decide) (px_w (x - 10)), bi_f b3]
        · simp only [px_rd_mk, px_wr_mk, Int.reduceToNat, Int.toNat_natCast, if_true, if_false, Option.bind_some, px_up_cell, px_up_slot, px_up_eq, ne_eq, Nat.reduceEqDiff, not_false_eq_true, Int.reduceEq, Int.reduceLT, Int.reduceLE, Int.reduceNeg, decide_true, decide_false, Bool.and_true, Bool.true_and, Bool.and_false, Bool.false_and, and_self, and_true, true_and, and_false, false_and, bi_T, bi_F, not_true_eq_false, Bool.false_eq_true, kg_1, R_Tin_within, bi_f a2, bi_f b1]
      by_cases d : 0 ≤ x - 20 ∧ x - 20 < h (n + 1) 5
      · have b1 : 20 ≤ x ∧ x ≤ 29 := by omega
        obtain ⟨k, hk⟩ := Int.eq_ofNat_of_zero_le d.1
        have uk : -2147483648 ≤ x - 20 ∧ x - 20 < 2147483648 := by omega
        have b2 : 0 ≤ (k : Int) ∧ (k : Int) < h (n + 1) 5 := by omega
        have c54 := (hS.2.1 5 (by decide)).2.2
        have l5 : lim 5 = 4 := rfl
        have e1 := R_Str_number hn hI (x1 := 5) (x2 := (k : Int)) (x3 := 0) 5 k 0 rfl rfl rfl (by decide) (by omega)
        have g40 : (decide ((0 : Int) ≤ ((5 * k : Nat) : Int)) && decide (((5 * k : Nat) : Int) < 40)) = true := gd_ok (by omega)
        have u5 : -2147483648 ≤ 5 * (k : Int) ∧ 5 * (k : Int) < 2147483648 := by omega
        have v5 : 5 * (k : Int) = ((5 * k : Nat) : Int) := by omega
        have s6 := (hS.2.2.2.2.2.2.2.2.2.2 k b2.2).1.1
        have wk : px_w (x - 20) = (k : Int) := (px_w_n uk).trans hk
        refine AL_same C (h (n + 18) (5 * k)) ?_ ?_
        · rw [t78, eq_Tin_told_78, R_Tin_within, bi_t b1]
          simp only [px_rd_mk, px_wr_mk, Int.reduceToNat, Int.toNat_natCast, if_true, if_false, Option.bind_some, px_up_cell, px_up_slot, px_up_eq, ne_eq, Nat.reduceEqDiff, not_false_eq_true, Int.reduceEq, Int.reduceLT, Int.reduceLE, Int.reduceNeg, decide_true, decide_false, Bool.and_true, Bool.true_and, Bool.and_false, Bool.false_and, and_self, and_true, true_and, and_false, false_and, bi_T, bi_F, not_true_eq_false, Bool.false_eq_true, kg_1, wk, R_one hn h8 hI hS (y := 5) (k := 5) rfl (by decide) (k : Int), bi_t b2, h8, sgo hn, e1]
          rfl
        · rw [eq_Mod_told_0, R_Mod_in, bi_f a]
          simp only [px_rd_mk, px_wr_mk, Int.reduceToNat, Int.toNat_natCast, if_true, if_false, Option.bind_some, px_up_cell, px_up_slot, px_up_eq, ne_eq, Nat.reduceEqDiff, not_false_eq_true, Int.reduceEq, Int.reduceLT, Int.reduceLE, Int.reduceNeg, decide_true, decide_false, Bool.and_true, Bool.true_and, Bool.and_false, Bool.false_and, and_self, and_true, true_and, and_false, false_and, bi_T, bi_F, not_true_eq_false, Bool.false_eq_true, kg_123, ka_134, ir_123_0 hI, ir_123_12 hI, ir_123_13 hI, ir_123_14 hI, ir_123_15 hI, ir_123_16 hI, ir_123_17 hI, ir_123_18 hI, ir_123_19 hI, ir_123_20 hI, ir_123_21 hI, ir_123_30 hI, ir_123_31 hI, ir_123_32 hI, ir_123_33 hI, ir_123_34 hI, ir_123_35 hI, ir_123_36 hI, ir_123_37 hI, ir_123_38 hI, ir_123_39 hI, ir_123_41 hI, ir_123_42 hI, ir_123_44 hI, ir_123_45 hI, ir_123_46 hI, ir_123_50 hI, ir_123_54 hI, ir_123_55 hI, ir_123_56 hI, ir_123_57 hI, ir_123_58 hI, ir_123_59 hI, ir_123_60 hI, ir_123_61 hI, ir_123_62 hI, R_is hI hS (y := 0) (k := 0) rfl (by decide) (px_w (x - 10)), bi_f b3, wk, R_is hI hS (y := 5) (k := 5) rfl (by decide) (k : Int), bi_t b2, (px_w_n u5).trans v5, g40, s6]
      · have d3 : ¬ (0 ≤ px_w (x - 20) ∧ px_w (x - 20) < h (n + 1) 5) := fun q => d (o20.mp q)
        refine AL_same C (-1) ?_ ?_
        · rw [t78, eq_Tin_told_78, R_Tin_within]
          by_cases b1 : 20 ≤ x ∧ x ≤ 29
          · simp only [px_rd_mk, px_wr_mk, Int.reduceToNat, Int.toNat_natCast, if_true, if_false, Option.bind_some, px_up_cell, px_up_slot, px_up_eq, ne_eq, Nat.reduceEqDiff, not_false_eq_true, Int.reduceEq, Int.reduceLT, Int.reduceLE, Int.reduceNeg, decide_true, decide_false, Bool.and_true, Bool.true_and, Bool.and_false, Bool.false_and, and_self, and_true, true_and, and_false, false_and, bi_T, bi_F, not_true_eq_false, Bool.false_eq_true, kg_1, bi_t b1, R_one hn h8 hI hS (y := 5) (k := 5) rfl (by decide) (px_w (x - 20)), bi_f d3]
          · simp only [px_rd_mk, px_wr_mk, Int.reduceToNat, Int.toNat_natCast, if_true, if_false, Option.bind_some, px_up_cell, px_up_slot, px_up_eq, ne_eq, Nat.reduceEqDiff, not_false_eq_true, Int.reduceEq, Int.reduceLT, Int.reduceLE, Int.reduceNeg, decide_true, decide_false, Bool.and_true, Bool.true_and, Bool.and_false, Bool.false_and, and_self, and_true, true_and, and_false, false_and, bi_T, bi_F, not_true_eq_false, Bool.false_eq_true, kg_1, bi_f b1]
        · rw [eq_Mod_told_0, R_Mod_in, bi_f a]
          simp only [px_rd_mk, px_wr_mk, Int.reduceToNat, Int.toNat_natCast, if_true, if_false, Option.bind_some, px_up_cell, px_up_slot, px_up_eq, ne_eq, Nat.reduceEqDiff, not_false_eq_true, Int.reduceEq, Int.reduceLT, Int.reduceLE, Int.reduceNeg, decide_true, decide_false, Bool.and_true, Bool.true_and, Bool.and_false, Bool.false_and, and_self, and_true, true_and, and_false, false_and, bi_T, bi_F, not_true_eq_false, Bool.false_eq_true, kg_123, R_is hI hS (y := 0) (k := 0) rfl (by decide) (px_w (x - 10)), bi_f b3, R_is hI hS (y := 5) (k := 5) rfl (by decide) (px_w (x - 20)), bi_f d3]
theorem C_band_0 {h : hp} (C : CI h) (y z : Int) : AL h mm_Tin_band mm_Mod_band [(2, 1), (0, 0), (0, y), (0, z), (9, 0)] [(2, 123), (0, 0), (0, y), (0, z)] := by
  have C2 := C
  obtain ⟨n, ⟨hn, h8, h9⟩, hI, hT, hK, hS, hL, hR, hC, hKs, hW, hB⟩ := C2
  have c0 := hS.2.1 0 (by decide)
  have l0 : lim 0 = 4 := rfl
  by_cases hy : 0 ≤ y ∧ y < h (n + 1) 0
  · by_cases hz : 0 ≤ z ∧ z ≤ 3
    · obtain ⟨k, rfl⟩ := Int.eq_ofNat_of_zero_le hy.1
      obtain ⟨b, rfl⟩ := Int.eq_ofNat_of_zero_le hz.1
      have hb : b < 4 := by omega
      have e1 := R_Str_ofBand hn hI (x1 := 0) (x2 := (k : Int)) (x3 := (b : Int)) 0 k b rfl rfl rfl (by decide) (by omega)
      rw [show n + 13 + 0 = n + 13 from rfl, if_pos (by decide)] at e1
      have u1 : -2147483648 ≤ 5 * (k : Int) ∧ 5 * (k : Int) < 2147483648 := by omega
      have v1 : 5 * (k : Int) = ((5 * k : Nat) : Int) := by omega
      have u2 : -2147483648 ≤ ((5 * k : Nat) : Int) + 1 ∧ ((5 * k : Nat) : Int) + 1 < 2147483648 := by omega
      have v2 : ((5 * k : Nat) : Int) + 1 = ((5 * k + 1 : Nat) : Int) := by omega
      have u3 : -2147483648 ≤ ((5 * k + 1 : Nat) : Int) + (b : Int) ∧ ((5 * k + 1 : Nat) : Int) + (b : Int) < 2147483648 := by omega
      have v3 : ((5 * k + 1 : Nat) : Int) + (b : Int) = ((5 * k + 1 + b : Nat) : Int) := by omega
      have g4 : (decide ((0 : Int) ≤ ((5 * k + 1 + b : Nat) : Int)) && decide (((5 * k + 1 + b : Nat) : Int) < 40)) = true := gd_ok (by omega)
      have sq := (hS.2.2.2.2.2.1 k hy.2).2 b hb
      refine AL_same C (h (n + 13) (5 * k + 1 + b)) ?_ ?_
      · rw [eq_Tin_band_0]
        simp only [px_rd_mk, px_wr_mk, Int.reduceToNat, Int.toNat_natCast, if_true, if_false, Option.bind_some, px_up_cell, px_up_slot, px_up_eq, ne_eq, Nat.reduceEqDiff, not_false_eq_true, Int.reduceEq, Int.reduceLT, Int.reduceLE, Int.reduceNeg, decide_true, decide_false, Bool.and_true, Bool.true_and, Bool.and_false, Bool.false_and, and_self, and_true, true_and, and_false, false_and, bi_T, bi_F, not_true_eq_false, Bool.false_eq_true, kg_1, R_Tin_within, R_Tin_isBand, bi_t hz]
        rw [eq_Tin_band_29]
        simp only [px_rd_mk, px_wr_mk, Int.reduceToNat, Int.toNat_natCast, if_true, if_false, Option.bind_some, px_up_cell, px_up_slot, px_up_eq, ne_eq, Nat.reduceEqDiff, not_false_eq_true, Int.reduceEq, Int.reduceLT, Int.reduceLE, Int.reduceNeg, decide_true, decide_false, Bool.and_true, Bool.true_and, Bool.and_false, Bool.false_and, and_self, and_true, true_and, and_false, false_and, bi_T, bi_F, not_true_eq_false, Bool.false_eq_true, kg_1, R_one hn h8 hI hS (y := 0) (k := 0) rfl (by decide) (k : Int), bi_t hy, h8, sgo hn, e1]
      · rw [eq_Mod_band_0]
        simp only [px_rd_mk, px_wr_mk, Int.reduceToNat, Int.toNat_natCast, if_true, if_false, Option.bind_some, px_up_cell, px_up_slot, px_up_eq, ne_eq, Nat.reduceEqDiff, not_false_eq_true, Int.reduceEq, Int.reduceLT, Int.reduceLE, Int.reduceNeg, decide_true, decide_false, Bool.and_true, Bool.true_and, Bool.and_false, Bool.false_and, and_self, and_true, true_and, and_false, false_and, bi_T, bi_F, not_true_eq_false, Bool.false_eq_true, R_Mod_in]
        rw [eq_Mod_band_20]
        simp only [px_rd_mk, px_wr_mk, Int.reduceToNat, Int.toNat_natCast, if_true, if_false, Option.bind_some, px_up_cell, px_up_slot, px_up_eq, ne_eq, Nat.reduceEqDiff, not_false_eq_true, Int.reduceEq, Int.reduceLT, Int.reduceLE, Int.reduceNeg, decide_true, decide_false, Bool.and_true, Bool.true_and, Bool.and_false, Bool.false_and, and_self, and_true, true_and, and_false, false_and, bi_T, bi_F, not_true_eq_false, Bool.false_eq_true, kg_123, ka_127, ir_123_0 hI, ir_123_12 hI, ir_123_13 hI, ir_123_14 hI, ir_123_15 hI, ir_123_16 hI, ir_123_17 hI, ir_123_18 hI, ir_123_19 hI, ir_123_20 hI, ir_123_21 hI, ir_123_30 hI, ir_123_31 hI, ir_123_32 hI, ir_123_33 hI, ir_123_34 hI, ir_123_35 hI, ir_123_36 hI, ir_123_37 hI, ir_123_38 hI, ir_123_39 hI, ir_123_41 hI, ir_123_42 hI, ir_123_44 hI, ir_123_45 hI, ir_123_46 hI, ir_123_50 hI, ir_123_54 hI, ir_123_55 hI, ir_123_56 hI, ir_123_57 hI, ir_123_58 hI, ir_123_59 hI, ir_123_60 hI, ir_123_61 hI, ir_123_62 hI, R_is hI hS (y := 0) (k := 0) rfl (by decide) (k : Int), bi_t hy, R_Mod_isBand, bi_t hz, (px_w_n u1).trans v1, (px_w_n u2).trans v2, (px_w_n u3).trans v3, g4, sq.1]
    · refine AL_same C (-2) ?_ ?_
      · rw [eq_Tin_band_0]
        simp only [px_rd_mk, px_wr_mk, Int.reduceToNat, Int.toNat_natCast, if_true, if_false, Option.bind_some, px_up_cell, px_up_slot, px_up_eq, ne_eq, Nat.reduceEqDiff, not_false_eq_true, Int.reduceEq, Int.reduceLT, Int.reduceLE, Int.reduceNeg, decide_true, decide_false, Bool.and_true, Bool.true_and, Bool.and_false, Bool.false_and, and_self, and_true, true_and, and_false, false_and, bi_T, bi_F, not_true_eq_false, Bool.false_eq_true, kg_1, R_Tin_within, R_Tin_isBand, bi_f hz]
      · rw [eq_Mod_band_0]
        simp only [px_rd_mk, px_wr_mk, Int.reduceToNat, Int.toNat_natCast, if_true, if_false, Option.bind_some, px_up_cell, px_up_slot, px_up_eq, ne_eq, Nat.reduceEqDiff, not_false_eq_true, Int.reduceEq, Int.reduceLT, Int.reduceLE, Int.reduceNeg, decide_true, decide_false, Bool.and_true, Bool.true_and, Bool.and_false, Bool.false_and, and_self, and_true, true_and, and_false, false_and, bi_T, bi_F, not_true_eq_false, Bool.false_eq_true, R_Mod_in]
        rw [eq_Mod_band_20]
        simp only [px_rd_mk, px_wr_mk, Int.reduceToNat, Int.toNat_natCast, if_true, if_false, Option.bind_some, px_up_cell, px_up_slot, px_up_eq, ne_eq, Nat.reduceEqDiff, not_false_eq_true, Int.reduceEq, Int.reduceLT, Int.reduceLE, Int.reduceNeg, decide_true, decide_false, Bool.and_true, Bool.true_and, Bool.and_false, Bool.false_and, and_self, and_true, true_and, and_false, false_and, bi_T, bi_F, not_true_eq_false, Bool.false_eq_true, kg_123, R_is hI hS (y := 0) (k := 0) rfl (by decide) y, bi_t hy, R_Mod_isBand, bi_f hz]
  · refine AL_same C (-2) ?_ ?_
    · rw [eq_Tin_band_0]
      by_cases hz : 0 ≤ z ∧ z ≤ 3
      · simp only [px_rd_mk, px_wr_mk, Int.reduceToNat, Int.toNat_natCast, if_true, if_false, Option.bind_some, px_up_cell, px_up_slot, px_up_eq, ne_eq, Nat.reduceEqDiff, not_false_eq_true, Int.reduceEq, Int.reduceLT, Int.reduceLE, Int.reduceNeg, decide_true, decide_false, Bool.and_true, Bool.true_and, Bool.and_false, Bool.false_and, and_self, and_true, true_and, and_false, false_and, bi_T, bi_F, not_true_eq_false, Bool.false_eq_true, kg_1, R_Tin_within, R_Tin_isBand, bi_t hz]
        rw [eq_Tin_band_29]
        simp only [px_rd_mk, px_wr_mk, Int.reduceToNat, Int.toNat_natCast, if_true, if_false, Option.bind_some, px_up_cell, px_up_slot, px_up_eq, ne_eq, Nat.reduceEqDiff, not_false_eq_true, Int.reduceEq, Int.reduceLT, Int.reduceLE, Int.reduceNeg, decide_true, decide_false, Bool.and_true, Bool.true_and, Bool.and_false, Bool.false_and, and_self, and_true, true_and, and_false, false_and, bi_T, bi_F, not_true_eq_false, Bool.false_eq_true, kg_1, R_one hn h8 hI hS (y := 0) (k := 0) rfl (by decide) y, bi_f hy]
      · simp only [px_rd_mk, px_wr_mk, Int.reduceToNat, Int.toNat_natCast, if_true, if_false, Option.bind_some, px_up_cell, px_up_slot, px_up_eq, ne_eq, Nat.reduceEqDiff, not_false_eq_true, Int.reduceEq, Int.reduceLT, Int.reduceLE, Int.reduceNeg, decide_true, decide_false, Bool.and_true, Bool.true_and, Bool.and_false, Bool.false_and, and_self, and_true, true_and, and_false, false_and, bi_T, bi_F, not_true_eq_false, Bool.false_eq_true, kg_1, R_Tin_within, R_Tin_isBand, bi_f hz]
    · rw [eq_Mod_band_0]
      simp only [px_rd_mk, px_wr_mk, Int.reduceToNat, Int.toNat_natCast, if_true, if_false, Option.bind_some, px_up_cell, px_up_slot, px_up_eq, ne_eq, Nat.reduceEqDiff, not_false_eq_true, Int.reduceEq, Int.reduceLT, Int.reduceLE, Int.reduceNeg, decide_true, decide_false, Bool.and_true, Bool.true_and, Bool.and_false, Bool.false_and, and_self, and_true, true_and, and_false, false_and, bi_T, bi_F, not_true_eq_false, Bool.false_eq_true, R_Mod_in]
      rw [eq_Mod_band_20]
      simp only [px_rd_mk, px_wr_mk, Int.reduceToNat, Int.toNat_natCast, if_true, if_false, Option.bind_some, px_up_cell, px_up_slot, px_up_eq, ne_eq, Nat.reduceEqDiff, not_false_eq_true, Int.reduceEq, Int.reduceLT, Int.reduceLE, Int.reduceNeg, decide_true, decide_false, Bool.and_true, Bool.true_and, Bool.and_false, Bool.false_and, and_self, and_true, true_and, and_false, false_and, bi_T, bi_F, not_true_eq_false, Bool.false_eq_true, kg_123, R_is hI hS (y := 0) (k := 0) rfl (by decide) y, bi_f hy]
theorem C_band_1 {h : hp} (C : CI h) (y z : Int) : AL h mm_Tin_band mm_Mod_band [(2, 1), (0, 1), (0, y), (0, z), (9, 0)] [(2, 123), (0, 1), (0, y), (0, z)] := by
  have C2 := C
  obtain ⟨n, ⟨hn, h8, h9⟩, hI, hT, hK, hS, hL, hR, hC, hKs, hW, hB⟩ := C2
  have c0 := hS.2.1 1 (by decide)
  have l0 : lim 1 = 4 := rfl
  by_cases hy : 0 ≤ y ∧ y < h (n + 1) 1
  · by_cases hz : 0 ≤ z ∧ z ≤ 3
    · obtain ⟨k, rfl⟩ := Int.eq_ofNat_of_zero_le hy.1
      obtain ⟨b, rfl⟩ := Int.eq_ofNat_of_zero_le hz.1
      have hb : b < 4 := by omega
      have e1 := R_Str_ofBand hn hI (x1 := 1) (x2 := (k : Int)) (x3 := (b : Int)) 1 k b rfl rfl rfl (by decide) (by omega)
      rw [show n + 13 + 1 = n + 14 from rfl, if_neg (by decide), show 5 * k + 0 + b = 5 * k + b from rfl] at e1
      have u1 : -2147483648 ≤ 4 * (k : Int) ∧ 4 * (k : Int) < 2147483648 := by omega
      have v1 : 4 * (k : Int) = ((4 * k : Nat) : Int) := by omega
      have u3 : -2147483648 ≤ ((4 * k : Nat) : Int) + (b : Int) ∧ ((4 * k : Nat) : Int) + (b : Int) < 2147483648 := by omega
      have v3 : ((4 * k : Nat) : Int) + (b : Int) = ((4 * k + b : Nat) : Int) := by omega
      have g4 : (decide ((0 : Int) ≤ ((4 * k + b : Nat) : Int)) && decide (((4 * k + b : Nat) : Int) < 32)) = true := gd_ok (by omega)
      have sq := hS.2.2.2.2.2.2.1 k hy.2 b hb
      refine AL_same C (h (n + 14) (5 * k + b)) ?_ ?_
      · rw [eq_Tin_band_0]
        simp only [px_rd_mk, px_wr_mk, Int.reduceToNat, Int.toNat_natCast, if_true, if_false, Option.bind_some, px_up_cell, px_up_slot, px_up_eq, ne_eq, Nat.reduceEqDiff, not_false_eq_true, Int.reduceEq, Int.reduceLT, Int.reduceLE, Int.reduceNeg, decide_true, decide_false, Bool.and_true, Bool.true_and, Bool.and_false, Bool.false_and, and_self, and_true, true_and, and_false, false_and, bi_T, bi_F, not_true_eq_false, Bool.false_eq_true, kg_1, R_Tin_within, R_Tin_isBand, bi_t hz]
        rw [eq_Tin_band_29]
        simp only [px_rd_mk, px_wr_mk, Int.reduceToNat, Int.toNat_natCast, if_true, if_false, Option.bind_some, px_up_cell, px_up_slot, px_up_eq, ne_eq, Nat.reduceEqDiff, not_false_eq_true, Int.reduceEq, Int.reduceLT, Int.reduceLE, Int.reduceNeg, decide_true, decide_false, Bool.and_true, Bool.true_and, Bool.and_false, Bool.false_and, and_self, and_true, true_and, and_false, false_and, bi_T, bi_F, not_true_eq_false, Bool.false_eq_true, kg_1, R_one hn h8 hI hS (y := 1) (k := 1) rfl (by decide) (k : Int), bi_t hy, h8, sgo hn, e1]
      · rw [eq_Mod_band_0]
        simp only [px_rd_mk, px_wr_mk, Int.reduceToNat, Int.toNat_natCast, if_true, if_false, Option.bind_some, px_up_cell, px_up_slot, px_up_eq, ne_eq, Nat.reduceEqDiff, not_false_eq_true, Int.reduceEq, Int.reduceLT, Int.reduceLE, Int.reduceNeg, decide_true, decide_false, Bool.and_true, Bool.true_and, Bool.and_false, Bool.false_and, and_self, and_true, true_and, and_false, false_and, bi_T, bi_F, not_true_eq_false, Bool.false_eq_true, R_Mod_in]
        rw [eq_Mod_band_20]
        simp only [px_rd_mk, px_wr_mk, Int.reduceToNat, Int.toNat_natCast, if_true, if_false, Option.bind_some, px_up_cell, px_up_slot, px_up_eq, ne_eq, Nat.reduceEqDiff, not_false_eq_true, Int.reduceEq, Int.reduceLT, Int.reduceLE, Int.reduceNeg, decide_true, decide_false, Bool.and_true, Bool.true_and, Bool.and_false, Bool.false_and, and_self, and_true, true_and, and_false, false_and, bi_T, bi_F, not_true_eq_false, Bool.false_eq_true, kg_123, ka_128, ir_123_0 hI, ir_123_12 hI, ir_123_13 hI, ir_123_14 hI, ir_123_15 hI, ir_123_16 hI, ir_123_17 hI, ir_123_18 hI, ir_123_19 hI, ir_123_20 hI, ir_123_21 hI, ir_123_30 hI, ir_123_31 hI, ir_123_32 hI, ir_123_33 hI, ir_123_34 hI, ir_123_35 hI, ir_123_36 hI, ir_123_37 hI, ir_123_38 hI, ir_123_39 hI, ir_123_41 hI, ir_123_42 hI, ir_123_44 hI, ir_123_45 hI, ir_123_46 hI, ir_123_50 hI, ir_123_54 hI, ir_123_55 hI, ir_123_56 hI, ir_123_57 hI, ir_123_58 hI, ir_123_59 hI, ir_123_60 hI, ir_123_61 hI, ir_123_62 hI, R_is hI hS (y := 1) (k := 1) rfl (by decide) (k : Int), bi_t hy, R_Mod_isBand, bi_t hz, (px_w_n u1).trans v1, (px_w_n u3).trans v3, g4, sq.1]
    · refine AL_same C (-2) ?_ ?_
      · rw [eq_Tin_band_0]
        simp only [px_rd_mk, px_wr_mk, Int.reduceToNat, Int.toNat_natCast, if_true, if_false, Option.bind_some, px_up_cell, px_up_slot, px_up_eq, ne_eq, Nat.reduceEqDiff, not_false_eq_true, Int.reduceEq, Int.reduceLT, Int.reduceLE, Int.reduceNeg, decide_true, decide_false, Bool.and_true, Bool.true_and, Bool.and_false, Bool.false_and, and_self, and_true, true_and, and_false, false_and, bi_T, bi_F, not_true_eq_false, Bool.false_eq_true, kg_1, R_Tin_within, R_Tin_isBand, bi_f hz]
      · rw [eq_Mod_band_0]
        simp only [px_rd_mk, px_wr_mk, Int.reduceToNat, Int.toNat_natCast, if_true, if_false, Option.bind_some, px_up_cell, px_up_slot, px_up_eq, ne_eq, Nat.reduceEqDiff, not_false_eq_true, Int.reduceEq, Int.reduceLT, Int.reduceLE, Int.reduceNeg, decide_true, decide_false, Bool.and_true, Bool.true_and, Bool.and_false, Bool.false_and, and_self, and_true, true_and, and_false, false_and, bi_T, bi_F, not_true_eq_false, Bool.false_eq_true, R_Mod_in]
        rw [eq_Mod_band_20]
        simp only [px_rd_mk, px_wr_mk, Int.reduceToNat, Int.toNat_natCast, if_true, if_false, Option.bind_some, px_up_cell, px_up_slot, px_up_eq, ne_eq, Nat.reduceEqDiff, not_false_eq_true, Int.reduceEq, Int.reduceLT, Int.reduceLE, Int.reduceNeg, decide_true, decide_false, Bool.and_true, Bool.true_and, Bool.and_false, Bool.false_and, and_self, and_true, true_and, and_false, false_and, bi_T, bi_F, not_true_eq_false, Bool.false_eq_true, kg_123, R_is hI hS (y := 1) (k := 1) rfl (by decide) y, bi_t hy, R_Mod_isBand, bi_f hz]
  · refine AL_same C (-2) ?_ ?_
    · rw [eq_Tin_band_0]
      by_cases hz : 0 ≤ z ∧ z ≤ 3
      · simp only [px_rd_mk, px_wr_mk, Int.reduceToNat, Int.toNat_natCast, if_true, if_false, Option.bind_some, px_up_cell, px_up_slot, px_up_eq, ne_eq, Nat.reduceEqDiff, not_false_eq_true, Int.reduceEq, Int.reduceLT, Int.reduceLE, Int.reduceNeg, decide_true, decide_false, Bool.and_true, Bool.true_and, Bool.and_false, Bool.false_and, and_self, and_true, true_and, and_false, false_and, bi_T, bi_F, not_true_eq_false, Bool.false_eq_true, kg_1, R_Tin_within, R_Tin_isBand, bi_t hz]
        rw [eq_Tin_band_29]
        simp only [px_rd_mk, px_wr_mk, Int.reduceToNat, Int.toNat_natCast, if_true, if_false, Option.bind_some, px_up_cell, px_up_slot, px_up_eq, ne_eq, Nat.reduceEqDiff, not_false_eq_true, Int.reduceEq, Int.reduceLT, Int.reduceLE, Int.reduceNeg, decide_true, decide_false, Bool.and_true, Bool.true_and, Bool.and_false, Bool.false_and, and_self, and_true, true_and, and_false, false_and, bi_T, bi_F, not_true_eq_false, Bool.false_eq_true, kg_1, R_one hn h8 hI hS (y := 1) (k := 1) rfl (by decide) y, bi_f hy]
      · simp only [px_rd_mk, px_wr_mk, Int.reduceToNat, Int.toNat_natCast, if_true, if_false, Option.bind_some, px_up_cell, px_up_slot, px_up_eq, ne_eq, Nat.reduceEqDiff, not_false_eq_true, Int.reduceEq, Int.reduceLT, Int.reduceLE, Int.reduceNeg, decide_true, decide_false, Bool.and_true, Bool.true_and, Bool.and_false, Bool.false_and, and_self, and_true, true_and, and_false, false_and, bi_T, bi_F, not_true_eq_false, Bool.false_eq_true, kg_1, R_Tin_within, R_Tin_isBand, bi_f hz]
    · rw [eq_Mod_band_0]
      simp only [px_rd_mk, px_wr_mk, Int.reduceToNat, Int.toNat_natCast, if_true, if_false, Option.bind_some, px_up_cell, px_up_slot, px_up_eq, ne_eq, Nat.reduceEqDiff, not_false_eq_true, Int.reduceEq, Int.reduceLT, Int.reduceLE, Int.reduceNeg, decide_true, decide_false, Bool.and_true, Bool.true_and, Bool.and_false, Bool.false_and, and_self, and_true, true_and, and_false, false_and, bi_T, bi_F, not_true_eq_false, Bool.false_eq_true, R_Mod_in]
      rw [eq_Mod_band_20]
      simp only [px_rd_mk, px_wr_mk, Int.reduceToNat, Int.toNat_natCast, if_true, if_false, Option.bind_some, px_up_cell, px_up_slot, px_up_eq, ne_eq, Nat.reduceEqDiff, not_false_eq_true, Int.reduceEq, Int.reduceLT, Int.reduceLE, Int.reduceNeg, decide_true, decide_false, Bool.and_true, Bool.true_and, Bool.and_false, Bool.false_and, and_self, and_true, true_and, and_false, false_and, bi_T, bi_F, not_true_eq_false, Bool.false_eq_true, kg_123, R_is hI hS (y := 1) (k := 1) rfl (by decide) y, bi_f hy]
theorem C_band_2 {h : hp} (C : CI h) (y z : Int) : AL h mm_Tin_band mm_Mod_band [(2, 1), (0, 2), (0, y), (0, z), (9, 0)] [(2, 123), (0, 2), (0, y), (0, z)] := by
  have C2 := C
  obtain ⟨n, ⟨hn, h8, h9⟩, hI, hT, hK, hS, hL, hR, hC, hKs, hW, hB⟩ := C2
  have c0 := hS.2.1 2 (by decide)
  have l0 : lim 2 = 6 := rfl
  by_cases hy : 0 ≤ y ∧ y < h (n + 1) 2
  · by_cases hz : 0 ≤ z ∧ z ≤ 3
    · obtain ⟨k, rfl⟩ := Int.eq_ofNat_of_zero_le hy.1
      obtain ⟨b, rfl⟩ := Int.eq_ofNat_of_zero_le hz.1
      have hb : b < 4 := by omega
      have e1 := R_Str_ofBand hn hI (x1 := 2) (x2 := (k : Int)) (x3 := (b : Int)) 2 k b rfl rfl rfl (by decide) (by omega)
      rw [show n + 13 + 2 = n + 15 from rfl, if_neg (by decide), show 5 * k + 0 + b = 5 * k + b from rfl] at e1
      have u1 : -2147483648 ≤ 4 * (k : Int) ∧ 4 * (k : Int) < 2147483648 := by omega
      have v1 : 4 * (k : Int) = ((4 * k : Nat) : Int) := by omega
      have u3 : -2147483648 ≤ ((4 * k : Nat) : Int) + (b : Int) ∧ ((4 * k : Nat) : Int) + (b : Int) < 2147483648 := by omega
      have v3 : ((4 * k : Nat) : Int) + (b : Int) = ((4 * k + b : Nat) : Int) := by omega
      have g4 : (decide ((0 : Int) ≤ ((4 * k + b : Nat) : Int)) && decide (((4 * k + b : Nat) : Int) < 48)) = true := gd_ok (by omega)
      have sq := hS.2.2.2.2.2.2.2.1 k hy.2 b hb
      refine AL_same C (h (n + 15) (5 * k + b)) ?_ ?_
      · rw [eq_Tin_band_0]
        simp only [px_rd_mk, px_wr_mk, Int.reduceToNat, Int.toNat_natCast, if_true, if_false, Option.bind_some, px_up_cell, px_up_slot, px_up_eq, ne_eq, Nat.reduceEqDiff, not_false_eq_true, Int.reduceEq, Int.reduceLT, Int.reduceLE, Int.reduceNeg, decide_true, decide_false, Bool.and_true, Bool.true_and, Bool.and_false, Bool.false_and, and_self, and_true, true_and, and_false, false_and, bi_T, bi_F, not_true_eq_false, Bool.false_eq_true, kg_1, R_Tin_within, R_Tin_isBand, bi_t hz]
        rw [eq_Tin_band_29]
        simp only [px_rd_mk, px_wr_mk, Int.reduceToNat, Int.toNat_natCast, if_true, if_false, Option.bind_some, px_up_cell, px_up_slot, px_up_eq, ne_eq, Nat.reduceEqDiff, not_false_eq_true, Int.reduceEq, Int.reduceLT, Int.reduceLE, Int.reduceNeg, decide_true, decide_false, Bool.and_true, Bool.true_and, Bool.and_false, Bool.false_and, and_self, and_true, true_and, and_false, false_and, bi_T, bi_F, not_true_eq_false, Bool.false_eq_true, kg_1, R_one hn h8 hI hS (y := 2) (k := 2) rfl (by decide) (k : Int), bi_t hy, h8, sgo hn, e1]
      · rw [eq_Mod_band_0]
        simp only [px_rd_mk, px_wr_mk, Int.reduceToNat, Int.toNat_natCast, if_true, if_false, Option.bind_some, px_up_cell, px_up_slot, px_up_eq, ne_eq, Nat.reduceEqDiff, not_false_eq_true, Int.reduceEq, Int.reduceLT, Int.reduceLE, Int.reduceNeg, decide_true, decide_false, Bool.and_true, Bool.true_and, Bool.and_false, Bool.false_and, and_self, and_true, true_and, and_false, false_and, bi_T, bi_F, not_true_eq_false, Bool.false_eq_true, R_Mod_in]
        rw [eq_Mod_band_20]
        simp only [px_rd_mk, px_wr_mk, Int.reduceToNat, Int.toNat_natCast, if_true, if_false, Option.bind_some, px_up_cell, px_up_slot, px_up_eq, ne_eq, Nat.reduceEqDiff, not_false_eq_true, Int.reduceEq, Int.reduceLT, Int.reduceLE, Int.reduceNeg, decide_true, decide_false, Bool.and_true, Bool.true_and, Bool.and_false, Bool.false_and, and_self, and_true, true_and, and_false, false_and, bi_T, bi_F, not_true_eq_false, Bool.false_eq_true, kg_123, ka_129, ir_123_0 hI, ir_123_12 hI, ir_123_13 hI, ir_123_14 hI, ir_123_15 hI, ir_123_16 hI, ir_123_17 hI, ir_123_18 hI, ir_123_19 hI, ir_123_20 hI, ir_123_21 hI, ir_123_30 hI, ir_123_31 hI, ir_123_32 hI, ir_123_33 hI, ir_123_34 hI, ir_123_35 hI, ir_123_36 hI, ir_123_37 hI, ir_123_38 hI, ir_123_39 hI, ir_123_41 hI, ir_123_42 hI, ir_123_44 hI, ir_123_45 hI, ir_123_46 hI, ir_123_50 hI, ir_123_54 hI, ir_123_55 hI, ir_123_56 hI, ir_123_57 hI, ir_123_58 hI, ir_123_59 hI, ir_123_60 hI, ir_123_61 hI, ir_123_62 hI, R_is hI hS (y := 2) (k := 2) rfl (by decide) (k : Int), bi_t hy, R_Mod_isBand, bi_t hz, (px_w_n u1).trans v1, (px_w_n u3).trans v3, g4, sq.1]
    · refine AL_same C (-2) ?_ ?_
      · rw [eq_Tin_band_0]
        simp only [px_rd_mk, px_wr_mk, Int.reduceToNat, Int.toNat_natCast, if_true, if_false, Option.bind_some, px_up_cell, px_up_slot, px_up_eq, ne_eq, Nat.reduceEqDiff, not_false_eq_true, Int.reduceEq, Int.reduceLT, Int.reduceLE, Int.reduceNeg, decide_true, decide_false, Bool.and_true, Bool.true_and, Bool.and_false, Bool.false_and, and_self, and_true, true_and, and_false, false_and, bi_T, bi_F, not_true_eq_false, Bool.false_eq_true, kg_1, R_Tin_within, R_Tin_isBand, bi_f hz]
      · rw [eq_Mod_band_0]
        simp only [px_rd_mk, px_wr_mk, Int.reduceToNat, Int.toNat_natCast, if_true, if_false, Option.bind_some, px_up_cell, px_up_slot, px_up_eq, ne_eq, Nat.reduceEqDiff, not_false_eq_true, Int.reduceEq, Int.reduceLT, Int.reduceLE, Int.reduceNeg, decide_true, decide_false, Bool.and_true, Bool.true_and, Bool.and_false, Bool.false_and, and_self, and_true, true_and, and_false, false_and, bi_T, bi_F, not_true_eq_false, Bool.false_eq_true, R_Mod_in]
        rw [eq_Mod_band_20]
        simp only [px_rd_mk, px_wr_mk, Int.reduceToNat, Int.toNat_natCast, if_true, if_false, Option.bind_some, px_up_cell, px_up_slot, px_up_eq, ne_eq, Nat.reduceEqDiff, not_false_eq_true, Int.reduceEq, Int.reduceLT, Int.reduceLE, Int.reduceNeg, decide_true, decide_false, Bool.and_true, Bool.true_and, Bool.and_false, Bool.false_and, and_self, and_true, true_and, and_false, false_and, bi_T, bi_F, not_true_eq_false, Bool.false_eq_true, kg_123, R_is hI hS (y := 2) (k := 2) rfl (by decide) y, bi_t hy, R_Mod_isBand, bi_f hz]
  · refine AL_same C (-2) ?_ ?_
    · rw [eq_Tin_band_0]
      by_cases hz : 0 ≤ z ∧ z ≤ 3
      · simp only [px_rd_mk, px_wr_mk, Int.reduceToNat, Int.toNat_natCast, if_true, if_false, Option.bind_some, px_up_cell, px_up_slot, px_up_eq, ne_eq, Nat.reduceEqDiff, not_false_eq_true, Int.reduceEq, Int.reduceLT, Int.reduceLE, Int.reduceNeg, decide_true, decide_false, Bool.and_true, Bool.true_and, Bool.and_false, Bool.false_and, and_self, and_true, true_and, and_false, false_and, bi_T, bi_F, not_true_eq_false, Bool.false_eq_true, kg_1, R_Tin_within, R_Tin_isBand, bi_t hz]
        rw [eq_Tin_band_29]
        simp only [px_rd_mk, px_wr_mk, Int.reduceToNat, Int.toNat_natCast, if_true, if_false, Option.bind_some, px_up_cell, px_up_slot, px_up_eq, ne_eq, Nat.reduceEqDiff, not_false_eq_true, Int.reduceEq, Int.reduceLT, Int.reduceLE, Int.reduceNeg, decide_true, decide_false, Bool.and_true, Bool.true_and, Bool.and_false, Bool.false_and, and_self, and_true, true_and, and_false, false_and, bi_T, bi_F, not_true_eq_false, Bool.false_eq_true, kg_1, R_one hn h8 hI hS (y := 2) (k := 2) rfl (by decide) y, bi_f hy]
      · simp only [px_rd_mk, px_wr_mk, Int.reduceToNat, Int.toNat_natCast, if_true, if_false, Option.bind_some, px_up_cell, px_up_slot, px_up_eq, ne_eq, Nat.reduceEqDiff, not_false_eq_true, Int.reduceEq, Int.reduceLT, Int.reduceLE, Int.reduceNeg, decide_true, decide_false, Bool.and_true, Bool.true_and, Bool.and_false, Bool.false_and, and_self, and_true, true_and, and_false, false_and, bi_T, bi_F, not_true_eq_false, Bool.false_eq_true, kg_1, R_Tin_within, R_Tin_isBand, bi_f hz]
    · rw [eq_Mod_band_0]
      simp only [px_rd_mk, px_wr_mk, Int.reduceToNat, Int.toNat_natCast, if_true, if_false, Option.bind_some, px_up_cell, px_up_slot, px_up_eq, ne_eq, Nat.reduceEqDiff, not_false_eq_true, Int.reduceEq, Int.reduceLT, Int.reduceLE, Int.reduceNeg, decide_true, decide_false, Bool.and_true, Bool.true_and, Bool.and_false, Bool.false_and, and_self, and_true, true_and, and_false, false_and, bi_T, bi_F, not_true_eq_false, Bool.false_eq_true, R_Mod_in]
      rw [eq_Mod_band_20]
      simp only [px_rd_mk, px_wr_mk, Int.reduceToNat, Int.toNat_natCast, if_true, if_false, Option.bind_some, px_up_cell, px_up_slot, px_up_eq, ne_eq, Nat.reduceEqDiff, not_false_eq_true, Int.reduceEq, Int.reduceLT, Int.reduceLE, Int.reduceNeg, decide_true, decide_false, Bool.and_true, Bool.true_and, Bool.and_false, Bool.false_and, and_self, and_true, true_and, and_false, false_and, bi_T, bi_F, not_true_eq_false, Bool.false_eq_true, kg_123, R_is hI hS (y := 2) (k := 2) rfl (by decide) y, bi_f hy]
theorem C_band_3 {h : hp} (C : CI h) (y z : Int) : AL h mm_Tin_band mm_Mod_band [(2, 1), (0, 3), (0, y), (0, z), (9, 0)] [(2, 123), (0, 3), (0, y), (0, z)] := by
  have C2 := C
  obtain ⟨n, ⟨hn, h8, h9⟩, hI, hT, hK, hS, hL, hR, hC, hKs, hW, hB⟩ := C2
  have c0 := hS.2.1 5 (by decide)
  have l0 : lim 5 = 4 := rfl
  by_cases hy : 0 ≤ y ∧ y < h (n + 1) 5
  · by_cases hz : 0 ≤ z ∧ z ≤ 3
    · obtain ⟨k, rfl⟩ := Int.eq_ofNat_of_zero_le hy.1
      obtain ⟨b, rfl⟩ := Int.eq_ofNat_of_zero_le hz.1
      have hb : b < 4 := by omega
      have e1 := R_Str_ofBand hn hI (x1 := 5) (x2 := (k : Int)) (x3 := (b : Int)) 5 k b rfl rfl rfl (by decide) (by omega)
      rw [show n + 13 + 5 = n + 18 from rfl, if_pos (by decide)] at e1
      have u1 : -2147483648 ≤ 5 * (k : Int) ∧ 5 * (k : Int) < 2147483648 := by omega
      have v1 : 5 * (k : Int) = ((5 * k : Nat) : Int) := by omega
      have u2 : -2147483648 ≤ ((5 * k : Nat) : Int) + 1 ∧ ((5 * k : Nat) : Int) + 1 < 2147483648 := by omega
      have v2 : ((5 * k : Nat) : Int) + 1 = ((5 * k + 1 : Nat) : Int) := by omega
      have u3 : -2147483648 ≤ ((5 * k + 1 : Nat) : Int) + (b : Int) ∧ ((5 * k + 1 : Nat) : Int) + (b : Int) < 2147483648 := by omega
      have v3 : ((5 * k + 1 : Nat) : Int) + (b : Int) = ((5 * k + 1 + b : Nat) : Int) := by omega
      have g4 : (decide ((0 : Int) ≤ ((5 * k + 1 + b : Nat) : Int)) && decide (((5 * k + 1 + b : Nat) : Int) < 40)) = true := gd_ok (by omega)
      have sq := (hS.2.2.2.2.2.2.2.2.2.2 k hy.2).2 b hb
      refine AL_same C (h (n + 18) (5 * k + 1 + b)) ?_ ?_
      · rw [eq_Tin_band_0]
        simp only [px_rd_mk, px_wr_mk, Int.reduceToNat, Int.toNat_natCast, if_true, if_false, Option.bind_some, px_up_cell, px_up_slot, px_up_eq, ne_eq, Nat.reduceEqDiff, not_false_eq_true, Int.reduceEq, Int.reduceLT, Int.reduceLE, Int.reduceNeg, decide_true, decide_false, Bool.and_true, Bool.true_and, Bool.and_false, Bool.false_and, and_self, and_true, true_and, and_false, false_and, bi_T, bi_F, not_true_eq_false, Bool.false_eq_true, kg_1, R_Tin_within, R_Tin_isBand, bi_t hz]
        rw [eq_Tin_band_29]
        simp only [px_rd_mk, px_wr_mk, Int.reduceToNat, Int.toNat_natCast, if_true, if_false, Option.bind_some, px_up_cell, px_up_slot, px_up_eq, ne_eq, Nat.reduceEqDiff, not_false_eq_true, Int.reduceEq, Int.reduceLT, Int.reduceLE, Int.reduceNeg, decide_true, decide_false, Bool.and_true, Bool.true_and, Bool.and_false, Bool.false_and, and_self, and_true, true_and, and_false, false_and, bi_T, bi_F, not_true_eq_false, Bool.false_eq_true, kg_1, R_one hn h8 hI hS (y := 5) (k := 5) rfl (by decide) (k : Int), bi_t hy, h8, sgo hn, e1]
      · rw [eq_Mod_band_0]
        simp only [px_rd_mk, px_wr_mk, Int.reduceToNat, Int.toNat_natCast, if_true, if_false, Option.bind_some, px_up_cell, px_up_slot, px_up_eq, ne_eq, Nat.reduceEqDiff, not_false_eq_true, Int.reduceEq, Int.reduceLT, Int.reduceLE, Int.reduceNeg, decide_true, decide_false, Bool.and_true, Bool.true_and, Bool.and_false, Bool.false_and, and_self, and_true, true_and, and_false, false_and, bi_T, bi_F, not_true_eq_false, Bool.false_eq_true, R_Mod_in]
        rw [eq_Mod_band_20]
        simp only [px_rd_mk, px_wr_mk, Int.reduceToNat, Int.toNat_natCast, if_true, if_false, Option.bind_some, px_up_cell, px_up_slot, px_up_eq, ne_eq, Nat.reduceEqDiff, not_false_eq_true, Int.reduceEq, Int.reduceLT, Int.reduceLE, Int.reduceNeg, decide_true, decide_false, Bool.and_true, Bool.true_and, Bool.and_false, Bool.false_and, and_self, and_true, true_and, and_false, false_and, bi_T, bi_F, not_true_eq_false, Bool.false_eq_true, kg_123, ka_134, ir_123_0 hI, ir_123_12 hI, ir_123_13 hI, ir_123_14 hI, ir_123_15 hI, ir_123_16 hI, ir_123_17 hI, ir_123_18 hI, ir_123_19 hI, ir_123_20 hI, ir_123_21 hI, ir_123_30 hI, ir_123_31 hI, ir_123_32 hI, ir_123_33 hI, ir_123_34 hI, ir_123_35 hI, ir_123_36 hI, ir_123_37 hI, ir_123_38 hI, ir_123_39 hI, ir_123_41 hI, ir_123_42 hI, ir_123_44 hI, ir_123_45 hI, ir_123_46 hI, ir_123_50 hI, ir_123_54 hI, ir_123_55 hI, ir_123_56 hI, ir_123_57 hI, ir_123_58 hI, ir_123_59 hI, ir_123_60 hI, ir_123_61 hI, ir_123_62 hI, R_is hI hS (y := 5) (k := 5) rfl (by decide) (k : Int), bi_t hy, R_Mod_isBand, bi_t hz, (px_w_n u1).trans v1, (px_w_n u2).trans v2, (px_w_n u3).trans v3, g4, sq.1]
    · refine AL_same C (-2) ?_ ?_
      · rw [eq_Tin_band_0]
        simp only [px_rd_mk, px_wr_mk, Int.reduceToNat, Int.toNat_natCast, if_true, if_false, Option.bind_some, px_up_cell, px_up_slot, px_up_eq, ne_eq, Nat.reduceEqDiff, not_false_eq_true, Int.reduceEq, Int.reduceLT, Int.reduceLE, Int.reduceNeg, decide_true, decide_false, Bool.and_true, Bool.true_and, Bool.and_false, Bool.false_and, and_self, and_true, true_and, and_false, false_and, bi_T, bi_F, not_true_eq_false, Bool.false_eq_true, kg_1, R_Tin_within, R_Tin_isBand, bi_f hz]
      · rw [eq_Mod_band_0]
        simp only [px_rd_mk, px_wr_mk, Int.reduceToNat, Int.toNat_natCast, if_true, if_false, Option.bind_some, px_up_cell, px_up_slot, px_up_eq, ne_eq, Nat.reduceEqDiff, not_false_eq_true, Int.reduceEq, Int.reduceLT, Int.reduceLE, Int.reduceNeg, decide_true, decide_false, Bool.and_true, Bool.true_and, Bool.and_false, Bool.false_and, and_self, and_true, true_and, and_false, false_and, bi_T, bi_F, not_true_eq_false, Bool.false_eq_true, R_Mod_in]
        rw [eq_Mod_band_20]
        simp only [px_rd_mk, px_wr_mk, Int.reduceToNat, Int.toNat_natCast, if_true, if_false, Option.bind_some, px_up_cell, px_up_slot, px_up_eq, ne_eq, Nat.reduceEqDiff, not_false_eq_true, Int.reduceEq, Int.reduceLT, Int.reduceLE, Int.reduceNeg, decide_true, decide_false, Bool.and_true, Bool.true_and, Bool.and_false, Bool.false_and, and_self, and_true, true_and, and_false, false_and, bi_T, bi_F, not_true_eq_false, Bool.false_eq_true, kg_123, R_is hI hS (y := 5) (k := 5) rfl (by decide) y, bi_t hy, R_Mod_isBand, bi_f hz]
  · refine AL_same C (-2) ?_ ?_
    · rw [eq_Tin_band_0]
      by_cases hz : 0 ≤ z ∧ z ≤ 3
      · simp only [px_rd_mk, px_wr_mk, Int.reduceToNat, Int.toNat_natCast, if_true, if_false, Option.bind_some, px_up_cell, px_up_slot, px_up_eq, ne_eq, Nat.reduceEqDiff, not_false_eq_true, Int.reduceEq, Int.reduceLT, Int.reduceLE, Int.reduceNeg, decide_true, decide_false, Bool.and_true, Bool.true_and, Bool.and_false, Bool.false_and, and_self, and_true, true_and, and_false, false_and, bi_T, bi_F, not_true_eq_false, Bool.false_eq_true, kg_1, R_Tin_within, R_Tin_isBand, bi_t hz]
        rw [eq_Tin_band_29]
        simp only [px_rd_mk, px_wr_mk, Int.reduceToNat, Int.toNat_natCast, if_true, if_false, Option.bind_some, px_up_cell, px_up_slot, px_up_eq, ne_eq, Nat.reduceEqDiff, not_false_eq_true, Int.reduceEq, Int.reduceLT, Int.reduceLE, Int.reduceNeg, decide_true, decide_false, Bool.and_true, Bool.true_and, Bool.and_false, Bool.false_and, and_self, and_true, true_and, and_false, false_and, bi_T, bi_F, not_true_eq_false, Bool.false_eq_true, kg_1, R_one hn h8 hI hS (y := 5) (k := 5) rfl (by decide) y, bi_f hy]
      · simp only [px_rd_mk, px_wr_mk, Int.reduceToNat, Int.toNat_natCast, if_true, if_false, Option.bind_some, px_up_cell, px_up_slot, px_up_eq, ne_eq, Nat.reduceEqDiff, not_false_eq_true, Int.reduceEq, Int.reduceLT, Int.reduceLE, Int.reduceNeg, decide_true, decide_false, Bool.and_true, Bool.true_and, Bool.and_false, Bool.false_and, and_self, and_true, true_and, and_false, false_and, bi_T, bi_F, not_true_eq_false, Bool.false_eq_true, kg_1, R_Tin_within, R_Tin_isBand, bi_f hz]
    · rw [eq_Mod_band_0]
      simp only [px_rd_mk, px_wr_mk, Int.reduceToNat, Int.toNat_natCast, if_true, if_false, Option.bind_some, px_up_cell, px_up_slot, px_up_eq, ne_eq, Nat.reduceEqDiff, not_false_eq_true, Int.reduceEq, Int.reduceLT, Int.reduceLE, Int.reduceNeg, decide_true, decide_false, Bool.and_true, Bool.true_and, Bool.and_false, Bool.false_and, and_self, and_true, true_and, and_false, false_and, bi_T, bi_F, not_true_eq_false, Bool.false_eq_true, R_Mod_in]
      rw [eq_Mod_band_20]
      simp only [px_rd_mk, px_wr_mk, Int.reduceToNat, Int.toNat_natCast, if_true, if_false, Option.bind_some, px_up_cell, px_up_slot, px_up_eq, ne_eq, Nat.reduceEqDiff, not_false_eq_true, Int.reduceEq, Int.reduceLT, Int.reduceLE, Int.reduceNeg, decide_true, decide_false, Bool.and_true, Bool.true_and, Bool.and_false, Bool.false_and, and_self, and_true, true_and, and_false, false_and, bi_T, bi_F, not_true_eq_false, Bool.false_eq_true, kg_123, R_is hI hS (y := 5) (k := 5) rfl (by decide) y, bi_f hy]
theorem C_band {h : hp} (C : CI h) (x y z : Int) : AL h mm_Tin_band mm_Mod_band [(2, 1), (0, x), (0, y), (0, z), (9, 0)] [(2, 123), (0, x), (0, y), (0, z)] := by
  by_cases hx : 0 ≤ x ∧ x ≤ 3
  · have hx3 : x = 0 ∨ x = 1 ∨ x = 2 ∨ x = 3 := by omega
    rcases hx3 with rfl | rfl | rfl | rfl
    · exact C_band_0 C y z
    · exact C_band_1 C y z
    · exact C_band_2 C y z
    · exact C_band_3 C y z
  · refine AL_same C (-2) ?_ ?_
    · rw [eq_Tin_band_0]
      simp only [px_rd_mk, px_wr_mk, Int.reduceToNat, Int.toNat_natCast, if_true, if_false, Option.bind_some, px_up_cell, px_up_slot, px_up_eq, ne_eq, Nat.reduceEqDiff, not_false_eq_true, Int.reduceEq, Int.reduceLT, Int.reduceLE, Int.reduceNeg, decide_true, decide_false, Bool.and_true, Bool.true_and, Bool.and_false, Bool.false_and, and_self, and_true, true_and, and_false, false_and, bi_T, bi_F, not_true_eq_false, Bool.false_eq_true, R_Tin_within, bi_f hx]
    · rw [eq_Mod_band_0]
      simp only [px_rd_mk, px_wr_mk, Int.reduceToNat, Int.toNat_natCast, if_true, if_false, Option.bind_some, px_up_cell, px_up_slot, px_up_eq, ne_eq, Nat.reduceEqDiff, not_false_eq_true, Int.reduceEq, Int.reduceLT, Int.reduceLE, Int.reduceNeg, decide_true, decide_false, Bool.and_true, Bool.true_and, Bool.and_false, Bool.false_and, and_self, and_true, true_and, and_false, false_and, bi_T, bi_F, not_true_eq_false, Bool.false_eq_true, R_Mod_in, bi_f hx]
