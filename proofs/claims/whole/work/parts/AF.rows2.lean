/-! The calls of rows. -/
theorem R_isCell {h : hp} (hI : IR h) (hC : CR2 h h) (hR : RW h) (x : Int) : px_R (mm_Mod_isCell, 0, [(2, 123), (0, x)], [], (K0, h)) = some (bi (0 ≤ x ∧ x < h 101 0), (K0, h)) := by
  have h1 := hR.1
  have w1 : px_w (h 101 0 - 1) = h 101 0 - 1 := px_w_id (by omega) (by omega)
  rw [eq_Mod_isCell_0]
  simp only [px_rd_mk, px_wr_mk, Int.reduceToNat, Int.toNat_natCast, if_true, if_false, Option.bind_some, px_up_cell, px_up_slot, px_up_eq, ne_eq, Nat.reduceEqDiff, not_false_eq_true, Int.reduceEq, Int.reduceLT, Int.reduceLE, Int.reduceNeg, decide_true, decide_false, Bool.and_true, Bool.true_and, Bool.and_false, Bool.false_and, and_self, and_true, true_and, and_false, false_and, bi_T, bi_F, not_true_eq_false, Bool.false_eq_true, kg_123, ka_140, ir_123_0 hI, ir_123_12 hI, ir_123_13 hI, ir_123_14 hI, ir_123_15 hI, ir_123_16 hI, ir_123_17 hI, ir_123_18 hI, ir_123_19 hI, ir_123_20 hI, ir_123_21 hI, ir_123_30 hI, ir_123_31 hI, ir_123_32 hI, ir_123_33 hI, ir_123_34 hI, ir_123_35 hI, ir_123_36 hI, ir_123_37 hI, ir_123_38 hI, ir_123_39 hI, ir_123_41 hI, ir_123_42 hI, ir_123_44 hI, ir_123_45 hI, ir_123_46 hI, ir_123_50 hI, ir_123_54 hI, ir_123_55 hI, ir_123_56 hI, ir_123_57 hI, ir_123_58 hI, ir_123_59 hI, ir_123_60 hI, ir_123_61 hI, ir_123_62 hI, hC.1, w1, R_Mod_in, bi_ok, show (decide ((0 : Int) ≤ 0) && decide ((0 : Int) < 648)) = true from rfl]
  rw [bi_c (q := 0 ≤ x ∧ x < h 101 0) (by omega)]
theorem CR2_up {c m : hp} (C : CR2 c m) {t i a o : Nat} (ht : t < 4) (hi : i < 40) (ha : a = 102 + t) (ho : o = 2 + 40 * t + i) (v : Int) : CR2 (px_up c a i v) (px_up m 140 o v) := by
  subst ha ho
  obtain ⟨d1, d2, d3, d4, d5⟩ := C
  have k0 : px_up m 140 (2 + 40 * t + i) v 140 0 = m 140 0 := px_up_slot _ _ _ _ (by omega)
  have k1 : px_up m 140 (2 + 40 * t + i) v 140 1 = m 140 1 := px_up_slot _ _ _ _ (by omega)
  have k2 : ∀ b, px_up m 140 (2 + 40 * t + i) v 141 b = m 141 b := fun b => px_up_cell _ _ _ _ (by omega)
  have k3 : ∀ b, px_up c (102 + t) i v 101 b = c 101 b := fun b => px_up_cell _ _ _ _ (by omega)
  unfold CR2
  rw [k0, k1, k2, k2, k3, k3, k3, k3]
  refine ⟨d1, d2, d3, d4, fun j hj => ?_⟩
  obtain ⟨c1, c2, c3, c4⟩ := d5 j hj
  rw [px_up_at, px_up_at, px_up_at, px_up_at]
  unfold px_up
  refine ⟨?_, ?_, ?_, ?_⟩
  · by_cases e : t = 0 ∧ j = i
    · rw [if_pos (by omega), if_pos (by omega)]
    · rw [if_neg (by omega), if_neg (by omega)]; exact c1
  · by_cases e : t = 1 ∧ j = i
    · rw [if_pos (by omega), if_pos (by omega)]
    · rw [if_neg (by omega), if_neg (by omega)]; exact c2
  · by_cases e : t = 2 ∧ j = i
    · rw [if_pos (by omega), if_pos (by omega)]
    · rw [if_neg (by omega), if_neg (by omega)]; exact c3
  · by_cases e : t = 3 ∧ j = i
    · rw [if_pos (by omega), if_pos (by omega)]
    · rw [if_neg (by omega), if_neg (by omega)]; exact c4
theorem CR2_mix {c m k : hp} (C : CR2 c m) (e1 : ∀ a b : Nat, 101 ≤ a → a ≤ 105 → k a b = c a b) (e2 : ∀ b : Nat, b < 162 → k 140 b = m 140 b) (e3 : ∀ b : Nat, b < 2 → k 141 b = m 141 b) : CR2 k k := by
  obtain ⟨d1, d2, d3, d4, d5⟩ := C
  unfold CR2
  rw [e1 101 _ (by decide) (by decide), e1 101 _ (by decide) (by decide), e1 101 _ (by decide) (by decide), e1 101 _ (by decide) (by decide), e2 _ (by decide), e2 _ (by decide), e3 _ (by decide), e3 _ (by decide)]
  refine ⟨d1, d2, d3, d4, fun j hj => ?_⟩
  rw [e1 102 _ (by decide) (by decide), e1 103 _ (by decide) (by decide), e1 104 _ (by decide) (by decide), e1 105 _ (by decide) (by decide), e2 _ (by omega), e2 _ (by omega), e2 _ (by omega), e2 _ (by omega)]
  exact d5 j hj
theorem KS_e {h g : hp} (H : KS h) (e : ∀ a b : Nat, 107 ≤ a → a < 122 → g a b = h a b) (e1 : ∀ b, 162 ≤ b → g 140 b = h 140 b) (e2 : ∀ b, 2 ≤ b → g 141 b = h 141 b) (e0 : ∀ b, g 142 b = h 142 b) : KS g := fun s hs => KS1_e (e0 s) (fun a h1 h2 b => e a b (by omega) (by omega)) (fun b h1 _ => e1 b (by omega)) (fun b h1 _ => e2 b (by omega)) (H s hs)
theorem RW_mix {c k : hp} (H : RW c) (e1 : ∀ a b : Nat, 101 ≤ a → a ≤ 105 → k a b = c a b) : RW k := by
  refine ⟨by rw [e1 101 _ (by decide) (by decide)]; exact H.1, fun j hj => ?_⟩
  rw [e1 102 _ (by decide) (by decide), e1 103 _ (by decide) (by decide), e1 104 _ (by decide) (by decide), e1 105 _ (by decide) (by decide)]
  exact H.2 j hj
theorem RW_pull {h : hp} (H : RW h) {a : Nat} (ha : a = 102 ∨ a = 103) (i : Nat) {v : Int} (hv : -999999 ≤ v ∧ v ≤ 999999) : RW (px_up h a i v) := by
  refine ⟨by rw [px_up_cell _ _ _ _ (by omega)]; exact H.1, fun j hj => ?_⟩
  obtain ⟨r1, r2, r3, r4, r5⟩ := H.2 j hj
  rw [px_up_cell (x := 104) _ _ _ _ (by omega), px_up_cell (x := 105) _ _ _ _ (by omega)]
  unfold px_up
  refine ⟨?_, ?_, r3, r4, r5⟩ <;> split <;> assumption
theorem C_out {h : hp} (C : CI h) (x : Int) : AL h mm_Tin_out mm_Mod_out [(2, 1), (0, x)] [(2, 123), (0, x)] := by
  have C2 := C
  obtain ⟨n, ⟨hn, h8, h9⟩, hI, hT, hK, hS, hL, hR, hC, hKs, hW, hB⟩ := C2
  by_cases hx : 0 ≤ x ∧ x ≤ 1
  · have hb : (decide ((0 : Int) ≤ x) && decide (x < 8)) = true := by simp; omega
    by_cases h0 : x = 0
    · subst h0
      refine AL_same C (h 101 2) ?_ ?_
      · rw [eq_Tin_out_0, R_Tin_within, bi_t hx]
        simp only [px_rd_mk, px_wr_mk, Int.reduceToNat, Int.toNat_natCast, if_true, if_false, Option.bind_some, px_up_cell, px_up_slot, px_up_eq, ne_eq, Nat.reduceEqDiff, not_false_eq_true, Int.reduceEq, Int.reduceLT, Int.reduceLE, Int.reduceNeg, decide_true, decide_false, Bool.and_true, Bool.true_and, Bool.and_false, Bool.false_and, and_self, and_true, true_and, and_false, false_and, bi_T, bi_F, not_true_eq_false, Bool.false_eq_true, kg_1, kg_101, ir_1_0 hI, ir_1_1 hI, ir_1_2 hI, ir_1_3 hI, ir_1_4 hI, ir_1_5 hI, ir_1_6 hI, ir_1_7 hI]
      · rw [eq_Mod_out_0, R_Mod_in, bi_t hx]
        simp only [px_rd_mk, px_wr_mk, Int.reduceToNat, Int.toNat_natCast, if_true, if_false, Option.bind_some, px_up_cell, px_up_slot, px_up_eq, ne_eq, Nat.reduceEqDiff, not_false_eq_true, Int.reduceEq, Int.reduceLT, Int.reduceLE, Int.reduceNeg, decide_true, decide_false, Bool.and_true, Bool.true_and, Bool.and_false, Bool.false_and, and_self, and_true, true_and, and_false, false_and, bi_T, bi_F, not_true_eq_false, Bool.false_eq_true, kg_123, ka_141, ir_123_0 hI, ir_123_12 hI, ir_123_13 hI, ir_123_14 hI, ir_123_15 hI, ir_123_16 hI, ir_123_17 hI, ir_123_18 hI, ir_123_19 hI, ir_123_20 hI, ir_123_21 hI, ir_123_30 hI, ir_123_31 hI, ir_123_32 hI, ir_123_33 hI, ir_123_34 hI, ir_123_35 hI, ir_123_36 hI, ir_123_37 hI, ir_123_38 hI, ir_123_39 hI, ir_123_41 hI, ir_123_42 hI, ir_123_44 hI, ir_123_45 hI, ir_123_46 hI, ir_123_50 hI, ir_123_54 hI, ir_123_55 hI, ir_123_56 hI, ir_123_57 hI, ir_123_58 hI, ir_123_59 hI, ir_123_60 hI, ir_123_61 hI, ir_123_62 hI, hb, hC.2.2.1]
    · have h1 : x = 1 := by omega
      subst h1
      refine AL_same C (h 101 3) ?_ ?_
      · rw [eq_Tin_out_0, R_Tin_within, bi_t hx]
        simp only [px_rd_mk, px_wr_mk, Int.reduceToNat, Int.toNat_natCast, if_true, if_false, Option.bind_some, px_up_cell, px_up_slot, px_up_eq, ne_eq, Nat.reduceEqDiff, not_false_eq_true, Int.reduceEq, Int.reduceLT, Int.reduceLE, Int.reduceNeg, decide_true, decide_false, Bool.and_true, Bool.true_and, Bool.and_false, Bool.false_and, and_self, and_true, true_and, and_false, false_and, bi_T, bi_F, not_true_eq_false, Bool.false_eq_true, kg_1, kg_101, ir_1_0 hI, ir_1_1 hI, ir_1_2 hI, ir_1_3 hI, ir_1_4 hI, ir_1_5 hI, ir_1_6 hI, ir_1_7 hI]
      · rw [eq_Mod_out_0, R_Mod_in, bi_t hx]
        simp only [px_rd_mk, px_wr_mk, Int.reduceToNat, Int.toNat_natCast, if_true, if_false, Option.bind_some, px_up_cell, px_up_slot, px_up_eq, ne_eq, Nat.reduceEqDiff, not_false_eq_true, Int.reduceEq, Int.reduceLT, Int.reduceLE, Int.reduceNeg, decide_true, decide_false, Bool.and_true, Bool.true_and, Bool.and_false, Bool.false_and, and_self, and_true, true_and, and_false, false_and, bi_T, bi_F, not_true_eq_false, Bool.false_eq_true, kg_123, ka_141, ir_123_0 hI, ir_123_12 hI, ir_123_13 hI, ir_123_14 hI, ir_123_15 hI, ir_123_16 hI, ir_123_17 hI, ir_123_18 hI, ir_123_19 hI, ir_123_20 hI, ir_123_21 hI, ir_123_30 hI, ir_123_31 hI, ir_123_32 hI, ir_123_33 hI, ir_123_34 hI, ir_123_35 hI, ir_123_36 hI, ir_123_37 hI, ir_123_38 hI, ir_123_39 hI, ir_123_41 hI, ir_123_42 hI, ir_123_44 hI, ir_123_45 hI, ir_123_46 hI, ir_123_50 hI, ir_123_54 hI, ir_123_55 hI, ir_123_56 hI, ir_123_57 hI, ir_123_58 hI, ir_123_59 hI, ir_123_60 hI, ir_123_61 hI, ir_123_62 hI, hb, hC.2.2.2.1]
  · refine AL_same C (-2000000000) ?_ ?_
    · rw [eq_Tin_out_0, R_Tin_within, bi_f hx]
      simp only [px_rd_mk, px_wr_mk, Int.reduceToNat, Int.toNat_natCast, if_true, if_false, Option.bind_some, px_up_cell, px_up_slot, px_up_eq, ne_eq, Nat.reduceEqDiff, not_false_eq_true, Int.reduceEq, Int.reduceLT, Int.reduceLE, Int.reduceNeg, decide_true, decide_false, Bool.and_true, Bool.true_and, Bool.and_false, Bool.false_and, and_self, and_true, true_and, and_false, false_and, bi_T, bi_F, not_true_eq_false, Bool.false_eq_true]
    · rw [eq_Mod_out_0, R_Mod_in, bi_f hx]
      simp only [px_rd_mk, px_wr_mk, Int.reduceToNat, Int.toNat_natCast, if_true, if_false, Option.bind_some, px_up_cell, px_up_slot, px_up_eq, ne_eq, Nat.reduceEqDiff, not_false_eq_true, Int.reduceEq, Int.reduceLT, Int.reduceLE, Int.reduceNeg, decide_true, decide_false, Bool.and_true, Bool.true_and, Bool.and_false, Bool.false_and, and_self, and_true, true_and, and_false, false_and, bi_T, bi_F, not_true_eq_false, Bool.false_eq_true]
theorem C_goes {h : hp} (C : CI h) (x y : Int) : AL h mm_Tin_goes mm_Mod_goes [(2, 1), (0, x), (0, y)] [(2, 123), (0, x), (0, y)] := by
  have C2 := C
  obtain ⟨n, ⟨hn, h8, h9⟩, hI, hT, hK, hS, hL, hR, hC, hKs, hW, hB⟩ := C2
  have hR1 := hR.1
  have w1 : px_w (h 101 0 - 1) = h 101 0 - 1 := px_w_id (by omega) (by omega)
  by_cases hx : 0 ≤ x ∧ x < h 101 0
  · have hx2 : 0 ≤ x ∧ x ≤ h 101 0 - 1 := by omega
    obtain ⟨i, rfl⟩ := Int.eq_ofNat_of_zero_le hx.1
    have hi : i < 40 := by omega
    have hb : (decide ((0 : Int) ≤ (i : Int)) && decide ((i : Int) < 40)) = true := by simp; omega
    obtain ⟨c1, c2, c3, c4⟩ := hC.2.2.2.2 i hi
    by_cases hy : 0 ≤ y ∧ y ≤ 3
    · have b2 : (decide ((0 : Int) ≤ ((2 + i : Nat) : Int)) && decide (((2 + i : Nat) : Int) < 648)) = true := by simp; omega
      have b42 : (decide ((0 : Int) ≤ ((42 + i : Nat) : Int)) && decide (((42 + i : Nat) : Int) < 648)) = true := by simp; omega
      have b82 : (decide ((0 : Int) ≤ ((82 + i : Nat) : Int)) && decide (((82 + i : Nat) : Int) < 648)) = true := by simp; omega
      have b122 : (decide ((0 : Int) ≤ ((122 + i : Nat) : Int)) && decide (((122 + i : Nat) : Int) < 648)) = true := by simp; omega
      have v2 : px_w (px_w (2 + px_w (40 * 0)) + (i : Int)) = ((2 + i : Nat) : Int) := px_w_cn 2 hi (by decide)
      have v42 : px_w (px_w (2 + px_w (40 * 1)) + (i : Int)) = ((42 + i : Nat) : Int) := px_w_cn 42 hi (by decide)
      have v82 : px_w (px_w (2 + px_w (40 * 2)) + (i : Int)) = ((82 + i : Nat) : Int) := px_w_cn 82 hi (by decide)
      have v122 : px_w (px_w (2 + px_w (40 * 3)) + (i : Int)) = ((122 + i : Nat) : Int) := px_w_cn 122 hi (by decide)
      have hy4 : y = 0 ∨ y = 1 ∨ y = 2 ∨ y = 3 := by omega
      rcases hy4 with rfl | rfl | rfl | rfl
      · refine AL_same C (h 102 i) ?_ ?_
        · rw [eq_Tin_goes_0]
          simp only [px_rd_mk, px_wr_mk, Int.reduceToNat, Int.toNat_natCast, if_true, if_false, Option.bind_some, px_up_cell, px_up_slot, px_up_eq, ne_eq, Nat.reduceEqDiff, not_false_eq_true, Int.reduceEq, Int.reduceLT, Int.reduceLE, Int.reduceNeg, decide_true, decide_false, Bool.and_true, Bool.true_and, Bool.and_false, Bool.false_and, and_self, and_true, true_and, and_false, false_and, bi_T, bi_F, not_true_eq_false, Bool.false_eq_true, kg_1, kg_101, ka_102, ir_1_0 hI, ir_1_1 hI, ir_1_2 hI, ir_1_3 hI, ir_1_4 hI, ir_1_5 hI, ir_1_6 hI, ir_1_7 hI, ir_101_4 hI, ir_101_5 hI, ir_101_6 hI, ir_101_7 hI, w1, R_Tin_within, bi_t hx2, hb]
        · rw [eq_Mod_goes_0]
          simp only [px_rd_mk, px_wr_mk, Int.reduceToNat, Int.toNat_natCast, if_true, if_false, Option.bind_some, px_up_cell, px_up_slot, px_up_eq, ne_eq, Nat.reduceEqDiff, not_false_eq_true, Int.reduceEq, Int.reduceLT, Int.reduceLE, Int.reduceNeg, decide_true, decide_false, Bool.and_true, Bool.true_and, Bool.and_false, Bool.false_and, and_self, and_true, true_and, and_false, false_and, bi_T, bi_F, not_true_eq_false, Bool.false_eq_true, kg_123, ka_140, ir_123_0 hI, ir_123_12 hI, ir_123_13 hI, ir_123_14 hI, ir_123_15 hI, ir_123_16 hI, ir_123_17 hI, ir_123_18 hI, ir_123_19 hI, ir_123_20 hI, ir_123_21 hI, ir_123_30 hI, ir_123_31 hI, ir_123_32 hI, ir_123_33 hI, ir_123_34 hI, ir_123_35 hI, ir_123_36 hI, ir_123_37 hI, ir_123_38 hI, ir_123_39 hI, ir_123_41 hI, ir_123_42 hI, ir_123_44 hI, ir_123_45 hI, ir_123_46 hI, ir_123_50 hI, ir_123_54 hI, ir_123_55 hI, ir_123_56 hI, ir_123_57 hI, ir_123_58 hI, ir_123_59 hI, ir_123_60 hI, ir_123_61 hI, ir_123_62 hI, R_isCell hI hC hR, bi_t hx, R_Mod_in, bi_t hy, v2, b2, c1]
      · refine AL_same C (h 103 i) ?_ ?_
        · rw [eq_Tin_goes_0]
          simp only [px_rd_mk, px_wr_mk, Int.reduceToNat, Int.toNat_natCast, if_true, if_false, Option.bind_some, px_up_cell, px_up_slot, px_up_eq, ne_eq, Nat.reduceEqDiff, not_false_eq_true, Int.reduceEq, Int.reduceLT, Int.reduceLE, Int.reduceNeg, decide_true, decide_false, Bool.and_true, Bool.true_and, Bool.and_false, Bool.false_and, and_self, and_true, true_and, and_false, false_and, bi_T, bi_F, not_true_eq_false, Bool.false_eq_true, kg_1, kg_101, ka_103, ir_1_0 hI, ir_1_1 hI, ir_1_2 hI, ir_1_3 hI, ir_1_4 hI, ir_1_5 hI, ir_1_6 hI, ir_1_7 hI, ir_101_4 hI, ir_101_5 hI, ir_101_6 hI, ir_101_7 hI, w1, R_Tin_within, bi_t hx2, hb]
        · rw [eq_Mod_goes_0]
          simp only [px_rd_mk, px_wr_mk, Int.reduceToNat, Int.toNat_natCast, if_true, if_false, Option.bind_some, px_up_cell, px_up_slot, px_up_eq, ne_eq, Nat.reduceEqDiff, not_false_eq_true, Int.reduceEq, Int.reduceLT, Int.reduceLE, Int.reduceNeg, decide_true, decide_false, Bool.and_true, Bool.true_and, Bool.and_false, Bool.false_and, and_self, and_true, true_and, and_false, false_and, bi_T, bi_F, not_true_eq_false, Bool.false_eq_true, kg_123, ka_140, ir_123_0 hI, ir_123_12 hI, ir_123_13 hI, ir_123_14 hI, ir_123_15 hI, ir_123_16 hI, ir_123_17 hI, ir_123_18 hI, ir_123_19 hI, ir_123_20 hI, ir_123_21 hI, ir_123_30 hI, ir_123_31 hI, ir_123_32 hI, ir_123_33 hI, ir_123_34 hI, ir_123_35 hI, ir_123_36 hI, ir_123_37 hI, ir_123_38 hI, ir_123_39 hI, ir_123_41 hI, ir_123_42 hI, ir_123_44 hI, ir_123_45 hI, ir_123_46 hI, ir_123_50 hI, ir_123_54 hI, ir_123_55 hI, ir_123_56 hI, ir_123_57 hI, ir_123_58 hI, ir_123_59 hI, ir_123_60 hI, ir_123_61 hI, ir_123_62 hI, R_isCell hI hC hR, bi_t hx, R_Mod_in, bi_t hy, v42, b42, c2]
      · refine AL_same C (h 104 i) ?_ ?_
        · rw [eq_Tin_goes_0]
          simp only [px_rd_mk, px_wr_mk, Int.reduceToNat, Int.toNat_natCast, if_true, if_false, Option.bind_some, px_up_cell, px_up_slot, px_up_eq, ne_eq, Nat.reduceEqDiff, not_false_eq_true, Int.reduceEq, Int.reduceLT, Int.reduceLE, Int.reduceNeg, decide_true, decide_false, Bool.and_true, Bool.true_and, Bool.and_false, Bool.false_and, and_self, and_true, true_and, and_false, false_and, bi_T, bi_F, not_true_eq_false, Bool.false_eq_true, kg_1, kg_101, ka_104, ir_1_0 hI, ir_1_1 hI, ir_1_2 hI, ir_1_3 hI, ir_1_4 hI, ir_1_5 hI, ir_1_6 hI, ir_1_7 hI, ir_101_4 hI, ir_101_5 hI, ir_101_6 hI, ir_101_7 hI, w1, R_Tin_within, bi_t hx2, hb]
        · rw [eq_Mod_goes_0]
          simp only [px_rd_mk, px_wr_mk, Int.reduceToNat, Int.toNat_natCast, if_true, if_false, Option.bind_some, px_up_cell, px_up_slot, px_up_eq, ne_eq, Nat.reduceEqDiff, not_false_eq_true, Int.reduceEq, Int.reduceLT, Int.reduceLE, Int.reduceNeg, decide_true, decide_false, Bool.and_true, Bool.true_and, Bool.and_false, Bool.false_and, and_self, and_true, true_and, and_false, false_and, bi_T, bi_F, not_true_eq_false, Bool.false_eq_true, kg_123, ka_140, ir_123_0 hI, ir_123_12 hI, ir_123_13 hI, ir_123_14 hI, ir_123_15 hI, ir_123_16 hI, ir_123_17 hI, ir_123_18 hI, ir_123_19 hI, ir_123_20 hI, ir_123_21 hI, ir_123_30 hI, ir_123_31 hI, ir_123_32 hI, ir_123_33 hI, ir_123_34 hI, ir_123_35 hI, ir_123_36 hI, ir_123_37 hI, ir_123_38 hI, ir_123_39 hI, ir_123_41 hI, ir_123_42 hI, ir_123_44 hI, ir_123_45 hI, ir_123_46 hI, ir_123_50 hI, ir_123_54 hI, ir_123_55 hI, ir_123_56 hI, ir_123_57 hI, ir_123_58 hI, ir_123_59 hI, ir_123_60 hI, ir_123_61 hI, ir_123_62 hI, R_isCell hI hC hR, bi_t hx, R_Mod_in, bi_t hy, v82, b82, c3]
      · refine AL_same C (h 105 i) ?_ ?_
        · rw [eq_Tin_goes_0]
          simp only [px_rd_mk, px_wr_mk, Int.reduceToNat, Int.toNat_natCast, if_true, if_false, Option.bind_some, px_up_cell, px_up_slot, px_up_eq, ne_eq, Nat.reduceEqDiff, not_false_eq_true, Int.reduceEq, Int.reduceLT, Int.reduceLE, Int.reduceNeg, decide_true, decide_false, Bool.and_true, Bool.true_and, Bool.and_false, Bool.false_and, and_self, and_true, true_and, and_false, false_and, bi_T, bi_F, not_true_eq_false, Bool.false_eq_true, kg_1, kg_101, ka_105, ir_1_0 hI, ir_1_1 hI, ir_1_2 hI, ir_1_3 hI, ir_1_4 hI, ir_1_5 hI, ir_1_6 hI, ir_1_7 hI, ir_101_4 hI, ir_101_5 hI, ir_101_6 hI, ir_101_7 hI, w1, R_Tin_within, bi_t hx2, hb]
        · rw [eq_Mod_goes_0]
          simp only [px_rd_mk, px_wr_mk, Int.reduceToNat, Int.toNat_natCast, if_true, if_false, Option.bind_some, px_up_cell, px_up_slot, px_up_eq, ne_eq, Nat.reduceEqDiff, not_false_eq_true, Int.reduceEq, Int.reduceLT, Int.reduceLE, Int.reduceNeg, decide_true, decide_false, Bool.and_true, Bool.true_and, Bool.and_false, Bool.false_and, and_self, and_true, true_and, and_false, false_and, bi_T, bi_F, not_true_eq_false, Bool.false_eq_true, kg_123, ka_140, ir_123_0 hI, ir_123_12 hI, ir_123_13 hI, ir_123_14 hI, ir_123_15 hI, ir_123_16 hI, ir_123_17 hI, ir_123_18 hI, ir_123_19 hI, ir_123_20 hI, ir_123_21 hI, ir_123_30 hI, ir_123_31 hI, ir_123_32 hI, ir_123_33 hI, ir_123_34 hI, ir_123_35 hI, ir_123_36 hI, ir_123_37 hI, ir_123_38 hI, ir_123_39 hI, ir_123_41 hI, ir_123_42 hI, ir_123_44 hI, ir_123_45 hI, ir_123_46 hI, ir_123_50 hI, ir_123_54 hI, ir_123_55 hI, ir_123_56 hI, ir_123_57 hI, ir_123_58 hI, ir_123_59 hI, ir_123_60 hI, ir_123_61 hI, ir_123_62 hI, R_isCell hI hC hR, bi_t hx, R_Mod_in, bi_t hy, v122, b122, c4]
    · have y0 : ¬ y = 0 := by omega
      have y1 : ¬ y = 1 := by omega
      have y2 : ¬ y = 2 := by omega
      have y3 : ¬ y = 3 := by omega
      refine AL_same C (-2000000000) ?_ ?_
      · rw [eq_Tin_goes_0]
        simp only [px_rd_mk, px_wr_mk, Int.reduceToNat, Int.toNat_natCast, if_true, if_false, Option.bind_some, px_up_cell, px_up_slot, px_up_eq, ne_eq, Nat.reduceEqDiff, not_false_eq_true, Int.reduceEq, Int.reduceLT, Int.reduceLE, Int.reduceNeg, decide_true, decide_false, Bool.and_true, Bool.true_and, Bool.and_false, Bool.false_and, and_self, and_true, true_and, and_false, false_and, bi_T, bi_F, not_true_eq_false, Bool.false_eq_true, kg_1, kg_101, ir_1_0 hI, ir_1_1 hI, ir_1_2 hI, ir_1_3 hI, ir_1_4 hI, ir_1_5 hI, ir_1_6 hI, ir_1_7 hI, ir_101_4 hI, ir_101_5 hI, ir_101_6 hI, ir_101_7 hI, w1, R_Tin_within, bi_t hx2, y0, y1, y2, y3]
      · rw [eq_Mod_goes_0]
        simp only [px_rd_mk, px_wr_mk, Int.reduceToNat, Int.toNat_natCast, if_true, if_false, Option.bind_some, px_up_cell, px_up_slot, px_up_eq, ne_eq, Nat.reduceEqDiff, not_false_eq_true, Int.reduceEq, Int.reduceLT, Int.reduceLE, Int.reduceNeg, decide_true, decide_false, Bool.and_true, Bool.true_and, Bool.and_false, Bool.false_and, and_self, and_true, true_and, and_false, false_and, bi_T, bi_F, not_true_eq_false, Bool.false_eq_true, kg_123, ka_140, ir_123_0 hI, ir_123_12 hI, ir_123_13 hI, ir_123_14 hI, ir_123_15 hI, ir_123_16 hI, ir_123_17 hI, ir_123_18 hI, ir_123_19 hI, ir_123_20 hI, ir_123_21 hI, ir_123_30 hI, ir_123_31 hI, ir_123_32 hI, ir_123_33 hI, ir_123_34 hI, ir_123_35 hI, ir_123_36 hI, ir_123_37 hI, ir_123_38 hI, ir_123_39 hI, ir_123_41 hI, ir_123_42 hI, ir_123_44 hI, ir_123_45 hI, ir_123_46 hI, ir_123_50 hI, ir_123_54 hI, ir_123_55 hI, ir_123_56 hI, ir_123_57 hI, ir_123_58 hI, ir_123_59 hI, ir_123_60 hI, ir_123_61 hI, ir_123_62 hI, R_isCell hI hC hR, bi_t hx, R_Mod_in, bi_f hy]
  · have hx2 : ¬ (0 ≤ x ∧ x ≤ h 101 0 - 1) := by omega
    refine AL_same C (-2000000000) ?_ ?_
    · rw [eq_Tin_goes_0]
      simp only [px_rd_mk, px_wr_mk, Int.reduceToNat, Int.toNat_natCast, if_true, if_false, Option.bind_some, px_up_cell, px_up_slot, px_up_eq, ne_eq, Nat.reduceEqDiff, not_false_eq_true, Int.reduceEq, Int.reduceLT, Int.reduceLE, Int.reduceNeg, decide_true, decide_false, Bool.and_true, Bool.true_and, Bool.and_false, Bool.false_and, and_self, and_true, true_and, and_false, false_and, bi_T, bi_F, not_true_eq_false, Bool.false_eq_true, kg_1, kg_101, ir_1_0 hI, ir_1_1 hI, ir_1_2 hI, ir_1_3 hI, ir_1_4 hI, ir_1_5 hI, ir_1_6 hI, ir_1_7 hI, ir_101_4 hI, ir_101_5 hI, ir_101_6 hI, ir_101_7 hI, w1, R_Tin_within, bi_f hx2]
    · rw [eq_Mod_goes_0]
      simp only [px_rd_mk, px_wr_mk, Int.reduceToNat, Int.toNat_natCast, if_true, if_false, Option.bind_some, px_up_cell, px_up_slot, px_up_eq, ne_eq, Nat.reduceEqDiff, not_false_eq_true, Int.reduceEq, Int.reduceLT, Int.reduceLE, Int.reduceNeg, decide_true, decide_false, Bool.and_true, Bool.true_and, Bool.and_false, Bool.false_and, and_self, and_true, true_and, and_false, false_and, bi_T, bi_F, not_true_eq_false, Bool.false_eq_true, kg_123, ka_140, ir_123_0 hI, ir_123_12 hI, ir_123_13 hI, ir_123_14 hI, ir_123_15 hI, ir_123_16 hI, ir_123_17 hI, ir_123_18 hI, ir_123_19 hI, ir_123_20 hI, ir_123_21 hI, ir_123_30 hI, ir_123_31 hI, ir_123_32 hI, ir_123_33 hI, ir_123_34 hI, ir_123_35 hI, ir_123_36 hI, ir_123_37 hI, ir_123_38 hI, ir_123_39 hI, ir_123_41 hI, ir_123_42 hI, ir_123_44 hI, ir_123_45 hI, ir_123_46 hI, ir_123_50 hI, ir_123_54 hI, ir_123_55 hI, ir_123_56 hI, ir_123_57 hI, ir_123_58 hI, ir_123_59 hI, ir_123_60 hI, ir_123_61 hI, ir_123_62 hI, R_isCell hI hC hR, bi_f hx]
theorem C_cell {h : hp} (C : CI h) (x y z : Int) (hyr : -2147483648 ≤ y ∧ y < 2147483648) : AL h mm_Tin_cell mm_Mod_cell [(2, 1), (0, x), (0, y), (0, z)] [(2, 123), (0, x), (0, y), (0, z)] := by
  have C2 := C
  obtain ⟨n, ⟨hn, h8, h9⟩, hI, hT, hK, hS, hL, hR, hC, hKs, hW, hB⟩ := C2
  have hR1 := hR.1
  have w1 : px_w (h 101 0 - 1) = h 101 0 - 1 := px_w_id (by omega) (by omega)
  by_cases hx : 0 ≤ x ∧ x < h 101 0
  · have hx2 : 0 ≤ x ∧ x ≤ h 101 0 - 1 := by omega
    obtain ⟨i, rfl⟩ := Int.eq_ofNat_of_zero_le hx.1
    have hi : i < 40 := by omega
    have hb : (decide ((0 : Int) ≤ (i : Int)) && decide ((i : Int) < 40)) = true := by simp; omega
    by_cases hy : 0 ≤ y ∧ y ≤ 100
    · by_cases hz : 0 ≤ z ∧ z ≤ 100 - y
      · have hz2 : 0 ≤ z ∧ z ≤ 100 := by omega
        have hs : ¬ (100 < y + z) := by omega
        have u1 : -2147483648 ≤ 100 - y ∧ 100 - y < 2147483648 := by omega
        have u2 : -2147483648 ≤ y + z ∧ y + z < 2147483648 := by omega
        have b82 : (decide ((0 : Int) ≤ ((82 + i : Nat) : Int)) && decide (((82 + i : Nat) : Int) < 648)) = true := by simp; omega
        have b122 : (decide ((0 : Int) ≤ ((122 + i : Nat) : Int)) && decide (((122 + i : Nat) : Int) < 648)) = true := by simp; omega
        have v82 : px_w (82 + (i : Int)) = ((82 + i : Nat) : Int) := px_w_cn 82 hi (by decide)
        have v122 : px_w (122 + (i : Int)) = ((122 + i : Nat) : Int) := px_w_cn 122 hi (by decide)
        have F0 : Fr [104, 105] [] h (px_up (px_up h 104 i y) 105 i z) := Fr_up (Fr_up (Fr_rf _ _ _) _ rfl) _ rfl
        have F : Fr [104, 105, 140] [] h (px_up (px_up (px_up (px_up h 104 i y) 105 i z) 140 (82 + i) y) 140 (122 + i) z) := Fr_up (Fr_up (Fr_up (Fr_up (Fr_rf _ _ _) _ rfl) _ rfl) _ rfl) _ rfl
        have I0 := IR_Fr hI F0 (by decide)
        have cc : px_R (mm_Mod_isCell, 0, [(2, 123), (0, (i : Int))], [], (K0, px_up (px_up h 104 i y) 105 i z)) = some (bi (0 ≤ (i : Int) ∧ (i : Int) < h 101 0), (K0, px_up (px_up h 104 i y) 105 i z)) := by
          rw [eq_Mod_isCell_0]
          simp only [px_rd_mk, px_wr_mk, Int.reduceToNat, Int.toNat_natCast, if_true, if_false, Option.bind_some, px_up_cell, px_up_slot, px_up_eq, ne_eq, Nat.reduceEqDiff, not_false_eq_true, Int.reduceEq, Int.reduceLT, Int.reduceLE, Int.reduceNeg, decide_true, decide_false, Bool.and_true, Bool.true_and, Bool.and_false, Bool.false_and, and_self, and_true, true_and, and_false, false_and, bi_T, bi_F, not_true_eq_false, Bool.false_eq_true, kg_123, ka_140, ir_123_0 hI, ir_123_12 hI, ir_123_13 hI, ir_123_14 hI, ir_123_15 hI, ir_123_16 hI, ir_123_17 hI, ir_123_18 hI, ir_123_19 hI, ir_123_20 hI, ir_123_21 hI, ir_123_30 hI, ir_123_31 hI, ir_123_32 hI, ir_123_33 hI, ir_123_34 hI, ir_123_35 hI, ir_123_36 hI, ir_123_37 hI, ir_123_38 hI, ir_123_39 hI, ir_123_41 hI, ir_123_42 hI, ir_123_44 hI, ir_123_45 hI, ir_123_46 hI, ir_123_50 hI, ir_123_54 hI, ir_123_55 hI, ir_123_56 hI, ir_123_57 hI, ir_123_58 hI, ir_123_59 hI, ir_123_60 hI, ir_123_61 hI, ir_123_62 hI, hC.1, w1, R_Mod_in, bi_ok, show (decide ((0 : Int) ≤ 0) && decide ((0 : Int) < 648)) = true from rfl]
          rw [bi_c (q := 0 ≤ (i : Int) ∧ (i : Int) < h 101 0) (by omega)]
        refine ⟨1, px_up (px_up h 104 i y) 105 i z, px_up (px_up (px_up (px_up h 104 i y) 105 i z) 140 (82 + i) y) 140 (122 + i) z, ?_, ?_, ⟨n, SP_F F rfl ⟨hn, h8, h9⟩, IR_Fr hI F (by decide), TP_F F rfl hT, FK_F F rfl hK, ST_F hn F rfl hS, LI_F hn F rfl hL, ?_, ?_, ?_, WI_F hn F rfl hW, BK_F hn F rfl hB⟩⟩
        · rw [eq_Tin_cell_0]
          simp only [px_rd_mk, px_wr_mk, Int.reduceToNat, Int.toNat_natCast, if_true, if_false, Option.bind_some, px_up_cell, px_up_slot, px_up_eq, ne_eq, Nat.reduceEqDiff, not_false_eq_true, Int.reduceEq, Int.reduceLT, Int.reduceLE, Int.reduceNeg, decide_true, decide_false, Bool.and_true, Bool.true_and, Bool.and_false, Bool.false_and, and_self, and_true, true_and, and_false, false_and, bi_T, bi_F, not_true_eq_false, Bool.false_eq_true, kg_1, kg_101, ka_104, ka_105, ir_1_0 hI, ir_1_1 hI, ir_1_2 hI, ir_1_3 hI, ir_1_4 hI, ir_1_5 hI, ir_1_6 hI, ir_1_7 hI, ir_101_4 hI, ir_101_5 hI, ir_101_6 hI, ir_101_7 hI, w1, R_Tin_within, bi_t hx2, bi_t hy, px_w_id u1.1 u1.2, bi_t hz, hb]
        · rw [eq_Mod_cell_0]
          simp only [px_rd_mk, px_wr_mk, Int.reduceToNat, Int.toNat_natCast, if_true, if_false, Option.bind_some, px_up_cell, px_up_slot, px_up_eq, ne_eq, Nat.reduceEqDiff, not_false_eq_true, Int.reduceEq, Int.reduceLT, Int.reduceLE, Int.reduceNeg, decide_true, decide_false, Bool.and_true, Bool.true_and, Bool.and_false, Bool.false_and, and_self, and_true, true_and, and_false, false_and, bi_T, bi_F, not_true_eq_false, Bool.false_eq_true, kg_123, ka_140, ir_123_0 hI, ir_123_12 hI, ir_123_13 hI, ir_123_14 hI, ir_123_15 hI, ir_123_16 hI, ir_123_17 hI, ir_123_18 hI, ir_123_19 hI, ir_123_20 hI, ir_123_21 hI, ir_123_30 hI, ir_123_31 hI, ir_123_32 hI, ir_123_33 hI, ir_123_34 hI, ir_123_35 hI, ir_123_36 hI, ir_123_37 hI, ir_123_38 hI, ir_123_39 hI, ir_123_41 hI, ir_123_42 hI, ir_123_44 hI, ir_123_45 hI, ir_123_46 hI, ir_123_50 hI, ir_123_54 hI, ir_123_55 hI, ir_123_56 hI, ir_123_57 hI, ir_123_58 hI, ir_123_59 hI, ir_123_60 hI, ir_123_61 hI, ir_123_62 hI, cc, bi_t hx, R_Mod_in, bi_t hy, bi_t hz2, px_w_id u2.1 u2.2, hs, v82, b82, v122, b122]
        · refine RW_mix (c := px_up (px_up h 104 i y) 105 i z) ⟨hR.1, fun j hj => ?_⟩ fun a b _ _ => by
            rw [px_up_cell _ _ _ _ (by omega), px_up_cell _ _ _ _ (by omega)]
          obtain ⟨r1, r2, r3, r4, r5⟩ := hR.2 j hj
          simp only [px_up_cell, px_up_slot, px_up_eq, ne_eq, Nat.reduceEqDiff, not_false_eq_true, px_up_at]
          refine ⟨r1, r2, ?_, ?_, ?_⟩ <;> (repeat' split) <;> omega
        · exact CR2_mix (CR2_up (CR2_up hC (t := 2) (by decide) hi rfl rfl y) (t := 3) (by decide) hi rfl rfl z) (fun a b _ _ => by
            rw [px_up_cell _ _ _ _ (by omega), px_up_cell _ _ _ _ (by omega)]) (fun b _ => rfl) (fun b _ => rfl)
        · exact KS_e hKs (fun a b _ _ => Fr_rg F 107 122 rfl (by omega) (by omega) b) (fun b _ => by
            rw [px_up_slot _ _ _ _ (by omega), px_up_slot _ _ _ _ (by omega)]; rfl) (fun b _ => rfl) (fun b => rfl)
      · have u1 : -2147483648 ≤ 100 - y ∧ 100 - y < 2147483648 := by omega
        refine AL_same C (-2) ?_ ?_
        · rw [eq_Tin_cell_0]
          simp only [px_rd_mk, px_wr_mk, Int.reduceToNat, Int.toNat_natCast, if_true, if_false, Option.bind_some, px_up_cell, px_up_slot, px_up_eq, ne_eq, Nat.reduceEqDiff, not_false_eq_true, Int.reduceEq, Int.reduceLT, Int.reduceLE, Int.reduceNeg, decide_true, decide_false, Bool.and_true, Bool.true_and, Bool.and_false, Bool.false_and, and_self, and_true, true_and, and_false, false_and, bi_T, bi_F, not_true_eq_false, Bool.false_eq_true, kg_1, kg_101, ka_104, ka_105, ir_1_0 hI, ir_1_1 hI, ir_1_2 hI, ir_1_3 hI, ir_1_4 hI, ir_1_5 hI, ir_1_6 hI, ir_1_7 hI, ir_101_4 hI, ir_101_5 hI, ir_101_6 hI, ir_101_7 hI, w1, R_Tin_within, bi_t hx2, bi_t hy, px_w_id u1.1 u1.2, bi_f hz, hb]
        · by_cases hz2 : 0 ≤ z ∧ z ≤ 100
          · have hs : 100 < y + z := by omega
            have u2 : -2147483648 ≤ y + z ∧ y + z < 2147483648 := by omega
            rw [eq_Mod_cell_0]
            simp only [px_rd_mk, px_wr_mk, Int.reduceToNat, Int.toNat_natCast, if_true, if_false, Option.bind_some, px_up_cell, px_up_slot, px_up_eq, ne_eq, Nat.reduceEqDiff, not_false_eq_true, Int.reduceEq, Int.reduceLT, Int.reduceLE, Int.reduceNeg, decide_true, decide_false, Bool.and_true, Bool.true_and, Bool.and_false, Bool.false_and, and_self, and_true, true_and, and_false, false_and, bi_T, bi_F, not_true_eq_false, Bool.false_eq_true, kg_123, ka_140, ir_123_0 hI, ir_123_12 hI, ir_123_13 hI, ir_123_14 hI, ir_123_15 hI, ir_123_16 hI, ir_123_17 hI, ir_123_18 hI, ir_123_19 hI, ir_123_20 hI, ir_123_21 hI, ir_123_30 hI, ir_123_31 hI, ir_123_32 hI, ir_123_33 hI, ir_123_34 hI, ir_123_35 hI, ir_123_36 hI, ir_123_37 hI, ir_123_38 hI, ir_123_39 hI, ir_123_41 hI, ir_123_42 hI, ir_123_44 hI, ir_123_45 hI, ir_123_46 hI, ir_123_50 hI, ir_123_54 hI, ir_123_55 hI, ir_123_56 hI, ir_123_57 hI, ir_123_58 hI, ir_123_59 hI, ir_123_60 hI, ir_123_61 hI, ir_123_62 hI, R_isCell hI hC hR, bi_t hx, R_Mod_in, bi_t hy, bi_t hz2, px_w_id u2.1 u2.2, hs]
          · rw [eq_Mod_cell_0]
            simp only [px_rd_mk, px_wr_mk, Int.reduceToNat, Int.toNat_natCast, if_true, if_false, Option.bind_some, px_up_cell, px_up_slot, px_up_eq, ne_eq, Nat.reduceEqDiff, not_false_eq_true, Int.reduceEq, Int.reduceLT, Int.reduceLE, Int.reduceNeg, decide_true, decide_false, Bool.and_true, Bool.true_and, Bool.and_false, Bool.false_and, and_self, and_true, true_and, and_false, false_and, bi_T, bi_F, not_true_eq_false, Bool.false_eq_true, kg_123, ka_140, ir_123_0 hI, ir_123_12 hI, ir_123_13 hI, ir_123_14 hI, ir_123_15 hI, ir_123_16 hI, ir_123_17 hI, ir_123_18 hI, ir_123_19 hI, ir_123_20 hI, ir_123_21 hI, ir_123_30 hI, ir_123_31 hI, ir_123_32 hI, ir_123_33 hI, ir_123_34 hI, ir_123_35 hI, ir_123_36 hI, ir_123_37 hI, ir_123_38 hI, ir_123_39 hI, ir_123_41 hI, ir_123_42 hI, ir_123_44 hI, ir_123_45 hI, ir_123_46 hI, ir_123_50 hI, ir_123_54 hI, ir_123_55 hI, ir_123_56 hI, ir_123_57 hI, ir_123_58 hI, ir_123_59 hI, ir_123_60 hI, ir_123_61 hI, ir_123_62 hI, R_isCell hI hC hR, bi_t hx, R_Mod_in, bi_t hy, bi_f hz2]
    · refine AL_same C (-2) ?_ ?_
      · rw [eq_Tin_cell_0]
        simp only [px_rd_mk, px_wr_mk, Int.reduceToNat, Int.toNat_natCast, if_true, if_false, Option.bind_some, px_up_cell, px_up_slot, px_up_eq, ne_eq, Nat.reduceEqDiff, not_false_eq_true, Int.reduceEq, Int.reduceLT, Int.reduceLE, Int.reduceNeg, decide_true, decide_false, Bool.and_true, Bool.true_and, Bool.and_false, Bool.false_and, and_self, and_true, true_and, and_false, false_and, bi_T, bi_F, not_true_eq_false, Bool.false_eq_true, kg_1, kg_101, ka_104, ka_105, ir_1_0 hI, ir_1_1 hI, ir_1_2 hI, ir_1_3 hI, ir_1_4 hI, ir_1_5 hI, ir_1_6 hI, ir_1_7 hI, ir_101_4 hI, ir_101_5 hI, ir_101_6 hI, ir_101_7 hI, w1, R_Tin_within, bi_t hx2, bi_f hy]
      · rw [eq_Mod_cell_0]
        simp only [px_rd_mk, px_wr_mk, Int.reduceToNat, Int.toNat_natCast, if_true, if_false, Option.bind_some, px_up_cell, px_up_slot, px_up_eq, ne_eq, Nat.reduceEqDiff, not_false_eq_true, Int.reduceEq, Int.reduceLT, Int.reduceLE, Int.reduceNeg, decide_true, decide_false, Bool.and_true, Bool.true_and, Bool.and_false, Bool.false_and, and_self, and_true, true_and, and_false, false_and, bi_T, bi_F, not_true_eq_false, Bool.false_eq_true, kg_123, ka_140, ir_123_0 hI, ir_123_12 hI, ir_123_13 hI, ir_123_14 hI, ir_123_15 hI, ir_123_16 hI, ir_123_17 hI, ir_123_18 hI, ir_123_19 hI, ir_123_20 hI, ir_123_21 hI, ir_123_30 hI, ir_123_31 hI, ir_123_32 hI, ir_123_33 hI, ir_123_34 hI, ir_123_35 hI, ir_123_36 hI, ir_123_37 hI, ir_123_38 hI, ir_123_39 hI, ir_123_41 hI, ir_123_42 hI, ir_123_44 hI, ir_123_45 hI, ir_123_46 hI, ir_123_50 hI, ir_123_54 hI, ir_123_55 hI, ir_123_56 hI, ir_123_57 hI, ir_123_58 hI, ir_123_59 hI, ir_123_60 hI, ir_123_61 hI, ir_123_62 hI, R_isCell hI hC hR, bi_t hx, R_Mod_in, bi_f hy]
  · have hx2 : ¬ (0 ≤ x ∧ x ≤ h 101 0 - 1) := by omega
    refine AL_same C (-2) ?_ ?_
    · rw [eq_Tin_cell_0]
      simp only [px_rd_mk, px_wr_mk, Int.reduceToNat, Int.toNat_natCast, if_true, if_false, Option.bind_some, px_up_cell, px_up_slot, px_up_eq, ne_eq, Nat.reduceEqDiff, not_false_eq_true, Int.reduceEq, Int.reduceLT, Int.reduceLE, Int.reduceNeg, decide_true, decide_false, Bool.and_true, Bool.true_and, Bool.and_false, Bool.false_and, and_self, and_true, true_and, and_false, false_and, bi_T, bi_F, not_true_eq_false, Bool.false_eq_true, kg_1, kg_101, ir_1_0 hI, ir_1_1 hI, ir_1_2 hI, ir_1_3 hI, ir_1_4 hI, ir_1_5 hI, ir_1_6 hI, ir_1_7 hI, ir_101_4 hI, ir_101_5 hI, ir_101_6 hI, ir_101_7 hI, w1, R_Tin_within, bi_f hx2]
    · rw [eq_Mod_cell_0]
      simp only [px_rd_mk, px_wr_mk, Int.reduceToNat, Int.toNat_natCast, if_true, if_false, Option.bind_some, px_up_cell, px_up_slot, px_up_eq, ne_eq, Nat.reduceEqDiff, not_false_eq_true, Int.reduceEq, Int.reduceLT, Int.reduceLE, Int.reduceNeg, decide_true, decide_false, Bool.and_true, Bool.true_and, Bool.and_false, Bool.false_and, and_self, and_true, true_and, and_false, false_and, bi_T, bi_F, not_true_eq_false, Bool.false_eq_true, kg_123, ka_140, ir_123_0 hI, ir_123_12 hI, ir_123_13 hI, ir_123_14 hI, ir_123_15 hI, ir_123_16 hI, ir_123_17 hI, ir_123_18 hI, ir_123_19 hI, ir_123_20 hI, ir_123_21 hI, ir_123_30 hI, ir_123_31 hI, ir_123_32 hI, ir_123_33 hI, ir_123_34 hI, ir_123_35 hI, ir_123_36 hI, ir_123_37 hI, ir_123_38 hI, ir_123_39 hI, ir_123_41 hI, ir_123_42 hI, ir_123_44 hI, ir_123_45 hI, ir_123_46 hI, ir_123_50 hI, ir_123_54 hI, ir_123_55 hI, ir_123_56 hI, ir_123_57 hI, ir_123_58 hI, ir_123_59 hI, ir_123_60 hI, ir_123_61 hI, ir_123_62 hI, R_isCell hI hC hR, bi_f hx]
/-- the coupling after writes to toRight and toLeft -/
theorem C_send {h : hp} (C : CI h) (x y : Int) : AL h mm_Tin_send mm_Mod_send [(2, 1), (0, x), (0, y)] [(2, 123), (0, x), (0, y), (9, 0)] := by
  have C2 := C
  obtain ⟨n, ⟨hn, h8, h9⟩, hI, hT, hK, hS, hL, hR, hC, hKs, hW, hB⟩ := C2
  have hR1 := hR.1
  obtain ⟨N, hN⟩ := Int.eq_ofNat_of_zero_le (show 0 ≤ h 101 0 by omega)
  have hc0 : (decide ((0 : Int) ≤ 0) && decide ((0 : Int) < 648)) = true := rfl
  have hc2 : (decide ((0 : Int) ≤ 2) && decide ((2 : Int) < 648)) = true := rfl
  have hd0 : (decide ((0 : Int) ≤ 0) && decide ((0 : Int) < 40)) = true := rfl
  have hN2 : 2 ≤ N ∧ N ≤ 40 := by omega
  have hi : N - 1 < 40 := by omega
  have hdi : (decide ((0 : Int) ≤ ((N - 1 : Nat) : Int)) && decide (((N - 1 : Nat) : Int) < 40)) = true := by simp; omega
  have hci : (decide ((0 : Int) ≤ ((42 + (N - 1) : Nat) : Int)) && decide (((42 + (N - 1) : Nat) : Int) < 648)) = true := by simp; omega
  have wn : px_w ((N : Int) - 1) = ((N - 1 : Nat) : Int) := by rw [px_w_id (by omega) (by omega)]; omega
  have wm : px_w (px_w (42 + (N : Int)) - 1) = ((42 + (N - 1) : Nat) : Int) := by rw [px_w_id (x := 42 + (N : Int)) (by omega) (by omega), px_w_id (by omega) (by omega)]; omega
  by_cases hx : 0 ≤ x ∧ x ≤ 1
  · by_cases hy : -9999 ≤ y ∧ y ≤ 9999
    · have cr : ∀ z : Int, -999999 ≤ clp (-999999) 999999 z ∧ clp (-999999) 999999 z ≤ 999999 := fun z => clp_rng (by decide) z
      by_cases h0 : x = 0
      · subst h0
        have c1 := (hC.2.2.2.2 0 (by decide)).1
        rw [Nat.add_zero] at c1
        have r1 := (hR.2 0 (by decide)).1
        have wv : px_w (h 102 0 + y) = h 102 0 + y := px_w_id (by omega) (by omega)
        refine ⟨clp (-999999) 999999 (h 102 0 + y), px_up h 102 0 (clp (-999999) 999999 (h 102 0 + y)), px_up (px_up h 102 0 (clp (-999999) 999999 (h 102 0 + y))) 140 2 (clp (-999999) 999999 (h 102 0 + y)), ?_, ?_, ?_⟩
        · rw [eq_Tin_send_0]
          simp only [px_rd_mk, px_wr_mk, Int.reduceToNat, Int.toNat_natCast, if_true, if_false, Option.bind_some, px_up_cell, px_up_slot, px_up_eq, ne_eq, Nat.reduceEqDiff, not_false_eq_true, Int.reduceEq, Int.reduceLT, Int.reduceLE, Int.reduceNeg, decide_true, decide_false, Bool.and_true, Bool.true_and, Bool.and_false, Bool.false_and, and_self, and_true, true_and, and_false, false_and, bi_T, bi_F, not_true_eq_false, Bool.false_eq_true, kg_1, R_Tin_within, bi_t hx, bi_t hy, ir_1_0 hI, ir_1_1 hI, ir_1_2 hI, ir_1_3 hI, ir_1_4 hI, ir_1_5 hI, ir_1_6 hI, ir_1_7 hI]
          rw [eq_Row_pullAt_0]
          simp only [px_rd_mk, px_wr_mk, Int.reduceToNat, Int.toNat_natCast, if_true, if_false, Option.bind_some, px_up_cell, px_up_slot, px_up_eq, ne_eq, Nat.reduceEqDiff, not_false_eq_true, Int.reduceEq, Int.reduceLT, Int.reduceLE, Int.reduceNeg, decide_true, decide_false, Bool.and_true, Bool.true_and, Bool.and_false, Bool.false_and, and_self, and_true, true_and, and_false, false_and, bi_T, bi_F, not_true_eq_false, Bool.false_eq_true, kg_101, ka_102, ir_101_4 hI, ir_101_5 hI, ir_101_6 hI, ir_101_7 hI, hd0, R_Row_bounded, wv]
        · rw [eq_Mod_send_0]
          simp only [px_rd_mk, px_wr_mk, Int.reduceToNat, Int.toNat_natCast, if_true, if_false, Option.bind_some, px_up_cell, px_up_slot, px_up_eq, ne_eq, Nat.reduceEqDiff, not_false_eq_true, Int.reduceEq, Int.reduceLT, Int.reduceLE, Int.reduceNeg, decide_true, decide_false, Bool.and_true, Bool.true_and, Bool.and_false, Bool.false_and, and_self, and_true, true_and, and_false, false_and, bi_T, bi_F, not_true_eq_false, Bool.false_eq_true, R_Mod_in, bi_t hx, bi_t hy]
          rw [eq_Mod_send_44]
          simp only [px_rd_mk, px_wr_mk, Int.reduceToNat, Int.toNat_natCast, if_true, if_false, Option.bind_some, px_up_cell, px_up_slot, px_up_eq, ne_eq, Nat.reduceEqDiff, not_false_eq_true, Int.reduceEq, Int.reduceLT, Int.reduceLE, Int.reduceNeg, decide_true, decide_false, Bool.and_true, Bool.true_and, Bool.and_false, Bool.false_and, and_self, and_true, true_and, and_false, false_and, bi_T, bi_F, not_true_eq_false, Bool.false_eq_true, kg_123, ka_140, ir_123_0 hI, ir_123_12 hI, ir_123_13 hI, ir_123_14 hI, ir_123_15 hI, ir_123_16 hI, ir_123_17 hI, ir_123_18 hI, ir_123_19 hI, ir_123_20 hI, ir_123_21 hI, ir_123_30 hI, ir_123_31 hI, ir_123_32 hI, ir_123_33 hI, ir_123_34 hI, ir_123_35 hI, ir_123_36 hI, ir_123_37 hI, ir_123_38 hI, ir_123_39 hI, ir_123_41 hI, ir_123_42 hI, ir_123_44 hI, ir_123_45 hI, ir_123_46 hI, ir_123_50 hI, ir_123_54 hI, ir_123_55 hI, ir_123_56 hI, ir_123_57 hI, ir_123_58 hI, ir_123_59 hI, ir_123_60 hI, ir_123_61 hI, ir_123_62 hI, hc2, R_Mod_bounded, c1, wv]
        · have cv := cr (h 102 0 + y)
          generalize clp (-999999) 999999 (h 102 0 + y) = v at *
          have F : Fr [102, 140] [] h (px_up (px_up h 102 0 v) 140 2 v) := Fr_up (Fr_up (Fr_rf _ _ _) _ rfl) _ rfl
          exact ⟨n, SP_F F rfl ⟨hn, h8, h9⟩, IR_Fr hI F (by decide), TP_F F rfl hT, FK_F F rfl hK, ST_F hn F rfl hS, LI_F hn F rfl hL, RW_mix (RW_pull hR (Or.inl rfl) 0 cv) fun a b _ _ => by rw [px_up_cell _ _ _ _ (by omega)], CR2_mix (CR2_up hC (t := 0) (by decide) (show 0 < 40 by decide) rfl rfl v) (fun a b _ _ => by rw [px_up_cell _ _ _ _ (by omega)]) (fun b _ => rfl) (fun b _ => rfl), KS_e hKs (fun a b _ _ => Fr_rg F 107 122 rfl (by omega) (by omega) b) (fun b _ => by rw [px_up_slot _ _ _ _ (by omega)]; rfl) (fun b _ => rfl) (fun b => rfl), WI_F hn F rfl hW, BK_F hn F rfl hB⟩
      · have c1 := (hC.2.2.2.2 (N - 1) hi).2.1
        have r1 := (hR.2 (N - 1) hi).2.1
        have wv : px_w (h 103 (N - 1) + y) = h 103 (N - 1) + y := px_w_id (by omega) (by omega)
        refine ⟨clp (-999999) 999999 (h 103 (N - 1) + y), px_up h 103 (N - 1) (clp (-999999) 999999 (h 103 (N - 1) + y)), px_up (px_up h 103 (N - 1) (clp (-999999) 999999 (h 103 (N - 1) + y))) 140 (42 + (N - 1)) (clp (-999999) 999999 (h 103 (N - 1) + y)), ?_, ?_, ?_⟩
        · rw [eq_Tin_send_0]
          simp only [px_rd_mk, px_wr_mk, Int.reduceToNat, Int.toNat_natCast, if_true, if_false, Option.bind_some, px_up_cell, px_up_slot, px_up_eq, ne_eq, Nat.reduceEqDiff, not_false_eq_true, Int.reduceEq, Int.reduceLT, Int.reduceLE, Int.reduceNeg, decide_true, decide_false, Bool.and_true, Bool.true_and, Bool.and_false, Bool.false_and, and_self, and_true, true_and, and_false, false_and, bi_T, bi_F, not_true_eq_false, Bool.false_eq_true, kg_1, R_Tin_within, bi_t hx, bi_t hy, ir_1_0 hI, ir_1_1 hI, ir_1_2 hI, ir_1_3 hI, ir_1_4 hI, ir_1_5 hI, ir_1_6 hI, ir_1_7 hI]
          rw [eq_Row_pullAt_0]
          simp only [px_rd_mk, px_wr_mk, Int.reduceToNat, Int.toNat_natCast, if_true, if_false, Option.bind_some, px_up_cell, px_up_slot, px_up_eq, ne_eq, Nat.reduceEqDiff, not_false_eq_true, Int.reduceEq, Int.reduceLT, Int.reduceLE, Int.reduceNeg, decide_true, decide_false, Bool.and_true, Bool.true_and, Bool.and_false, Bool.false_and, and_self, and_true, true_and, and_false, false_and, bi_T, bi_F, not_true_eq_false, Bool.false_eq_true, kg_101, ka_103, ir_101_4 hI, ir_101_5 hI, ir_101_6 hI, ir_101_7 hI, hN, wn, h0, hdi, R_Row_bounded, wv]
        · rw [eq_Mod_send_0]
          simp only [px_rd_mk, px_wr_mk, Int.reduceToNat, Int.toNat_natCast, if_true, if_false, Option.bind_some, px_up_cell, px_up_slot, px_up_eq, ne_eq, Nat.reduceEqDiff, not_false_eq_true, Int.reduceEq, Int.reduceLT, Int.reduceLE, Int.reduceNeg, decide_true, decide_false, Bool.and_true, Bool.true_and, Bool.and_false, Bool.false_and, and_self, and_true, true_and, and_false, false_and, bi_T, bi_F, not_true_eq_false, Bool.false_eq_true, kg_123, ka_140, R_Mod_in, bi_t hx, bi_t hy, h0, ir_123_0 hI, ir_123_12 hI, ir_123_13 hI, ir_123_14 hI, ir_123_15 hI, ir_123_16 hI, ir_123_17 hI, ir_123_18 hI, ir_123_19 hI, ir_123_20 hI, ir_123_21 hI, ir_123_30 hI, ir_123_31 hI, ir_123_32 hI, ir_123_33 hI, ir_123_34 hI, ir_123_35 hI, ir_123_36 hI, ir_123_37 hI, ir_123_38 hI, ir_123_39 hI, ir_123_41 hI, ir_123_42 hI, ir_123_44 hI, ir_123_45 hI, ir_123_46 hI, ir_123_50 hI, ir_123_54 hI, ir_123_55 hI, ir_123_56 hI, ir_123_57 hI, ir_123_58 hI, ir_123_59 hI, ir_123_60 hI, ir_123_61 hI, ir_123_62 hI, hc0, hC.1, hN, wm]
          rw [eq_Mod_send_44]
          simp only [px_rd_mk, px_wr_mk, Int.reduceToNat, Int.toNat_natCast, if_true, if_false, Option.bind_some, px_up_cell, px_up_slot, px_up_eq, ne_eq, Nat.reduceEqDiff, not_false_eq_true, Int.reduceEq, Int.reduceLT, Int.reduceLE, Int.reduceNeg, decide_true, decide_false, Bool.and_true, Bool.true_and, Bool.and_false, Bool.false_and, and_self, and_true, true_and, and_false, false_and, bi_T, bi_F, not_true_eq_false, Bool.false_eq_true, kg_123, ka_140, ir_123_0 hI, ir_123_12 hI, ir_123_13 hI, ir_123_14 hI, ir_123_15 hI, ir_123_16 hI, ir_123_17 hI, ir_123_18 hI, ir_123_19 hI, ir_123_20 hI, ir_123_21 hI, ir_123_30 hI, ir_123_31 hI, ir_123_32 hI, ir_123_33 hI, ir_123_34 hI, ir_123_35 hI, ir_123_36 hI, ir_123_37 hI, ir_123_38 hI, ir_123_39 hI, ir_123_41 hI, ir_123_42 hI, ir_123_44 hI, ir_123_45 hI, ir_123_46 hI, ir_123_50 hI, ir_123_54 hI, ir_123_55 hI, ir_123_56 hI, ir_123_57 hI, ir_123_58 hI, ir_123_59 hI, ir_123_60 hI, ir_123_61 hI, ir_123_62 hI, hci, R_Mod_bounded, c1, wv]
        · have cv := cr (h 103 (N - 1) + y)
          generalize clp (-999999) 999999 (h 103 (N - 1) + y) = v at *
          have F : Fr [103, 140] [] h (px_up (px_up h 103 (N - 1) v) 140 (42 + (N - 1)) v) := Fr_up (Fr_up (Fr_rf _ _ _) _ rfl) _ rfl
          exact ⟨n, SP_F F rfl ⟨hn, h8, h9⟩, IR_Fr hI F (by decide), TP_F F rfl hT, FK_F F rfl hK, ST_F hn F rfl hS, LI_F hn F rfl hL, RW_mix (RW_pull hR (Or.inr rfl) (N - 1) cv) fun a b _ _ => by rw [px_up_cell _ _ _ _ (by omega)], CR2_mix (CR2_up hC (t := 1) (by decide) hi rfl rfl v) (fun a b _ _ => by rw [px_up_cell _ _ _ _ (by omega)]) (fun b _ => rfl) (fun b _ => rfl), KS_e hKs (fun a b _ _ => Fr_rg F 107 122 rfl (by omega) (by omega) b) (fun b _ => by rw [px_up_slot _ _ _ _ (by omega)]; rfl) (fun b _ => rfl) (fun b => rfl), WI_F hn F rfl hW, BK_F hn F rfl hB⟩
    · refine AL_same C (-2) ?_ ?_
      · rw [eq_Tin_send_0]
        simp only [px_rd_mk, px_wr_mk, Int.reduceToNat, Int.toNat_natCast, if_true, if_false, Option.bind_some, px_up_cell, px_up_slot, px_up_eq, ne_eq, Nat.reduceEqDiff, not_false_eq_true, Int.reduceEq, Int.reduceLT, Int.reduceLE, Int.reduceNeg, decide_true, decide_false, Bool.and_true, Bool.true_and, Bool.and_false, Bool.false_and, and_self, and_true, true_and, and_false, false_and, bi_T, bi_F, not_true_eq_false, Bool.false_eq_true, R_Tin_within, bi_t hx, bi_f hy]
      · rw [eq_Mod_send_0]
        simp only [px_rd_mk, px_wr_mk, Int.reduceToNat, Int.toNat_natCast, if_true, if_false, Option.bind_some, px_up_cell, px_up_slot, px_up_eq, ne_eq, Nat.reduceEqDiff, not_false_eq_true, Int.reduceEq, Int.reduceLT, Int.reduceLE, Int.reduceNeg, decide_true, decide_false, Bool.and_true, Bool.true_and, Bool.and_false, Bool.false_and, and_self, and_true, true_and, and_false, false_and, bi_T, bi_F, not_true_eq_false, Bool.false_eq_true, R_Mod_in, bi_t hx, bi_f hy]
  · refine AL_same C (-2) ?_ ?_
    · rw [eq_Tin_send_0]
      simp only [px_rd_mk, px_wr_mk, Int.reduceToNat, Int.toNat_natCast, if_true, if_false, Option.bind_some, px_up_cell, px_up_slot, px_up_eq, ne_eq, Nat.reduceEqDiff, not_false_eq_true, Int.reduceEq, Int.reduceLT, Int.reduceLE, Int.reduceNeg, decide_true, decide_false, Bool.and_true, Bool.true_and, Bool.and_false, Bool.false_and, and_self, and_true, true_and, and_false, false_and, bi_T, bi_F, not_true_eq_false, Bool.false_eq_true, R_Tin_within, bi_f hx]
    · rw [eq_Mod_send_0]
      simp only [px_rd_mk, px_wr_mk, Int.reduceToNat, Int.toNat_natCast, if_true, if_false, Option.bind_some, px_up_cell, px_up_slot, px_up_eq, ne_eq, Nat.reduceEqDiff, not_false_eq_true, Int.reduceEq, Int.reduceLT, Int.reduceLE, Int.reduceNeg, decide_true, decide_false, Bool.and_true, Bool.true_and, Bool.and_false, Bool.false_and, and_self, and_true, true_and, and_false, false_and, bi_T, bi_F, not_true_eq_false, Bool.false_eq_true, R_Mod_in, bi_f hx]
theorem C_tick {h : hp} (C : CI h) (x : Int) : AL h mm_Tin_tick mm_Mod_tick [(2, 1), (0, x), (9, 0)] [(2, 123), (0, x), (9, 0)] := by
  have C2 := C
  obtain ⟨n, ⟨hn, h8, h9⟩, hI, hT, hK, hS, hL, hR, hC, hKs, hW, hB⟩ := C2
  by_cases hx : 0 ≤ x ∧ x ≤ 400
  · obtain ⟨M, rfl⟩ := Int.eq_ofNat_of_zero_le hx.1
    have hM : M ≤ 400 := by omega
    have hR1 := hR.1
    obtain ⟨N, hN⟩ := Int.eq_ofNat_of_zero_le (show 0 ≤ h 101 0 by omega)
    obtain ⟨i1, i2, i3, i4⟩ := movn_ok hI hR hN M
    obtain ⟨j1, j4⟩ := tkn_ok i1 M N
    have m0 : movn h N M 140 = h 140 := funext fun b => i4 140 b rfl
    have m1 : movn h N M 141 = h 141 := funext fun b => i4 141 b rfl
    have C0 : CR2 h (movn h N M) := by
      unfold CR2
      rw [m0, m1]
      exact hC
    have CN := CR2_n hI C0 hR hN M
    have F : Fr [102, 103, 140, 141, 143, 144] [(101, 1), (101, 2), (101, 3)] h (tkn (movn h N M) N M) := Fr_sub (Fr_tr i4 j4) rfl rfl
    have a1 : tkn (movn h N M) N M 140 1 = movn h N M 101 1 := CN.2.1
    have e1 := Tin_tick_loop hI hR hN hM M 0 (Nat.zero_add M)
    have e2 := Mod_tick_loop i1 hI C0 hR hN hM M 0 (Nat.zero_add M)
    have mx : ∀ a b : Nat, 101 ≤ a → a ≤ 105 → tkn (movn h N M) N M a b = movn h N M a b := fun a b h1 h2 => Fr_rg j4 101 106 rfl h1 (by omega) b
    refine ⟨movn h N M 101 1, movn h N M, tkn (movn h N M) N M, ?_, ?_, ?_⟩
    · rw [eq_Tin_tick_0, R_Tin_within, bi_t hx]
      simp only [px_rd_mk, px_wr_mk, Int.reduceToNat, Int.toNat_natCast, if_true, if_false, Option.bind_some, px_up_cell, px_up_slot, px_up_eq, ne_eq, Nat.reduceEqDiff, not_false_eq_true, Int.reduceEq, Int.reduceLT, Int.reduceLE, Int.reduceNeg, decide_true, decide_false, Bool.and_true, Bool.true_and, Bool.and_false, Bool.false_and, and_self, and_true, true_and, and_false, false_and, bi_T, bi_F, not_true_eq_false, Bool.false_eq_true]
      exact e1
    · rw [eq_Mod_tick_0, R_Mod_in, bi_t hx]
      simp only [px_rd_mk, px_wr_mk, Int.reduceToNat, Int.toNat_natCast, if_true, if_false, Option.bind_some, px_up_cell, px_up_slot, px_up_eq, ne_eq, Nat.reduceEqDiff, not_false_eq_true, Int.reduceEq, Int.reduceLT, Int.reduceLE, Int.reduceNeg, decide_true, decide_false, Bool.and_true, Bool.true_and, Bool.and_false, Bool.false_and, and_self, and_true, true_and, and_false, false_and, bi_T, bi_F, not_true_eq_false, Bool.false_eq_true]
      rw [← a1]
      exact e2
    · have hs : ∀ n : Nat, (∀ b, 162 ≤ b → tkn (movn h N M) N n 140 b = h 140 b) ∧ ∀ b, 2 ≤ b → tkn (movn h N M) N n 141 b = h 141 b := by
        intro n
        induction n with
        | zero => exact ⟨fun b _ => congrFun m0 b, fun b _ => congrFun m1 b⟩
        | succ n ih => exact ⟨fun b hb => (tkd_140_s _ (by omega) (by omega)).trans (ih.1 b hb), fun b hb => (tkd_141_s _ hb).trans (ih.2 b hb)⟩
      exact ⟨n, SP_F F rfl ⟨hn, h8, h9⟩, IR_Fr hI F (by decide), TP_F F rfl hT, FK_F F rfl hK, ST_F hn F rfl hS, LI_F hn F rfl hL, RW_mix i2 mx, CR2_mix CN mx (fun b _ => rfl) (fun b _ => rfl), KS_e hKs (fun a b _ _ => Fr_rg F 107 122 rfl (by omega) (by omega) b) (hs M).1 (hs M).2 (fun b => F 142 b rfl), WI_F hn F rfl hW, BK_F hn F rfl hB⟩
  · refine AL_same C (-2) ?_ ?_
    · rw [eq_Tin_tick_0, R_Tin_within, bi_f hx]
      simp only [px_rd_mk, px_wr_mk, Int.reduceToNat, Int.toNat_natCast, if_true, if_false, Option.bind_some, px_up_cell, px_up_slot, px_up_eq, ne_eq, Nat.reduceEqDiff, not_false_eq_true, Int.reduceEq, Int.reduceLT, Int.reduceLE, Int.reduceNeg, decide_true, decide_false, Bool.and_true, Bool.true_and, Bool.and_false, Bool.false_and, and_self, and_true, true_and, and_false, false_and, bi_T, bi_F, not_true_eq_false, Bool.false_eq_true]
    · rw [eq_Mod_tick_0, R_Mod_in, bi_f hx]
      simp only [px_rd_mk, px_wr_mk, Int.reduceToNat, Int.toNat_natCast, if_true, if_false, Option.bind_some, px_up_cell, px_up_slot, px_up_eq, ne_eq, Nat.reduceEqDiff, not_false_eq_true, Int.reduceEq, Int.reduceLT, Int.reduceLE, Int.reduceNeg, decide_true, decide_false, Bool.and_true, Bool.true_and, Bool.and_false, Bool.false_and, and_self, and_true, true_and, and_false, false_and, bi_T, bi_F, not_true_eq_false, Bool.false_eq_true]
theorem C_count {h : hp} (C : CI h) (x : Int) : AL h mm_Tin_count mm_Mod_count [(2, 1), (0, x)] [(2, 123), (0, x)] := by
  have C2 := C
  obtain ⟨n, ⟨hn, h8, h9⟩, hI, hT, hK, hS, hL, hR, hC, hKs, hW, hB⟩ := C2
  have hc0 : (decide ((0 : Int) ≤ 0) && decide ((0 : Int) < 648)) = true := rfl
  have hc1 : (decide ((0 : Int) ≤ 1) && decide ((1 : Int) < 648)) = true := rfl
  obtain ⟨W, c, hw1, hw2, hw3, hw4, hw5⟩ := hW
  refine AL_same C (if x = 0 then h n 0 else if x = 1 then h 83 1 else if x = 2 then h 83 2 else if x = 3 then (c : Int) else if x = 4 then h 101 0 else if x = 5 then h 101 1 else if x = 6 then h 2 1 else -1) ?_ ?_
  · rw [eq_Tin_count_0]
    simp only [px_rd_mk, px_wr_mk, Int.reduceToNat, Int.toNat_natCast, if_true, if_false, Option.bind_some, px_up_cell, px_up_slot, px_up_eq, ne_eq, Nat.reduceEqDiff, not_false_eq_true, Int.reduceEq, Int.reduceLT, Int.reduceLE, Int.reduceNeg, decide_true, decide_false, Bool.and_true, Bool.true_and, Bool.and_false, Bool.false_and, and_self, and_true, true_and, and_false, false_and, bi_T, bi_F, not_true_eq_false, Bool.false_eq_true, kg_1, kg_2, kg_79, kg_83, kg_101, ir_1_0 hI, ir_1_1 hI, ir_1_2 hI, ir_1_3 hI, ir_1_4 hI, ir_1_5 hI, ir_1_6 hI, ir_1_7 hI, h8, sgo hn, hw1, R_Integer_bitCount hw2, hw4]
    (repeat' split) <;> rfl
  · rw [eq_Mod_count_0]
    simp only [px_rd_mk, px_wr_mk, Int.reduceToNat, Int.toNat_natCast, if_true, if_false, Option.bind_some, px_up_cell, px_up_slot, px_up_eq, ne_eq, Nat.reduceEqDiff, not_false_eq_true, Int.reduceEq, Int.reduceLT, Int.reduceLE, Int.reduceNeg, decide_true, decide_false, Bool.and_true, Bool.true_and, Bool.and_false, Bool.false_and, and_self, and_true, true_and, and_false, false_and, bi_T, bi_F, not_true_eq_false, Bool.false_eq_true, kg_123, ka_140, ir_123_0 hI, ir_123_12 hI, ir_123_13 hI, ir_123_14 hI, ir_123_15 hI, ir_123_16 hI, ir_123_17 hI, ir_123_18 hI, ir_123_19 hI, ir_123_20 hI, ir_123_21 hI, ir_123_30 hI, ir_123_31 hI, ir_123_32 hI, ir_123_33 hI, ir_123_34 hI, ir_123_35 hI, ir_123_36 hI, ir_123_37 hI, ir_123_38 hI, ir_123_39 hI, ir_123_41 hI, ir_123_42 hI, ir_123_44 hI, ir_123_45 hI, ir_123_46 hI, ir_123_50 hI, ir_123_54 hI, ir_123_55 hI, ir_123_56 hI, ir_123_57 hI, ir_123_58 hI, ir_123_59 hI, ir_123_60 hI, ir_123_61 hI, ir_123_62 hI, hS.1, hB.2.1.1, hB.2.2.1.1, hw3, hc0, hc1, hC.1, hC.2.1, hT.1]
    (repeat' split) <;> rfl
