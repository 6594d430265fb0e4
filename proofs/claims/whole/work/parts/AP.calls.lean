/-! The calls bears, through, share, level, told, band. -/
theorem R_lineLacks {n : Nat} (hn : n = 4 ∨ n = 26) {h : hp} (h8 : h 1 8 = (n : Int)) (hI : IR h) : px_R (mm_Tin_lineLacks, 0, [(2, 1)], [], (K0, h)) = some (bi (h (n + 1) 0 = 0 ∨ h (n + 1) 1 = 0), (K0, h)) := by
  rw [eq_Tin_lineLacks_0]
  simp only [px_rd_mk, px_wr_mk, Int.reduceToNat, Int.toNat_natCast, if_true, if_false, Option.bind_some, px_up_cell, px_up_slot, px_up_eq, ne_eq, Nat.reduceEqDiff, not_false_eq_true, Int.reduceEq, Int.reduceLT, Int.reduceLE, Int.reduceNeg, decide_true, decide_false, Bool.and_true, Bool.true_and, Bool.and_false, Bool.false_and, and_self, and_true, true_and, and_false, false_and, bi_T, bi_F, not_true_eq_false, Bool.false_eq_true, kg_1, h8, sgo hn, sr1 hn hI, sga1 hn]
  by_cases e : h (n + 1) 0 = 0
  · rw [if_pos e, bi_t (Or.inl e)]
  · rw [if_neg e]
    by_cases e1 : h (n + 1) 1 = 0
    · rw [if_pos e1, bi_t (Or.inr e1)]
    · rw [if_neg e1, bi_f (by omega)]
theorem R_hasStuff {n : Nat} {h : hp} (hI : IR h) (S : ST n h) : px_R (mm_Mod_hasStuff, 0, [(2, 123)], [], (K0, h)) = some (bi (0 < h (n + 1) 0), (K0, h)) := by
  have hc := ST_n S (k := 0) (by decide)
  rw [eq_Mod_hasStuff_0]
  simp only [px_rd_mk, px_wr_mk, Int.reduceToNat, Int.toNat_natCast, if_true, if_false, Option.bind_some, px_up_cell, px_up_slot, px_up_eq, ne_eq, Nat.reduceEqDiff, not_false_eq_true, Int.reduceEq, Int.reduceLT, Int.reduceLE, Int.reduceNeg, decide_true, decide_false, Bool.and_true, Bool.true_and, Bool.and_false, Bool.false_and, and_self, and_true, true_and, and_false, false_and, bi_T, bi_F, not_true_eq_false, Bool.false_eq_true, kg_123, ka_125, ir_123_0 hI, ir_123_12 hI, ir_123_13 hI, ir_123_14 hI, ir_123_15 hI, ir_123_16 hI, ir_123_17 hI, ir_123_18 hI, ir_123_19 hI, ir_123_20 hI, ir_123_21 hI, ir_123_30 hI, ir_123_31 hI, ir_123_32 hI, ir_123_33 hI, ir_123_34 hI, ir_123_35 hI, ir_123_36 hI, ir_123_37 hI, ir_123_38 hI, ir_123_39 hI, ir_123_41 hI, ir_123_42 hI, ir_123_44 hI, ir_123_45 hI, ir_123_46 hI, ir_123_50 hI, ir_123_54 hI, ir_123_55 hI, ir_123_56 hI, ir_123_57 hI, ir_123_58 hI, ir_123_59 hI, ir_123_60 hI, ir_123_61 hI, ir_123_62 hI, hc.1]
  by_cases e : 0 < h (n + 1) 0
  · rw [if_pos e, bi_t e]
  · rw [if_neg e, bi_f e]
theorem R_hasLine {n : Nat} {h : hp} (hI : IR h) (S : ST n h) : px_R (mm_Mod_hasLine, 0, [(2, 123)], [], (K0, h)) = some (bi (0 < h (n + 1) 0 ∧ 0 < h (n + 1) 1), (K0, h)) := by
  have hc := ST_n S (k := 1) (by decide)
  rw [eq_Mod_hasLine_0]
  simp only [px_rd_mk, px_wr_mk, Int.reduceToNat, Int.toNat_natCast, if_true, if_false, Option.bind_some, px_up_cell, px_up_slot, px_up_eq, ne_eq, Nat.reduceEqDiff, not_false_eq_true, Int.reduceEq, Int.reduceLT, Int.reduceLE, Int.reduceNeg, decide_true, decide_false, Bool.and_true, Bool.true_and, Bool.and_false, Bool.false_and, and_self, and_true, true_and, and_false, false_and, bi_T, bi_F, not_true_eq_false, Bool.false_eq_true, kg_123, ka_125, ir_123_0 hI, ir_123_12 hI, ir_123_13 hI, ir_123_14 hI, ir_123_15 hI, ir_123_16 hI, ir_123_17 hI, ir_123_18 hI, ir_123_19 hI, ir_123_20 hI, ir_123_21 hI, ir_123_30 hI, ir_123_31 hI, ir_123_32 hI, ir_123_33 hI, ir_123_34 hI, ir_123_35 hI, ir_123_36 hI, ir_123_37 hI, ir_123_38 hI, ir_123_39 hI, ir_123_41 hI, ir_123_42 hI, ir_123_44 hI, ir_123_45 hI, ir_123_46 hI, ir_123_50 hI, ir_123_54 hI, ir_123_55 hI, ir_123_56 hI, ir_123_57 hI, ir_123_58 hI, ir_123_59 hI, ir_123_60 hI, ir_123_61 hI, ir_123_62 hI, hc.1, R_hasStuff hI S]
  by_cases e : 0 < h (n + 1) 0
  · rw [bi_t e, if_neg (by decide)]
    by_cases e1 : 0 < h (n + 1) 1
    · rw [if_pos e1, bi_t ⟨e, e1⟩]
    · rw [if_neg e1, bi_f (by omega)]
  · rw [bi_f e, if_pos rfl, bi_f (by omega)]
theorem LI_s {n : Nat} {h : hp} (L : LI n h) (hc : 0 < h (n + 1) 0) : ∃ s : Nat, h 48 0 = (s : Int) ∧ h 123 24 = (s : Int) ∧ (s : Int) < h (n + 1) 0 := by
  obtain ⟨⟨a, b, c⟩, _⟩ := L
  obtain ⟨s, hs⟩ := Int.eq_ofNat_of_zero_le b
  exact ⟨s, hs, a.trans hs, by omega⟩
theorem LI_t {n : Nat} {h : hp} (L : LI n h) (hc : 0 < h (n + 1) 1) : ∃ s : Nat, h 48 1 = (s : Int) ∧ h 123 25 = (s : Int) ∧ (s : Int) < h (n + 1) 1 := by
  obtain ⟨_, ⟨a, b, c⟩, _⟩ := L
  obtain ⟨s, hs⟩ := Int.eq_ofNat_of_zero_le b
  exact ⟨s, hs, a.trans hs, by omega⟩
theorem LI_y {n : Nat} {h : hp} (L : LI n h) : ∃ s : Nat, h 48 2 = (s : Int) ∧ h 123 26 = (s : Int) ∧ s ≤ 400 ∧ 1 ≤ s := by
  obtain ⟨_, _, ⟨a, b, c⟩, _⟩ := L
  obtain ⟨s, hs⟩ := Int.eq_ofNat_of_zero_le (show 0 ≤ h 48 2 by omega)
  exact ⟨s, hs, a.trans hs, by omega, by omega⟩
theorem C_bears {h : hp} (C : CI h) (x : Int) : AL h mm_Tin_bears mm_Mod_bears [(2, 1), (0, x)] [(2, 123), (0, x)] := by
  have C2 := C
  obtain ⟨n, ⟨hn, h8, h9⟩, hI, hT, hK, hS, hL, hR, hC, hKs, hW, hB⟩ := C2
  by_cases hx : 0 ≤ x ∧ x ≤ 4
  · by_cases hc : h (n + 1) 0 = 0
    · have hc2 : ¬ 0 < h (n + 1) 0 := by omega
      refine AL_same C (-4) ?_ ?_
      · rw [eq_Tin_bears_0, R_Tin_within, bi_t hx]
        simp only [px_rd_mk, px_wr_mk, Int.reduceToNat, Int.toNat_natCast, if_true, if_false, Option.bind_some, px_up_cell, px_up_slot, px_up_eq, ne_eq, Nat.reduceEqDiff, not_false_eq_true, Int.reduceEq, Int.reduceLT, Int.reduceLE, Int.reduceNeg, decide_true, decide_false, Bool.and_true, Bool.true_and, Bool.and_false, Bool.false_and, and_self, and_true, true_and, and_false, false_and, bi_T, bi_F, not_true_eq_false, Bool.false_eq_true, kg_1, h8, sgo hn, sr1 hn hI, sga1 hn, hc]
      · rw [eq_Mod_bears_0, R_Mod_in, bi_t hx]
        simp only [px_rd_mk, px_wr_mk, Int.reduceToNat, Int.toNat_natCast, if_true, if_false, Option.bind_some, px_up_cell, px_up_slot, px_up_eq, ne_eq, Nat.reduceEqDiff, not_false_eq_true, Int.reduceEq, Int.reduceLT, Int.reduceLE, Int.reduceNeg, decide_true, decide_false, Bool.and_true, Bool.true_and, Bool.and_false, Bool.false_and, and_self, and_true, true_and, and_false, false_and, bi_T, bi_F, not_true_eq_false, Bool.false_eq_true, kg_123, R_hasStuff hI hS, bi_f hc2]
    · have c0 := ST_n hS (k := 0) (by decide)
      have hc2 : 0 < h (n + 1) 0 := by omega
      obtain ⟨s, s1, s2, s3⟩ := LI_s hL hc2
      have LB := LI_LB hL
      have hx5 : x = 0 ∨ x = 1 ∨ x = 2 ∨ x = 3 ∨ x = 4 := by omega
      have rs := R_strength hn hI hS s1 s3
      have rh := R_handsOn hn hI hS s1 s3 LB.1.2
      rcases hx5 with rfl | rfl | rfl | rfl | rfl
      · refine AL_same C (bsV n h s) ?_ ?_
        · rw [eq_Tin_bears_0, R_Tin_within, bi_t hx]
          simp only [px_rd_mk, px_wr_mk, Int.reduceToNat, Int.toNat_natCast, if_true, if_false, Option.bind_some, px_up_cell, px_up_slot, px_up_eq, ne_eq, Nat.reduceEqDiff, not_false_eq_true, Int.reduceEq, Int.reduceLT, Int.reduceLE, Int.reduceNeg, decide_true, decide_false, Bool.and_true, Bool.true_and, Bool.and_false, Bool.false_and, and_self, and_true, true_and, and_false, false_and, bi_T, bi_F, not_true_eq_false, Bool.false_eq_true, kg_1, kg_48, h8, sgo hn, sr1 hn hI, sga1 hn, hc, ir_1_0 hI, ir_1_1 hI, ir_1_2 hI, ir_1_3 hI, ir_1_4 hI, ir_1_5 hI, ir_1_6 hI, ir_1_7 hI, rs]
        · rw [eq_Mod_bears_0, R_Mod_in, bi_t hx]
          simp only [px_rd_mk, px_wr_mk, Int.reduceToNat, Int.toNat_natCast, if_true, if_false, Option.bind_some, px_up_cell, px_up_slot, px_up_eq, ne_eq, Nat.reduceEqDiff, not_false_eq_true, Int.reduceEq, Int.reduceLT, Int.reduceLE, Int.reduceNeg, decide_true, decide_false, Bool.and_true, Bool.true_and, Bool.and_false, Bool.false_and, and_self, and_true, true_and, and_false, false_and, bi_T, bi_F, not_true_eq_false, Bool.false_eq_true, kg_123, R_hasStuff hI hS, bi_t hc2, s2, R_bearsOf hI hS (fun _ _ _ => rfl) s3]
      · refine AL_same C (hsV (bsV n h s) (h 48 3)) ?_ ?_
        · rw [eq_Tin_bears_0, R_Tin_within, bi_t hx]
          simp only [px_rd_mk, px_wr_mk, Int.reduceToNat, Int.toNat_natCast, if_true, if_false, Option.bind_some, px_up_cell, px_up_slot, px_up_eq, ne_eq, Nat.reduceEqDiff, not_false_eq_true, Int.reduceEq, Int.reduceLT, Int.reduceLE, Int.reduceNeg, decide_true, decide_false, Bool.and_true, Bool.true_and, Bool.and_false, Bool.false_and, and_self, and_true, true_and, and_false, false_and, bi_T, bi_F, not_true_eq_false, Bool.false_eq_true, kg_1, kg_48, h8, sgo hn, sr1 hn hI, sga1 hn, hc, ir_1_0 hI, ir_1_1 hI, ir_1_2 hI, ir_1_3 hI, ir_1_4 hI, ir_1_5 hI, ir_1_6 hI, ir_1_7 hI, rh]
        · rw [eq_Mod_bears_0, R_Mod_in, bi_t hx]
          simp only [px_rd_mk, px_wr_mk, Int.reduceToNat, Int.toNat_natCast, if_true, if_false, Option.bind_some, px_up_cell, px_up_slot, px_up_eq, ne_eq, Nat.reduceEqDiff, not_false_eq_true, Int.reduceEq, Int.reduceLT, Int.reduceLE, Int.reduceNeg, decide_true, decide_false, Bool.and_true, Bool.true_and, Bool.and_false, Bool.false_and, and_self, and_true, true_and, and_false, false_and, bi_T, bi_F, not_true_eq_false, Bool.false_eq_true, kg_123, R_hasStuff hI hS, bi_t hc2, s2, R_handsOf hI hS (fun _ _ _ => rfl) s3 LB.1]
      · refine AL_same C (if bsV n h s < h 48 3 then 1 else 0) ?_ ?_
        · rw [eq_Tin_bears_0, R_Tin_within, bi_t hx]
          simp only [px_rd_mk, px_wr_mk, Int.reduceToNat, Int.toNat_natCast, if_true, if_false, Option.bind_some, px_up_cell, px_up_slot, px_up_eq, ne_eq, Nat.reduceEqDiff, not_false_eq_true, Int.reduceEq, Int.reduceLT, Int.reduceLE, Int.reduceNeg, decide_true, decide_false, Bool.and_true, Bool.true_and, Bool.and_false, Bool.false_and, and_self, and_true, true_and, and_false, false_and, bi_T, bi_F, not_true_eq_false, Bool.false_eq_true, kg_1, kg_48, h8, sgo hn, sr1 hn hI, sga1 hn, hc, ir_1_0 hI, ir_1_1 hI, ir_1_2 hI, ir_1_3 hI, ir_1_4 hI, ir_1_5 hI, ir_1_6 hI, ir_1_7 hI, eq_Line_snaps_0, rs]
          by_cases e : bsV n h s < h 48 3
          · rw [if_pos e, if_pos e]; rfl
          · rw [if_neg e, if_neg e]; rfl
        · rw [eq_Mod_bears_0, R_Mod_in, bi_t hx]
          simp only [px_rd_mk, px_wr_mk, Int.reduceToNat, Int.toNat_natCast, if_true, if_false, Option.bind_some, px_up_cell, px_up_slot, px_up_eq, ne_eq, Nat.reduceEqDiff, not_false_eq_true, Int.reduceEq, Int.reduceLT, Int.reduceLE, Int.reduceNeg, decide_true, decide_false, Bool.and_true, Bool.true_and, Bool.and_false, Bool.false_and, and_self, and_true, true_and, and_false, false_and, bi_T, bi_F, not_true_eq_false, Bool.false_eq_true, kg_123, R_hasStuff hI hS, bi_t hc2, s2, R_bearsOf hI hS (fun _ _ _ => rfl) s3, LB.1.1]
          by_cases e : bsV n h s < h 48 3
          · rw [if_pos e, if_pos e]
          · rw [if_neg e, if_neg e]
      · refine AL_same C (h 48 4) ?_ ?_
        · rw [eq_Tin_bears_0, R_Tin_within, bi_t hx]
          simp only [px_rd_mk, px_wr_mk, Int.reduceToNat, Int.toNat_natCast, if_true, if_false, Option.bind_some, px_up_cell, px_up_slot, px_up_eq, ne_eq, Nat.reduceEqDiff, not_false_eq_true, Int.reduceEq, Int.reduceLT, Int.reduceLE, Int.reduceNeg, decide_true, decide_false, Bool.and_true, Bool.true_and, Bool.and_false, Bool.false_and, and_self, and_true, true_and, and_false, false_and, bi_T, bi_F, not_true_eq_false, Bool.false_eq_true, kg_1, kg_48, h8, sgo hn, sr1 hn hI, sga1 hn, hc, ir_1_0 hI, ir_1_1 hI, ir_1_2 hI, ir_1_3 hI, ir_1_4 hI, ir_1_5 hI, ir_1_6 hI, ir_1_7 hI]
        · rw [eq_Mod_bears_0, R_Mod_in, bi_t hx]
          simp only [px_rd_mk, px_wr_mk, Int.reduceToNat, Int.toNat_natCast, if_true, if_false, Option.bind_some, px_up_cell, px_up_slot, px_up_eq, ne_eq, Nat.reduceEqDiff, not_false_eq_true, Int.reduceEq, Int.reduceLT, Int.reduceLE, Int.reduceNeg, decide_true, decide_false, Bool.and_true, Bool.true_and, Bool.and_false, Bool.false_and, and_self, and_true, true_and, and_false, false_and, bi_T, bi_F, not_true_eq_false, Bool.false_eq_true, kg_123, R_hasStuff hI hS, bi_t hc2, LB.2.1.1]
      · refine AL_same C (h 48 6) ?_ ?_
        · rw [eq_Tin_bears_0, R_Tin_within, bi_t hx]
          simp only [px_rd_mk, px_wr_mk, Int.reduceToNat, Int.toNat_natCast, if_true, if_false, Option.bind_some, px_up_cell, px_up_slot, px_up_eq, ne_eq, Nat.reduceEqDiff, not_false_eq_true, Int.reduceEq, Int.reduceLT, Int.reduceLE, Int.reduceNeg, decide_true, decide_false, Bool.and_true, Bool.true_and, Bool.and_false, Bool.false_and, and_self, and_true, true_and, and_false, false_and, bi_T, bi_F, not_true_eq_false, Bool.false_eq_true, kg_1, kg_48, h8, sgo hn, sr1 hn hI, sga1 hn, hc, ir_1_0 hI, ir_1_1 hI, ir_1_2 hI, ir_1_3 hI, ir_1_4 hI, ir_1_5 hI, ir_1_6 hI, ir_1_7 hI]
        · rw [eq_Mod_bears_0, R_Mod_in, bi_t hx]
          simp only [px_rd_mk, px_wr_mk, Int.reduceToNat, Int.toNat_natCast, if_true, if_false, Option.bind_some, px_up_cell, px_up_slot, px_up_eq, ne_eq, Nat.reduceEqDiff, not_false_eq_true, Int.reduceEq, Int.reduceLT, Int.reduceLE, Int.reduceNeg, decide_true, decide_false, Bool.and_true, Bool.true_and, Bool.and_false, Bool.false_and, and_self, and_true, true_and, and_false, false_and, bi_T, bi_F, not_true_eq_false, Bool.false_eq_true, kg_123, R_hasStuff hI hS, bi_t hc2, LB.2.2.1.1]
  · refine AL_same C (-2) ?_ ?_
    · rw [eq_Tin_bears_0, R_Tin_within, bi_f hx]
      simp only [px_rd_mk, px_wr_mk, Int.reduceToNat, Int.toNat_natCast, if_true, if_false, Option.bind_some, px_up_cell, px_up_slot, px_up_eq, ne_eq, Nat.reduceEqDiff, not_false_eq_true, Int.reduceEq, Int.reduceLT, Int.reduceLE, Int.reduceNeg, decide_true, decide_false, Bool.and_true, Bool.true_and, Bool.and_false, Bool.false_and, and_self, and_true, true_and, and_false, false_and, bi_T, bi_F, not_true_eq_false, Bool.false_eq_true]
    · rw [eq_Mod_bears_0, R_Mod_in, bi_f hx]
      simp only [px_rd_mk, px_wr_mk, Int.reduceToNat, Int.toNat_natCast, if_true, if_false, Option.bind_some, px_up_cell, px_up_slot, px_up_eq, ne_eq, Nat.reduceEqDiff, not_false_eq_true, Int.reduceEq, Int.reduceLT, Int.reduceLE, Int.reduceNeg, decide_true, decide_false, Bool.and_true, Bool.true_and, Bool.and_false, Bool.false_and, and_self, and_true, true_and, and_false, false_and, bi_T, bi_F, not_true_eq_false, Bool.false_eq_true]
theorem C_through {h : hp} (C : CI h) (x z : Int) : AL h mm_Tin_through mm_Mod_through [(2, 1), (0, x), (0, z)] [(2, 123), (0, x), (0, z)] := by
  have C2 := C
  obtain ⟨n, ⟨hn, h8, h9⟩, hI, hT, hK, hS, hL, hR, hC, hKs, hW, hB⟩ := C2
  by_cases hx : 0 ≤ x ∧ x ≤ 9
  · by_cases hz : 0 ≤ z ∧ z ≤ 3
    · by_cases hc : h (n + 1) 0 = 0 ∨ h (n + 1) 1 = 0
      · have hc2 : ¬ (0 < h (n + 1) 0 ∧ 0 < h (n + 1) 1) := by omega
        refine AL_same C (-4) ?_ ?_
        · rw [eq_Tin_through_0, R_Tin_within, bi_t hx]
          simp only [px_rd_mk, px_wr_mk, Int.reduceToNat, Int.toNat_natCast, if_true, if_false, Option.bind_some, px_up_cell, px_up_slot, px_up_eq, ne_eq, Nat.reduceEqDiff, not_false_eq_true, Int.reduceEq, Int.reduceLT, Int.reduceLE, Int.reduceNeg, decide_true, decide_false, Bool.and_true, Bool.true_and, Bool.and_false, Bool.false_and, and_self, and_true, true_and, and_false, false_and, bi_T, bi_F, not_true_eq_false, Bool.false_eq_true, kg_1, R_Tin_isBand, bi_t hz, R_lineLacks hn h8 hI, bi_t hc]
        · rw [eq_Mod_through_0, R_Mod_in, bi_t hx]
          simp only [px_rd_mk, px_wr_mk, Int.reduceToNat, Int.toNat_natCast, if_true, if_false, Option.bind_some, px_up_cell, px_up_slot, px_up_eq, ne_eq, Nat.reduceEqDiff, not_false_eq_true, Int.reduceEq, Int.reduceLT, Int.reduceLE, Int.reduceNeg, decide_true, decide_false, Bool.and_true, Bool.true_and, Bool.and_false, Bool.false_and, and_self, and_true, true_and, and_false, false_and, bi_T, bi_F, not_true_eq_false, Bool.false_eq_true, kg_123, R_Mod_isBand, bi_t hz, R_hasLine hI hS, bi_f hc2]
      · have c0 := ST_n hS (k := 0) (by decide)
        have c1 := ST_n hS (k := 1) (by decide)
        have hc2 : 0 < h (n + 1) 0 ∧ 0 < h (n + 1) 1 := by omega
        obtain ⟨s, s1, s2, s3⟩ := LI_s hL hc2.1
        obtain ⟨t, t1, t2, t3⟩ := LI_t hL hc2.2
        obtain ⟨y, y1, y2, y3, y4⟩ := LI_y hL
        obtain ⟨b, rfl⟩ := Int.eq_ofNat_of_zero_le hz.1
        have hb : b < 4 := by omega
        refine AL_same C (arV n h s t y x b) ?_ ?_
        · rw [eq_Tin_through_0, R_Tin_within, bi_t hx]
          simp only [px_rd_mk, px_wr_mk, Int.reduceToNat, Int.toNat_natCast, if_true, if_false, Option.bind_some, px_up_cell, px_up_slot, px_up_eq, ne_eq, Nat.reduceEqDiff, not_false_eq_true, Int.reduceEq, Int.reduceLT, Int.reduceLE, Int.reduceNeg, decide_true, decide_false, Bool.and_true, Bool.true_and, Bool.and_false, Bool.false_and, and_self, and_true, true_and, and_false, false_and, bi_T, bi_F, not_true_eq_false, Bool.false_eq_true, kg_1, kg_48, R_Tin_isBand, bi_t hz, R_lineLacks hn h8 hI, bi_f hc, ir_1_0 hI, ir_1_1 hI, ir_1_2 hI, ir_1_3 hI, ir_1_4 hI, ir_1_5 hI, ir_1_6 hI, ir_1_7 hI, h8, sgo hn, R_arrives hn hI hS (LI_LB hL) s1 s3 t1 t3 y1 y3 hx hb]
        · rw [eq_Mod_through_0, R_Mod_in, bi_t hx]
          simp only [px_rd_mk, px_wr_mk, Int.reduceToNat, Int.toNat_natCast, if_true, if_false, Option.bind_some, px_up_cell, px_up_slot, px_up_eq, ne_eq, Nat.reduceEqDiff, not_false_eq_true, Int.reduceEq, Int.reduceLT, Int.reduceLE, Int.reduceNeg, decide_true, decide_false, Bool.and_true, Bool.true_and, Bool.and_false, Bool.false_and, and_self, and_true, true_and, and_false, false_and, bi_T, bi_F, not_true_eq_false, Bool.false_eq_true, kg_123, R_Mod_isBand, bi_t hz, R_hasLine hI hS, bi_t hc2, s2, t2, y2, R_throughOf (LC_LD ⟨hn, hI, hS, LI_LB hL⟩) s3 t3 y3 hx hb]
    · refine AL_same C (-2) ?_ ?_
      · rw [eq_Tin_through_0, R_Tin_within, bi_t hx]
        simp only [px_rd_mk, px_wr_mk, Int.reduceToNat, Int.toNat_natCast, if_true, if_false, Option.bind_some, px_up_cell, px_up_slot, px_up_eq, ne_eq, Nat.reduceEqDiff, not_false_eq_true, Int.reduceEq, Int.reduceLT, Int.reduceLE, Int.reduceNeg, decide_true, decide_false, Bool.and_true, Bool.true_and, Bool.and_false, Bool.false_and, and_self, and_true, true_and, and_false, false_and, bi_T, bi_F, not_true_eq_false, Bool.false_eq_true, R_Tin_isBand, bi_f hz]
      · rw [eq_Mod_through_0, R_Mod_in, bi_t hx]
        simp only [px_rd_mk, px_wr_mk, Int.reduceToNat, Int.toNat_natCast, if_true, if_false, Option.bind_some, px_up_cell, px_up_slot, px_up_eq, ne_eq, Nat.reduceEqDiff, not_false_eq_true, Int.reduceEq, Int.reduceLT, Int.reduceLE, Int.reduceNeg, decide_true, decide_false, Bool.and_true, Bool.true_and, Bool.and_false, Bool.false_and, and_self, and_true, true_and, and_false, false_and, bi_T, bi_F, not_true_eq_false, Bool.false_eq_true, R_Mod_isBand, bi_f hz]
  · refine AL_same C (-2) ?_ ?_
    · rw [eq_Tin_through_0, R_Tin_within, bi_f hx]
      simp only [px_rd_mk, px_wr_mk, Int.reduceToNat, Int.toNat_natCast, if_true, if_false, Option.bind_some, px_up_cell, px_up_slot, px_up_eq, ne_eq, Nat.reduceEqDiff, not_false_eq_true, Int.reduceEq, Int.reduceLT, Int.reduceLE, Int.reduceNeg, decide_true, decide_false, Bool.and_true, Bool.true_and, Bool.and_false, Bool.false_and, and_self, and_true, true_and, and_false, false_and, bi_T, bi_F, not_true_eq_false, Bool.false_eq_true]
    · rw [eq_Mod_through_0, R_Mod_in, bi_f hx]
      simp only [px_rd_mk, px_wr_mk, Int.reduceToNat, Int.toNat_natCast, if_true, if_false, Option.bind_some, px_up_cell, px_up_slot, px_up_eq, ne_eq, Nat.reduceEqDiff, not_false_eq_true, Int.reduceEq, Int.reduceLT, Int.reduceLE, Int.reduceNeg, decide_true, decide_false, Bool.and_true, Bool.true_and, Bool.and_false, Bool.false_and, and_self, and_true, true_and, and_false, false_and, bi_T, bi_F, not_true_eq_false, Bool.false_eq_true]
theorem C_share {h : hp} (C : CI h) (q x z : Int) : AL h mm_Tin_share mm_Mod_share [(2, 1), (0, q), (0, x), (0, z)] [(2, 123), (0, q), (0, x), (0, z)] := by
  have C2 := C
  obtain ⟨n, ⟨hn, h8, h9⟩, hI, hT, hK, hS, hL, hR, hC, hKs, hW, hB⟩ := C2
  have L := LI_LB hL
  have l6 := L.2.2.1
  have uq : -2147483648 ≤ h 48 6 - 1 ∧ h 48 6 - 1 < 2147483648 := by omega
  by_cases hq : 0 ≤ q ∧ q ≤ h 48 6 - 1
  · by_cases hx : 0 ≤ x ∧ x ≤ 9
    · by_cases hz : 0 ≤ z ∧ z ≤ 3
      · by_cases hc : h (n + 1) 0 = 0 ∨ h (n + 1) 1 = 0
        · have hc2 : ¬ (0 < h (n + 1) 0 ∧ 0 < h (n + 1) 1) := by omega
          refine AL_same C (-4) ?_ ?_
          · rw [eq_Tin_share_0]
            simp only [px_rd_mk, px_wr_mk, Int.reduceToNat, Int.toNat_natCast, if_true, if_false, Option.bind_some, px_up_cell, px_up_slot, px_up_eq, ne_eq, Nat.reduceEqDiff, not_false_eq_true, Int.reduceEq, Int.reduceLT, Int.reduceLE, Int.reduceNeg, decide_true, decide_false, Bool.and_true, Bool.true_and, Bool.and_false, Bool.false_and, and_self, and_true, true_and, and_false, false_and, bi_T, bi_F, not_true_eq_false, Bool.false_eq_true, kg_1, kg_48, ir_1_0 hI, ir_1_1 hI, ir_1_2 hI, ir_1_3 hI, ir_1_4 hI, ir_1_5 hI, ir_1_6 hI, ir_1_7 hI, px_w_n uq, R_Tin_within, bi_t hq, bi_t hx, R_Tin_isBand, bi_t hz, R_lineLacks hn h8 hI, bi_t hc]
          · rw [eq_Mod_share_0]
            simp only [px_rd_mk, px_wr_mk, Int.reduceToNat, Int.toNat_natCast, if_true, if_false, Option.bind_some, px_up_cell, px_up_slot, px_up_eq, ne_eq, Nat.reduceEqDiff, not_false_eq_true, Int.reduceEq, Int.reduceLT, Int.reduceLE, Int.reduceNeg, decide_true, decide_false, Bool.and_true, Bool.true_and, Bool.and_false, Bool.false_and, and_self, and_true, true_and, and_false, false_and, bi_T, bi_F, not_true_eq_false, Bool.false_eq_true, kg_123, l6.1, px_w_n uq, R_Mod_in, bi_t hq, bi_t hx, R_Mod_isBand, bi_t hz, R_hasLine hI hS, bi_f hc2]
        · have c0 := ST_n hS (k := 0) (by decide)
          have c1 := ST_n hS (k := 1) (by decide)
          have hc2 : 0 < h (n + 1) 0 ∧ 0 < h (n + 1) 1 := by omega
          obtain ⟨s, s1, s2, s3⟩ := LI_s hL hc2.1
          obtain ⟨t, t1, t2, t3⟩ := LI_t hL hc2.2
          obtain ⟨y, y1, y2, y3, y4⟩ := LI_y hL
          obtain ⟨b, rfl⟩ := Int.eq_ofNat_of_zero_le hz.1
          obtain ⟨k, rfl⟩ := Int.eq_ofNat_of_zero_le hq.1
          have hb : b < 4 := by omega
          have hk : (k : Int) < h 48 6 := by omega
          have b4 : (decide ((0 : Int) ≤ (k : Int)) && decide ((k : Int) < 4)) = true := gd_ok (by omega)
          have r1 := en_rng hS L (s := s) t3 hb hx
          have r2 := oy_rng hS s3 hb r1 y
          have r3 := tsV_rng L (bdV_rng hS L hb r2 (h 48 4).toNat (by have := L.2.1; omega)) k (by omega)
          have q5 := L.2.2.2.2 k hk
          refine AL_same C (tm (coV n h s t y x b k) (h 50 k) 100) ?_ ?_
          · rw [eq_Tin_share_0]
            simp only [px_rd_mk, px_wr_mk, Int.reduceToNat, Int.toNat_natCast, if_true, if_false, Option.bind_some, px_up_cell, px_up_slot, px_up_eq, ne_eq, Nat.reduceEqDiff, not_false_eq_true, Int.reduceEq, Int.reduceLT, Int.reduceLE, Int.reduceNeg, decide_true, decide_false, Bool.and_true, Bool.true_and, Bool.and_false, Bool.false_and, and_self, and_true, true_and, and_false, false_and, bi_T, bi_F, not_true_eq_false, Bool.false_eq_true, kg_1, kg_48, ir_1_0 hI, ir_1_1 hI, ir_1_2 hI, ir_1_3 hI, ir_1_4 hI, ir_1_5 hI, ir_1_6 hI, ir_1_7 hI, px_w_n uq, R_Tin_within, bi_t hq, bi_t hx, R_Tin_isBand, bi_t hz, R_lineLacks hn h8 hI, bi_f hc, h8, sgo hn, R_tiedOff hn hI hS L s1 s3 t1 t3 y1 y3 hx hb hk]
          · rw [eq_Mod_share_0]
            simp only [px_rd_mk, px_wr_mk, Int.reduceToNat, Int.toNat_natCast, if_true, if_false, Option.bind_some, px_up_cell, px_up_slot, px_up_eq, ne_eq, Nat.reduceEqDiff, not_false_eq_true, Int.reduceEq, Int.reduceLT, Int.reduceLE, Int.reduceNeg, decide_true, decide_false, Bool.and_true, Bool.true_and, Bool.and_false, Bool.false_and, and_self, and_true, true_and, and_false, false_and, bi_T, bi_F, not_true_eq_false, Bool.false_eq_true, kg_123, ka_136, l6.1, px_w_n uq, R_Mod_in, bi_t hq, bi_t hx, R_Mod_isBand, bi_t hz, R_hasLine hI hS, bi_t hc2, s2, t2, y2, R_comesTo (LC_LD ⟨hn, hI, hS, L⟩) s3 t3 y3 hx hb (Int.le_of_lt hk), ir_123_0 hI, ir_123_12 hI, ir_123_13 hI, ir_123_14 hI, ir_123_15 hI, ir_123_16 hI, ir_123_17 hI, ir_123_18 hI, ir_123_19 hI, ir_123_20 hI, ir_123_21 hI, ir_123_30 hI, ir_123_31 hI, ir_123_32 hI, ir_123_33 hI, ir_123_34 hI, ir_123_35 hI, ir_123_36 hI, ir_123_37 hI, ir_123_38 hI, ir_123_39 hI, ir_123_41 hI, ir_123_42 hI, ir_123_44 hI, ir_123_45 hI, ir_123_46 hI, ir_123_50 hI, ir_123_54 hI, ir_123_55 hI, ir_123_56 hI, ir_123_57 hI, ir_123_58 hI, ir_123_59 hI, ir_123_60 hI, ir_123_61 hI, ir_123_62 hI, b4, q5.1]
            exact some_c (tm_w r3 q5.2.1 q5.2.2 (by decide) (by decide))
      · refine AL_same C (-2) ?_ ?_
        · rw [eq_Tin_share_0]
          simp only [px_rd_mk, px_wr_mk, Int.reduceToNat, Int.toNat_natCast, if_true, if_false, Option.bind_some, px_up_cell, px_up_slot, px_up_eq, ne_eq, Nat.reduceEqDiff, not_false_eq_true, Int.reduceEq, Int.reduceLT, Int.reduceLE, Int.reduceNeg, decide_true, decide_false, Bool.and_true, Bool.true_and, Bool.and_false, Bool.false_and, and_self, and_true, true_and, and_false, false_and, bi_T, bi_F, not_true_eq_false, Bool.false_eq_true, kg_1, kg_48, ir_1_0 hI, ir_1_1 hI, ir_1_2 hI, ir_1_3 hI, ir_1_4 hI, ir_1_5 hI, ir_1_6 hI, ir_1_7 hI, px_w_n uq, R_Tin_within, bi_t hq, bi_t hx, R_Tin_isBand, bi_f hz]
        · rw [eq_Mod_share_0]
          simp only [px_rd_mk, px_wr_mk, Int.reduceToNat, Int.toNat_natCast, if_true, if_false, Option.bind_some, px_up_cell, px_up_slot, px_up_eq, ne_eq, Nat.reduceEqDiff, not_false_eq_true, Int.reduceEq, Int.reduceLT, Int.reduceLE, Int.reduceNeg, decide_true, decide_false, Bool.and_true, Bool.true_and, Bool.and_false, Bool.false_and, and_self, and_true, true_and, and_false, false_and, bi_T, bi_F, not_true_eq_false, Bool.false_eq_true, kg_123, l6.1, px_w_n uq, R_Mod_in, bi_t hq, bi_t hx, R_Mod_isBand, bi_f hz]
    · refine AL_same C (-2) ?_ ?_
      · rw [eq_Tin_share_0]
        simp only [px_rd_mk, px_wr_mk, Int.reduceToNat, Int.toNat_natCast, if_true, if_false, Option.bind_some, px_up_cell, px_up_slot, px_up_eq, ne_eq, Nat.reduceEqDiff, not_false_eq_true, Int.reduceEq, Int.reduceLT, Int.reduceLE, Int.reduceNeg, decide_true, decide_false, Bool.and_true, Bool.true_and, Bool.and_false, Bool.false_and, and_self, and_true, true_and, and_false, false_and, bi_T, bi_F, not_true_eq_false, Bool.false_eq_true, kg_1, kg_48, ir_1_0 hI, ir_1_1 hI, ir_1_2 hI, ir_1_3 hI, ir_1_4 hI, ir_1_5 hI, ir_1_6 hI, ir_1_7 hI, px_w_n uq, R_Tin_within, bi_t hq, bi_f hx]
      · rw [eq_Mod_share_0]
        simp only [px_rd_mk, px_wr_mk, Int.reduceToNat, Int.toNat_natCast, if_true, if_false, Option.bind_some, px_up_cell, px_up_slot, px_up_eq, ne_eq, Nat.reduceEqDiff, not_false_eq_true, Int.reduceEq, Int.reduceLT, Int.reduceLE, Int.reduceNeg, decide_true, decide_false, Bool.and_true, Bool.true_and, Bool.and_false, Bool.false_and, and_self, and_true, true_and, and_false, false_and, bi_T, bi_F, not_true_eq_false, Bool.false_eq_true, kg_123, l6.1, px_w_n uq, R_Mod_in, bi_t hq, bi_f hx]
  · refine AL_same C (-2) ?_ ?_
    · rw [eq_Tin_share_0]
      simp only [px_rd_mk, px_wr_mk, Int.reduceToNat, Int.toNat_natCast, if_true, if_false, Option.bind_some, px_up_cell, px_up_slot, px_up_eq, ne_eq, Nat.reduceEqDiff, not_false_eq_true, Int.reduceEq, Int.reduceLT, Int.reduceLE, Int.reduceNeg, decide_true, decide_false, Bool.and_true, Bool.true_and, Bool.and_false, Bool.false_and, and_self, and_true, true_and, and_false, false_and, bi_T, bi_F, not_true_eq_false, Bool.false_eq_true, kg_1, kg_48, ir_1_0 hI, ir_1_1 hI, ir_1_2 hI, ir_1_3 hI, ir_1_4 hI, ir_1_5 hI, ir_1_6 hI, ir_1_7 hI, px_w_n uq, R_Tin_within, bi_f hq]
    · rw [eq_Mod_share_0]
      simp only [px_rd_mk, px_wr_mk, Int.reduceToNat, Int.toNat_natCast, if_true, if_false, Option.bind_some, px_up_cell, px_up_slot, px_up_eq, ne_eq, Nat.reduceEqDiff, not_false_eq_true, Int.reduceEq, Int.reduceLT, Int.reduceLE, Int.reduceNeg, decide_true, decide_false, Bool.and_true, Bool.true_and, Bool.and_false, Bool.false_and, and_self, and_true, true_and, and_false, false_and, bi_T, bi_F, not_true_eq_false, Bool.false_eq_true, kg_123, l6.1, px_w_n uq, R_Mod_in, bi_f hq]
theorem C_level {h : hp} (C : CI h) (x z : Int) : AL h mm_Tin_level mm_Mod_level [(2, 1), (0, x), (0, z)] [(2, 123), (0, x), (0, z)] := by
  have C2 := C
  obtain ⟨n, ⟨hn, h8, h9⟩, hI, hT, hK, hS, hL, hR, hC, hKs, hW, hB⟩ := C2
  have o2 := fun x => R_one hn h8 hI hS (y := 2) (k := 2) rfl (by decide) x
  have i2 := fun x => R_is hI hS (y := 2) (k := 2) rfl (by decide) x
  by_cases hx : 0 ≤ x ∧ x < h (n + 1) 2
  · by_cases hz : 0 ≤ z ∧ z ≤ 3
    · by_cases hc : h (n + 1) 0 = 0 ∨ h (n + 1) 1 = 0
      · have hc2 : ¬ (0 < h (n + 1) 0 ∧ 0 < h (n + 1) 1) := by omega
        refine AL_same C (-4) ?_ ?_
        · rw [eq_Tin_level_0]
          simp only [px_rd_mk, px_wr_mk, Int.reduceToNat, Int.toNat_natCast, if_true, if_false, Option.bind_some, px_up_cell, px_up_slot, px_up_eq, ne_eq, Nat.reduceEqDiff, not_false_eq_true, Int.reduceEq, Int.reduceLT, Int.reduceLE, Int.reduceNeg, decide_true, decide_false, Bool.and_true, Bool.true_and, Bool.and_false, Bool.false_and, and_self, and_true, true_and, and_false, false_and, bi_T, bi_F, not_true_eq_false, Bool.false_eq_true, kg_1, o2, bi_t hx, R_Tin_isBand, bi_t hz, R_lineLacks hn h8 hI, bi_t hc]
        · rw [eq_Mod_level_0]
          simp only [px_rd_mk, px_wr_mk, Int.reduceToNat, Int.toNat_natCast, if_true, if_false, Option.bind_some, px_up_cell, px_up_slot, px_up_eq, ne_eq, Nat.reduceEqDiff, not_false_eq_true, Int.reduceEq, Int.reduceLT, Int.reduceLE, Int.reduceNeg, decide_true, decide_false, Bool.and_true, Bool.true_and, Bool.and_false, Bool.false_and, and_self, and_true, true_and, and_false, false_and, bi_T, bi_F, not_true_eq_false, Bool.false_eq_true, kg_123, i2, bi_t hx, R_Mod_isBand, bi_t hz, R_hasLine hI hS, bi_f hc2]
      · have c0 := ST_n hS (k := 0) (by decide)
        have c1 := ST_n hS (k := 1) (by decide)
        have c2 := ST_n hS (k := 2) (by decide)
        have hc2 : 0 < h (n + 1) 0 ∧ 0 < h (n + 1) 1 := by omega
        obtain ⟨s, s1, s2, s3⟩ := LI_s hL hc2.1
        obtain ⟨t, t1, t2, t3⟩ := LI_t hL hc2.2
        obtain ⟨y, y1, y2, y3, y4⟩ := LI_y hL
        obtain ⟨b, rfl⟩ := Int.eq_ofNat_of_zero_le hz.1
        obtain ⟨w, rfl⟩ := Int.eq_ofNat_of_zero_le hx.1
        have hb : b < 4 := by omega
        have LC0 : LC n h := ⟨hn, hI, hS, LI_LB hL⟩
        obtain ⟨k, k1, F, k3⟩ := R_makeLevels (LC_LD LC0) s3 t3 y3
        have Cg := LC_F LC0 F (by decide) rfl rfl
        have q := hS.2.2.2.2.2.2.2.1 w hx.2 b hb
        have ob := R_Str_ofBand hn hI (x1 := 2) (x2 := (w : Int)) (x3 := (b : Int)) 2 w b rfl rfl rfl (by decide) (by omega)
        rw [show n + 13 + 2 = n + 15 from rfl, if_neg (by decide), show 5 * w + 0 + b = 5 * w + b from rfl] at ob
        have r2 := as_rng (arV_rng LC0.2.2.1 LC0.2.2.2 s3 t3 y q.2 hb)
        have u1 : -2147483648 ≤ 4 * (w : Int) ∧ 4 * (w : Int) < 2147483648 := by omega
        have u3 : -2147483648 ≤ ((4 * w : Nat) : Int) + (b : Int) ∧ ((4 * w : Nat) : Int) + (b : Int) < 2147483648 := by omega
        have v1 : 4 * (w : Int) = ((4 * w : Nat) : Int) := by omega
        have v3 : ((4 * w : Nat) : Int) + (b : Int) = ((4 * w + b : Nat) : Int) := by omega
        have b4 : (decide ((0 : Int) ≤ ((4 * w + b : Nat) : Int)) && decide (((4 * w + b : Nat) : Int) < 24)) = true := gd_ok (by omega)
        refine ⟨lvl n h s t y w b, h, k, ?_, ?_, ⟨n, SP_F F rfl ⟨hn, h8, h9⟩, IR_Fr hI F (by decide), TP_F F rfl hT, FK_F F rfl hK, ST_F hn F rfl hS, LI_F hn F rfl hL, RW_F F rfl hR, CR_F F rfl hC, KS_F F rfl hKs, WI_F hn F rfl hW, BK_F hn F rfl hB⟩⟩
        · rw [eq_Tin_level_0]
          simp only [px_rd_mk, px_wr_mk, Int.reduceToNat, Int.toNat_natCast, if_true, if_false, Option.bind_some, px_up_cell, px_up_slot, px_up_eq, ne_eq, Nat.reduceEqDiff, not_false_eq_true, Int.reduceEq, Int.reduceLT, Int.reduceLE, Int.reduceNeg, decide_true, decide_false, Bool.and_true, Bool.true_and, Bool.and_false, Bool.false_and, and_self, and_true, true_and, and_false, false_and, bi_T, bi_F, not_true_eq_false, Bool.false_eq_true, kg_1, kg_48, o2, bi_t hx, R_Tin_isBand, bi_t hz, R_lineLacks hn h8 hI, bi_f hc, ir_1_0 hI, ir_1_1 hI, ir_1_2 hI, ir_1_3 hI, ir_1_4 hI, ir_1_5 hI, ir_1_6 hI, ir_1_7 hI, h8, sgo hn, ob, R_arrives hn hI hS (LI_LB hL) s1 s3 t1 t3 y1 y3 q.2 hb, eq_Line_asLevel_0, r2.1]
          rfl
        · rw [eq_Mod_level_0]
          simp only [px_rd_mk, px_wr_mk, Int.reduceToNat, Int.toNat_natCast, if_true, if_false, Option.bind_some, px_up_cell, px_up_slot, px_up_eq, ne_eq, Nat.reduceEqDiff, not_false_eq_true, Int.reduceEq, Int.reduceLT, Int.reduceLE, Int.reduceNeg, decide_true, decide_false, Bool.and_true, Bool.true_and, Bool.and_false, Bool.false_and, and_self, and_true, true_and, and_false, false_and, bi_T, bi_F, not_true_eq_false, Bool.false_eq_true, kg_123, ka_137, i2, bi_t hx, R_Mod_isBand, bi_t hz, R_hasLine hI hS, bi_t hc2, eq_Mod_makeOwn_0, s2, t2, y2, k1, ir_123_0 Cg.2.1, ir_123_12 Cg.2.1, ir_123_13 Cg.2.1, ir_123_14 Cg.2.1, ir_123_15 Cg.2.1, ir_123_16 Cg.2.1, ir_123_17 Cg.2.1, ir_123_18 Cg.2.1, ir_123_19 Cg.2.1, ir_123_20 Cg.2.1, ir_123_21 Cg.2.1, ir_123_30 Cg.2.1, ir_123_31 Cg.2.1, ir_123_32 Cg.2.1, ir_123_33 Cg.2.1, ir_123_34 Cg.2.1, ir_123_35 Cg.2.1, ir_123_36 Cg.2.1, ir_123_37 Cg.2.1, ir_123_38 Cg.2.1, ir_123_39 Cg.2.1, ir_123_41 Cg.2.1, ir_123_42 Cg.2.1, ir_123_44 Cg.2.1, ir_123_45 Cg.2.1, ir_123_46 Cg.2.1, ir_123_50 Cg.2.1, ir_123_54 Cg.2.1, ir_123_55 Cg.2.1, ir_123_56 Cg.2.1, ir_123_57 Cg.2.1, ir_123_58 Cg.2.1, ir_123_59 Cg.2.1, ir_123_60 Cg.2.1, ir_123_61 Cg.2.1, ir_123_62 Cg.2.1, (px_w_n u1).trans v1, (px_w_n u3).trans v3, b4, k3 w b hx.2 hb]
    · refine AL_same C (-2) ?_ ?_
      · rw [eq_Tin_level_0]
        simp only [px_rd_mk, px_wr_mk, Int.reduceToNat, Int.toNat_natCast, if_true, if_false, Option.bind_some, px_up_cell, px_up_slot, px_up_eq, ne_eq, Nat.reduceEqDiff, not_false_eq_true, Int.reduceEq, Int.reduceLT, Int.reduceLE, Int.reduceNeg, decide_true, decide_false, Bool.and_true, Bool.true_and, Bool.and_false, Bool.false_and, and_self, and_true, true_and, and_false, false_and, bi_T, bi_F, not_true_eq_false, Bool.false_eq_true, kg_1, o2, bi_t hx, R_Tin_isBand, bi_f hz]
      · rw [eq_Mod_level_0]
        simp only [px_rd_mk, px_wr_mk, Int.reduceToNat, Int.toNat_natCast, if_true, if_false, Option.bind_some, px_up_cell, px_up_slot, px_up_eq, ne_eq, Nat.reduceEqDiff, not_false_eq_true, Int.reduceEq, Int.reduceLT, Int.reduceLE, Int.reduceNeg, decide_true, decide_false, Bool.and_true, Bool.true_and, Bool.and_false, Bool.false_and, and_self, and_true, true_and, and_false, false_and, bi_T, bi_F, not_true_eq_false, Bool.false_eq_true, kg_123, i2, bi_t hx, R_Mod_isBand, bi_f hz]
  · refine AL_same C (-2) ?_ ?_
    · rw [eq_Tin_level_0]
      simp only [px_rd_mk, px_wr_mk, Int.reduceToNat, Int.toNat_natCast, if_true, if_false, Option.bind_some, px_up_cell, px_up_slot, px_up_eq, ne_eq, Nat.reduceEqDiff, not_false_eq_true, Int.reduceEq, Int.reduceLT, Int.reduceLE, Int.reduceNeg, decide_true, decide_false, Bool.and_true, Bool.true_and, Bool.and_false, Bool.false_and, and_self, and_true, true_and, and_false, false_and, bi_T, bi_F, not_true_eq_false, Bool.false_eq_true, kg_1, o2, bi_f hx]
    · rw [eq_Mod_level_0]
      simp only [px_rd_mk, px_wr_mk, Int.reduceToNat, Int.toNat_natCast, if_true, if_false, Option.bind_some, px_up_cell, px_up_slot, px_up_eq, ne_eq, Nat.reduceEqDiff, not_false_eq_true, Int.reduceEq, Int.reduceLT, Int.reduceLE, Int.reduceNeg, decide_true, decide_false, Bool.and_true, Bool.true_and, Bool.and_false, Bool.false_and, and_self, and_true, true_and, and_false, false_and, bi_T, bi_F, not_true_eq_false, Bool.false_eq_true, kg_123, i2, bi_f hx]
