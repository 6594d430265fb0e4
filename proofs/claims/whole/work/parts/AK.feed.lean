/-! feed. -/
theorem mput_step {h : hp} (hI : IR h) {S : Nat} (hS : h 123 1 = (S : Int)) (h9 : S < 900) {x c : Int} (hc : 0 ≤ c ∧ c ≤ 24) (x1 x2 x3 x4 x5 x6 : Int) : px_R (mm_Mod_feed, 73, [(2, 123), (0, x1), (0, x2), (0, x3), (0, x4), (0, x5), (0, x6), (0, x), (0, c)], [], (K0, h)) = px_R (mm_Mod_feed, 73, [(2, 123), (0, x1), (0, x2), (0, x3), (0, x4), (0, x5), (0, x6), (0, x), (0, c - 8)], [], (K0, px_up (px_up h 124 S (px_wb (px_shr x c))) 123 1 ((S + 1 : Nat) : Int))) := by
  have n1 : ¬ c < 0 := by omega
  have hlt : ((S : Int) < 900) = True := by simp; omega
  have rg := px_wb_rng (px_shr x c)
  have gb : px_gb (K0, h) 124 (S : Int) (px_wb (px_shr x c)) = true := by
    unfold px_gb
    rw [ka_124]
    simp [hlt, rg]
  have u1 : -2147483648 ≤ (S : Int) + 1 ∧ (S : Int) + 1 < 2147483648 := by omega
  have u2 : -2147483648 ≤ c + -8 ∧ c + -8 < 2147483648 := by omega
  have u3 : (S : Int) + 1 = ((S + 1 : Nat) : Int) := by omega
  have w1 : px_w ((S : Int) + 1) = ((S + 1 : Nat) : Int) := (px_w_n u1).trans u3
  rw [eq_Mod_feed_73, if_neg n1]
  simp only [px_rd_mk, px_wr_mk, Int.reduceToNat, Int.toNat_natCast, if_true, if_false, Option.bind_some, px_up_cell, px_up_slot, px_up_eq, ne_eq, Nat.reduceEqDiff, not_false_eq_true, Int.reduceEq, Int.reduceLT, Int.reduceLE, Int.reduceNeg, decide_true, decide_false, Bool.and_true, Bool.true_and, Bool.and_false, Bool.false_and, and_self, and_true, true_and, and_false, false_and, bi_T, bi_F, not_true_eq_false, Bool.false_eq_true, kg_123, ir_123_0 hI, ir_123_12 hI, ir_123_13 hI, ir_123_14 hI, ir_123_15 hI, ir_123_16 hI, ir_123_17 hI, ir_123_18 hI, ir_123_19 hI, ir_123_20 hI, ir_123_21 hI, ir_123_30 hI, ir_123_31 hI, ir_123_32 hI, ir_123_33 hI, ir_123_34 hI, ir_123_35 hI, ir_123_36 hI, ir_123_37 hI, ir_123_38 hI, ir_123_39 hI, ir_123_41 hI, ir_123_42 hI, ir_123_44 hI, ir_123_45 hI, ir_123_46 hI, ir_123_50 hI, ir_123_54 hI, ir_123_55 hI, ir_123_56 hI, ir_123_57 hI, ir_123_58 hI, ir_123_59 hI, ir_123_60 hI, ir_123_61 hI, ir_123_62 hI, hS, hlt, gb, w1, px_w_n u2]
  rfl
theorem mput {h : hp} (hI : IR h) {S : Nat} (hS : h 123 1 = (S : Int)) (h9 : S + 4 ≤ 900) (x x1 x2 x3 x4 x5 : Int) {i : Int} (hi : 0 ≤ i ∧ i ≤ 4) (y7 y8 : pv) : ∃ g : hp, px_R (mm_Mod_feed, 67, [(2, 123), (0, x1), (0, x2), (0, x3), (0, x4), (0, x5), (0, i), y7, y8], [(0, x)], (K0, h)) = px_R (mm_Mod_feed, 19, [(2, 123), (0, x1), (0, x2), (0, x3), (0, x4), (0, x5), (0, i + 1), (0, x), (0, -8)], [], (K0, g)) ∧ Fr [124] [(123, 1)] h g ∧ g 123 1 = ((S + 4 : Nat) : Int) ∧ g 124 = wr4 (h 124) S x := by
  have F : ∀ (h : hp) (S : Nat) (c : Int), Fr [124] [(123, 1)] h (px_up (px_up h 124 S (px_wb (px_shr x c))) 123 1 ((S + 1 : Nat) : Int)) := fun h S c => Fr_up (Fr_up (Fr_rf _ _ _) _ rfl) _ rfl
  have F1 := F h S 24
  have F2 := F (px_up (px_up h 124 S (px_wb (px_shr x 24))) 123 1 ((S + 1 : Nat) : Int)) (S + 1) 16
  have F3 := F (px_up (px_up (px_up (px_up h 124 S (px_wb (px_shr x 24))) 123 1 ((S + 1 : Nat) : Int)) 124 (S + 1) (px_wb (px_shr x 16))) 123 1 ((S + 1 + 1 : Nat) : Int)) (S + 1 + 1) 8
  have F4 := F (px_up (px_up (px_up (px_up (px_up (px_up h 124 S (px_wb (px_shr x 24))) 123 1 ((S + 1 : Nat) : Int)) 124 (S + 1) (px_wb (px_shr x 16))) 123 1 ((S + 1 + 1 : Nat) : Int)) 124 (S + 1 + 1) (px_wb (px_shr x 8))) 123 1 ((S + 1 + 1 + 1 : Nat) : Int)) (S + 1 + 1 + 1) 0
  have I1 := IR_Fr hI F1 (by decide)
  have I2 := IR_Fr I1 F2 (by decide)
  have I3 := IR_Fr I2 F3 (by decide)
  have p1 := mput_step hI hS (by omega) (x := x) (c := 24) (by decide) x1 x2 x3 x4 x5 i
  have p2 := mput_step I1 (S := S + 1) rfl (by omega) (x := x) (c := 16) (by decide) x1 x2 x3 x4 x5 i
  have p3 := mput_step I2 (S := S + 1 + 1) rfl (by omega) (x := x) (c := 8) (by decide) x1 x2 x3 x4 x5 i
  have p4 := mput_step I3 (S := S + 1 + 1 + 1) rfl (by omega) (x := x) (c := 0) (by decide) x1 x2 x3 x4 x5 i
  have u2 : -2147483648 ≤ i + 1 ∧ i + 1 < 2147483648 := by omega
  refine ⟨_, ?_, Fr_tr2 (Fr_tr2 (Fr_tr2 F1 F2) F3) F4, rfl, ?_⟩
  · rw [eq_Mod_feed_67, p1]
    refine p2.trans (p3.trans (p4.trans ?_))
    rw [eq_Mod_feed_73, if_pos (by decide), px_w_n u2]
    rfl
  · funext j
    simp only [px_up_cell, px_up_slot, px_up_eq, ne_eq, Nat.reduceEqDiff, not_false_eq_true, px_up_at]
    unfold wr4
    by_cases e3 : j = S + 3
    · subst e3
      rw [if_pos (by omega), if_neg (by omega), if_neg (by omega), if_neg (by omega), if_pos rfl]
    · rw [if_neg (by omega)]
      by_cases e2 : j = S + 2
      · subst e2
        rw [if_pos (by omega), if_neg (by omega), if_neg (by omega), if_pos rfl]
      · rw [if_neg (by omega)]
        by_cases e1 : j = S + 1
        · subst e1
          rw [if_pos (by omega), if_neg (by omega), if_pos rfl]
        · rw [if_neg (by omega)]
          by_cases e0 : j = S
          · rw [if_pos e0, if_pos e0]
          · rw [if_neg e0, if_neg e0, if_neg e1, if_neg e2, if_neg e3]
theorem C_feed {h : hp} (C : CI h) (a b c d e : Int) : AL h mm_Tin_feed mm_Mod_feed [(2, 1), (0, a), (0, b), (0, c), (0, d), (0, e)] [(2, 123), (0, a), (0, b), (0, c), (0, d), (0, e), (9, 0), (9, 0), (9, 0)] := by
  have C2 := C
  obtain ⟨n, ⟨hn, h8, h9⟩, hI, hT, hK, hS, hL, hR, hC, hKs, hW, hB⟩ := C2
  obtain ⟨t1, ⟨t2, t3⟩, t4⟩ := hT
  obtain ⟨S, hSz⟩ := Int.eq_ofNat_of_zero_le t2
  have u0 : -2147483648 ≤ (S : Int) + 20 ∧ (S : Int) + 20 < 2147483648 := by omega
  by_cases hf : 900 < (S : Int) + 20
  · refine AL_same C (-3) ?_ ?_
    · rw [eq_Tin_feed_0]
      simp only [px_rd_mk, px_wr_mk, Int.reduceToNat, Int.toNat_natCast, if_true, if_false, Option.bind_some, px_up_cell, px_up_slot, px_up_eq, ne_eq, Nat.reduceEqDiff, not_false_eq_true, Int.reduceEq, Int.reduceLT, Int.reduceLE, Int.reduceNeg, decide_true, decide_false, Bool.and_true, Bool.true_and, Bool.and_false, Bool.false_and, and_self, and_true, true_and, and_false, false_and, bi_T, bi_F, not_true_eq_false, Bool.false_eq_true, kg_1, kg_2, ir_1_0 hI, ir_1_1 hI, ir_1_2 hI, ir_1_3 hI, ir_1_4 hI, ir_1_5 hI, ir_1_6 hI, ir_1_7 hI, hSz, px_w_n u0, hf]
    · rw [eq_Mod_feed_0]
      simp only [px_rd_mk, px_wr_mk, Int.reduceToNat, Int.toNat_natCast, if_true, if_false, Option.bind_some, px_up_cell, px_up_slot, px_up_eq, ne_eq, Nat.reduceEqDiff, not_false_eq_true, Int.reduceEq, Int.reduceLT, Int.reduceLE, Int.reduceNeg, decide_true, decide_false, Bool.and_true, Bool.true_and, Bool.and_false, Bool.false_and, and_self, and_true, true_and, and_false, false_and, bi_T, bi_F, not_true_eq_false, Bool.false_eq_true, kg_123, t1, hSz, px_w_n u0, hf]
  · obtain ⟨g1, p1, F1, s1, b1⟩ := R_put hI hSz (by omega) a
    have I1 := IR_Fr hI F1 (by decide)
    obtain ⟨g2, p2, F2, s2, b2⟩ := R_put I1 s1 (by omega) b
    have I2 := IR_Fr I1 F2 (by decide)
    obtain ⟨g3, p3, F3, s3, b3⟩ := R_put I2 s2 (by omega) c
    have I3 := IR_Fr I2 F3 (by decide)
    obtain ⟨g4, p4, F4, s4, b4⟩ := R_put I3 s3 (by omega) d
    have I4 := IR_Fr I3 F4 (by decide)
    obtain ⟨g5, p5, F5, s5, b5⟩ := R_put I4 s4 (by omega) e
    have I5 := IR_Fr I4 F5 (by decide)
    have FC := Fr_tr2 (Fr_tr2 (Fr_tr2 (Fr_tr2 F1 F2) F3) F4) F5
    have m0 : g5 123 1 = (S : Int) := (FC 123 1 rfl).trans (t1.trans hSz)
    obtain ⟨k1, q1, G1, r1, c1⟩ := mput I5 m0 (by omega) a a b c d e (i := 0) (by decide) (9, 0) (9, 0)
    have J1 := IR_Fr I5 G1 (by decide)
    obtain ⟨k2, q2, G2, r2, c2⟩ := mput J1 r1 (by omega) b a b c d e (i := 1) (by decide) (0, a) (0, -8)
    have J2 := IR_Fr J1 G2 (by decide)
    obtain ⟨k3, q3, G3, r3, c3⟩ := mput J2 r2 (by omega) c a b c d e (i := 2) (by decide) (0, b) (0, -8)
    have J3 := IR_Fr J2 G3 (by decide)
    obtain ⟨k4, q4, G4, r4, c4⟩ := mput J3 r3 (by omega) d a b c d e (i := 3) (by decide) (0, c) (0, -8)
    have J4 := IR_Fr J3 G4 (by decide)
    obtain ⟨k5, q5, G5, r5, c5⟩ := mput J4 r4 (by omega) e a b c d e (i := 4) (by decide) (0, d) (0, -8)
    have GC := Fr_tr2 (Fr_tr2 (Fr_tr2 (Fr_tr2 G1 G2) G3) G4) G5
    have F : Fr [3, 124] [(2, 1), (123, 1)] h k5 := Fr_sub (Fr_tr FC GC) rfl rfl
    have e3 : g5 3 = wr4 (wr4 (wr4 (wr4 (wr4 (h 3) S a) (S + 4) b) (S + 4 + 4) c) (S + 4 + 4 + 4) d) (S + 4 + 4 + 4 + 4) e := by rw [b5, b4, b3, b2, b1]
    have h124 : h 124 = h 3 := funext fun i => (t4 i).1
    have g124 : g5 124 = h 3 := (funext fun i => FC 124 i rfl).trans h124
    have e124 : k5 124 = g5 3 := by rw [c5, c4, c3, c2, c1, g124, e3]
    have k3' : k5 3 = g5 3 := funext fun i => GC 3 i rfl
    have k21 : k5 2 1 = ((S + 4 + 4 + 4 + 4 + 4 : Nat) : Int) := (GC 2 1 rfl).trans s5
    refine ⟨((S + 4 + 4 + 4 + 4 + 4 : Nat) : Int), g5, k5, ?_, ?_, ⟨n, SP_F F rfl ⟨hn, h8, h9⟩, IR_Fr hI F (by decide), ⟨by rw [r5, k21], by rw [k21]; omega, fun i => by rw [e124, k3']; exact ⟨rfl, by rw [e3]; exact wr4_rng (wr4_rng (wr4_rng (wr4_rng (wr4_rng (fun j => (t4 j).2) _ _) _ _) _ _) _ _) _ _ i⟩⟩, FK_F F rfl hK, ST_F hn F rfl hS, LI_F hn F rfl hL, RW_F F rfl hR, CR_F F rfl hC, KS_F F rfl hKs, WI_F hn F rfl hW, BK_F hn F rfl hB⟩⟩
    · rw [eq_Tin_feed_0]
      simp only [px_rd_mk, px_wr_mk, Int.reduceToNat, Int.toNat_natCast, if_true, if_false, Option.bind_some, px_up_cell, px_up_slot, px_up_eq, ne_eq, Nat.reduceEqDiff, not_false_eq_true, Int.reduceEq, Int.reduceLT, Int.reduceLE, Int.reduceNeg, decide_true, decide_false, Bool.and_true, Bool.true_and, Bool.and_false, Bool.false_and, and_self, and_true, true_and, and_false, false_and, bi_T, bi_F, not_true_eq_false, Bool.false_eq_true, kg_1, kg_2, ir_1_0 hI, ir_1_1 hI, ir_1_2 hI, ir_1_3 hI, ir_1_4 hI, ir_1_5 hI, ir_1_6 hI, ir_1_7 hI, hSz, px_w_n u0, hf, p1, p2, p3, p4, p5, ir_1_0 I1, ir_1_1 I1, ir_1_2 I1, ir_1_3 I1, ir_1_4 I1, ir_1_5 I1, ir_1_6 I1, ir_1_7 I1, ir_1_0 I2, ir_1_1 I2, ir_1_2 I2, ir_1_3 I2, ir_1_4 I2, ir_1_5 I2, ir_1_6 I2, ir_1_7 I2, ir_1_0 I3, ir_1_1 I3, ir_1_2 I3, ir_1_3 I3, ir_1_4 I3, ir_1_5 I3, ir_1_6 I3, ir_1_7 I3, ir_1_0 I4, ir_1_1 I4, ir_1_2 I4, ir_1_3 I4, ir_1_4 I4, ir_1_5 I4, ir_1_6 I4, ir_1_7 I4, ir_1_0 I5, ir_1_1 I5, ir_1_2 I5, ir_1_3 I5, ir_1_4 I5, ir_1_5 I5, ir_1_6 I5, ir_1_7 I5, s5]
    · rw [eq_Mod_feed_0]
      simp only [px_rd_mk, px_wr_mk, Int.reduceToNat, Int.toNat_natCast, if_true, if_false, Option.bind_some, px_up_cell, px_up_slot, px_up_eq, ne_eq, Nat.reduceEqDiff, not_false_eq_true, Int.reduceEq, Int.reduceLT, Int.reduceLE, Int.reduceNeg, decide_true, decide_false, Bool.and_true, Bool.true_and, Bool.and_false, Bool.false_and, and_self, and_true, true_and, and_false, false_and, bi_T, bi_F, not_true_eq_false, Bool.false_eq_true, kg_123, m0, px_w_n u0, hf]
      rw [eq_Mod_feed_19]
      simp only [px_rd_mk, px_wr_mk, Int.reduceToNat, Int.toNat_natCast, if_true, if_false, Option.bind_some, px_up_cell, px_up_slot, px_up_eq, ne_eq, Nat.reduceEqDiff, not_false_eq_true, Int.reduceEq, Int.reduceLT, Int.reduceLE, Int.reduceNeg, decide_true, decide_false, Bool.and_true, Bool.true_and, Bool.and_false, Bool.false_and, and_self, and_true, true_and, and_false, false_and, bi_T, bi_F, not_true_eq_false, Bool.false_eq_true, q1]
      rw [eq_Mod_feed_19]
      simp only [px_rd_mk, px_wr_mk, Int.reduceToNat, Int.toNat_natCast, if_true, if_false, Option.bind_some, px_up_cell, px_up_slot, px_up_eq, ne_eq, Nat.reduceEqDiff, not_false_eq_true, Int.reduceEq, Int.reduceLT, Int.reduceLE, Int.reduceNeg, decide_true, decide_false, Bool.and_true, Bool.true_and, Bool.and_false, Bool.false_and, and_self, and_true, true_and, and_false, false_and, bi_T, bi_F, not_true_eq_false, Bool.false_eq_true, show (0 : Int) + 1 = 1 from rfl, q2]
      rw [eq_Mod_feed_19]
      simp only [px_rd_mk, px_wr_mk, Int.reduceToNat, Int.toNat_natCast, if_true, if_false, Option.bind_some, px_up_cell, px_up_slot, px_up_eq, ne_eq, Nat.reduceEqDiff, not_false_eq_true, Int.reduceEq, Int.reduceLT, Int.reduceLE, Int.reduceNeg, decide_true, decide_false, Bool.and_true, Bool.true_and, Bool.and_false, Bool.false_and, and_self, and_true, true_and, and_false, false_and, bi_T, bi_F, not_true_eq_false, Bool.false_eq_true, show (1 : Int) + 1 = 2 from rfl, q3]
      rw [eq_Mod_feed_19]
      simp only [px_rd_mk, px_wr_mk, Int.reduceToNat, Int.toNat_natCast, if_true, if_false, Option.bind_some, px_up_cell, px_up_slot, px_up_eq, ne_eq, Nat.reduceEqDiff, not_false_eq_true, Int.reduceEq, Int.reduceLT, Int.reduceLE, Int.reduceNeg, decide_true, decide_false, Bool.and_true, Bool.true_and, Bool.and_false, Bool.false_and, and_self, and_true, true_and, and_false, false_and, bi_T, bi_F, not_true_eq_false, Bool.false_eq_true, show (2 : Int) + 1 = 3 from rfl, q4]
      rw [eq_Mod_feed_19]
      simp only [px_rd_mk, px_wr_mk, Int.reduceToNat, Int.toNat_natCast, if_true, if_false, Option.bind_some, px_up_cell, px_up_slot, px_up_eq, ne_eq, Nat.reduceEqDiff, not_false_eq_true, Int.reduceEq, Int.reduceLT, Int.reduceLE, Int.reduceNeg, decide_true, decide_false, Bool.and_true, Bool.true_and, Bool.and_false, Bool.false_and, and_self, and_true, true_and, and_false, false_and, bi_T, bi_F, not_true_eq_false, Bool.false_eq_true, show (3 : Int) + 1 = 4 from rfl, q5]
      rw [eq_Mod_feed_19]
      simp only [px_rd_mk, px_wr_mk, Int.reduceToNat, Int.toNat_natCast, if_true, if_false, Option.bind_some, px_up_cell, px_up_slot, px_up_eq, ne_eq, Nat.reduceEqDiff, not_false_eq_true, Int.reduceEq, Int.reduceLT, Int.reduceLE, Int.reduceNeg, decide_true, decide_false, Bool.and_true, Bool.true_and, Bool.and_false, Bool.false_and, and_self, and_true, true_and, and_false, false_and, bi_T, bi_F, not_true_eq_false, Bool.false_eq_true, kg_123, show (4 : Int) + 1 = 5 from rfl, r5]
