/-! The reference settles: all copies. -/
def smt (a b : Nat) : Prop := (a = 125 ∧ b < 9) ∨ (a = 127 ∧ b < 20) ∨ (a = 128 ∧ b < 16) ∨ (a = 129 ∧ b < 24) ∨ (a = 130 ∧ b < 5) ∨ (a = 131 ∧ b < 5) ∨ (a = 132 ∧ b < 4) ∨ (a = 133 ∧ b < 4) ∨ (a = 134 ∧ b < 20) ∨ (a = 123 ∧ ((24 ≤ b ∧ b ≤ 29) ∨ b = 40 ∨ (51 ≤ b ∧ b ≤ 53)))
theorem comes0 {x c : Int} (w : pw) : px_R (mm_Mod_comes, 0, [(2, x), (0, c), (9, 0)], [], w) = px_R (mm_Mod_comes, 2, [(2, x), (0, c), (0, 0)], [], w) := eq_Mod_comes_0 _ _ _
theorem smt_IR {c d : hp} (H : IR c) (F : ∀ a b, ¬ smt a b → d a b = c a b) : IR d := IR_same H fun q hq => F _ _ (by
  have k : ∀ q ∈ rl, ¬ smt q.1 q.2.1 := by unfold smt; decide +kernel
  exact k q hq)
theorem R_settle {h : hp} (hI : IR h) : ∃ g : hp, px_R (mm_Mod_settle, 0, [(2, 123)], [], (K0, h)) = some (0, (K0, g)) ∧ (∀ a b, ¬ smt a b → g a b = h a b) ∧ ((∀ z, z < 9 → g 125 z = h 125 (9 + z)) ∧ (∀ z, z < 20 → g 127 z = h 127 (20 + z)) ∧ (∀ z, z < 16 → g 128 z = h 128 (16 + z)) ∧ (∀ z, z < 24 → g 129 z = h 129 (24 + z)) ∧ (∀ z, z < 5 → g 130 z = h 130 (5 + z)) ∧ (∀ z, z < 5 → g 131 z = h 131 (5 + z)) ∧ (∀ z, z < 4 → g 132 z = h 132 (4 + z)) ∧ (∀ z, z < 4 → g 133 z = h 133 (4 + z)) ∧ (∀ z, z < 20 → g 134 z = h 134 (20 + z))) ∧ g 123 24 = 0 ∧ g 123 25 = 0 ∧ g 123 26 = 10 ∧ g 123 27 = 0 ∧ g 123 28 = 0 ∧ g 123 29 = 0 ∧ g 123 40 = 0 ∧ g 123 51 = 0 ∧ g 123 52 = 0 ∧ g 123 53 = 0 := by
  obtain ⟨g1, r1, f1, v1⟩ := comes_125 h 9 0 h rfl (fun _ _ _ => rfl) (fun z hz => absurd hz (by omega))
  have r1 : px_R (mm_Mod_comes, 2, [(2, 125), (0, 9), (0, 0)], [], (K0, h)) = some (0, (K0, g1)) := r1
  obtain ⟨g2, r2, f2, v2⟩ := comes_127 g1 20 0 g1 rfl (fun _ _ _ => rfl) (fun z hz => absurd hz (by omega))
  have r2 : px_R (mm_Mod_comes, 2, [(2, 127), (0, 20), (0, 0)], [], (K0, g1)) = some (0, (K0, g2)) := r2
  obtain ⟨g3, r3, f3, v3⟩ := comes_128 g2 16 0 g2 rfl (fun _ _ _ => rfl) (fun z hz => absurd hz (by omega))
  have r3 : px_R (mm_Mod_comes, 2, [(2, 128), (0, 16), (0, 0)], [], (K0, g2)) = some (0, (K0, g3)) := r3
  obtain ⟨g4, r4, f4, v4⟩ := comes_129 g3 24 0 g3 rfl (fun _ _ _ => rfl) (fun z hz => absurd hz (by omega))
  have r4 : px_R (mm_Mod_comes, 2, [(2, 129), (0, 24), (0, 0)], [], (K0, g3)) = some (0, (K0, g4)) := r4
  obtain ⟨g5, r5, f5, v5⟩ := comes_130 g4 5 0 g4 rfl (fun _ _ _ => rfl) (fun z hz => absurd hz (by omega))
  have r5 : px_R (mm_Mod_comes, 2, [(2, 130), (0, 5), (0, 0)], [], (K0, g4)) = some (0, (K0, g5)) := r5
  obtain ⟨g6, r6, f6, v6⟩ := comes_131 g5 5 0 g5 rfl (fun _ _ _ => rfl) (fun z hz => absurd hz (by omega))
  have r6 : px_R (mm_Mod_comes, 2, [(2, 131), (0, 5), (0, 0)], [], (K0, g5)) = some (0, (K0, g6)) := r6
  obtain ⟨g7, r7, f7, v7⟩ := comes_132 g6 4 0 g6 rfl (fun _ _ _ => rfl) (fun z hz => absurd hz (by omega))
  have r7 : px_R (mm_Mod_comes, 2, [(2, 132), (0, 4), (0, 0)], [], (K0, g6)) = some (0, (K0, g7)) := r7
  obtain ⟨g8, r8, f8, v8⟩ := comes_133 g7 4 0 g7 rfl (fun _ _ _ => rfl) (fun z hz => absurd hz (by omega))
  have r8 : px_R (mm_Mod_comes, 2, [(2, 133), (0, 4), (0, 0)], [], (K0, g7)) = some (0, (K0, g8)) := r8
  obtain ⟨g9, r9, f9, v9⟩ := comes_134 g8 20 0 g8 rfl (fun _ _ _ => rfl) (fun z hz => absurd hz (by omega))
  have r9 : px_R (mm_Mod_comes, 2, [(2, 134), (0, 20), (0, 0)], [], (K0, g8)) = some (0, (K0, g9)) := r9
  have I1 : IR g1 := smt_IR hI (fun a b z => f1 a b (fun w => z (by unfold smt; omega)))
  have I2 : IR g2 := smt_IR I1 (fun a b z => f2 a b (fun w => z (by unfold smt; omega)))
  have I3 : IR g3 := smt_IR I2 (fun a b z => f3 a b (fun w => z (by unfold smt; omega)))
  have I4 : IR g4 := smt_IR I3 (fun a b z => f4 a b (fun w => z (by unfold smt; omega)))
  have I5 : IR g5 := smt_IR I4 (fun a b z => f5 a b (fun w => z (by unfold smt; omega)))
  have I6 : IR g6 := smt_IR I5 (fun a b z => f6 a b (fun w => z (by unfold smt; omega)))
  have I7 : IR g7 := smt_IR I6 (fun a b z => f7 a b (fun w => z (by unfold smt; omega)))
  have I8 : IR g8 := smt_IR I7 (fun a b z => f8 a b (fun w => z (by unfold smt; omega)))
  have I9 : IR g9 := smt_IR I8 (fun a b z => f9 a b (fun w => z (by unfold smt; omega)))
  have all : ∀ a b, ¬ smt a b → g9 a b = h a b := fun a b z => by
    unfold smt at z
    rw [f9 a b (by omega), f8 a b (by omega), f7 a b (by omega), f6 a b (by omega), f5 a b (by omega), f4 a b (by omega), f3 a b (by omega), f2 a b (by omega), f1 a b (by omega)]
  refine ⟨px_up (px_up (px_up (px_up (px_up (px_up (px_up (px_up (px_up (px_up g9 123 24 0) 123 25 0) 123 26 10) 123 27 0) 123 28 0) 123 29 0) 123 51 0) 123 52 0) 123 53 0) 123 40 0, ?_, fun a b z => ?_, ⟨fun z hz => ?_, fun z hz => ?_, fun z hz => ?_, fun z hz => ?_, fun z hz => ?_, fun z hz => ?_, fun z hz => ?_, fun z hz => ?_, fun z hz => ?_⟩, ?_, ?_, ?_, ?_, ?_, ?_, ?_, ?_, ?_, ?_⟩
  · rw [eq_Mod_settle_0]
    simp only [px_rd_mk, px_wr_mk, Int.reduceToNat, Int.toNat_natCast, if_true, if_false, Option.bind_some, px_up_cell, px_up_slot, px_up_eq, ne_eq, Nat.reduceEqDiff, not_false_eq_true, Int.reduceEq, Int.reduceLT, Int.reduceLE, Int.reduceNeg, decide_true, decide_false, Bool.and_true, Bool.true_and, Bool.and_false, Bool.false_and, and_self, and_true, true_and, and_false, false_and, bi_T, bi_F, not_true_eq_false, Bool.false_eq_true, kg_123, ir_123_12 hI, ir_123_14 I1, ir_123_15 I2, ir_123_16 I3, ir_123_17 I4, ir_123_18 I5, ir_123_19 I6, ir_123_20 I7, ir_123_21 I8, comes0, r1, r2, r3, r4, r5, r6, r7, r8, r9]
    rw [eq_Mod_settle_98]
    simp only [px_rd_mk, px_wr_mk, Int.reduceToNat, Int.toNat_natCast, if_true, if_false, Option.bind_some, px_up_cell, px_up_slot, px_up_eq, ne_eq, Nat.reduceEqDiff, not_false_eq_true, Int.reduceEq, Int.reduceLT, Int.reduceLE, Int.reduceNeg, decide_true, decide_false, Bool.and_true, Bool.true_and, Bool.and_false, Bool.false_and, and_self, and_true, true_and, and_false, false_and, bi_T, bi_F, not_true_eq_false, Bool.false_eq_true, kg_123]
    rw [eq_Mod_settle_118]
    simp only [px_rd_mk, px_wr_mk, Int.reduceToNat, Int.toNat_natCast, if_true, if_false, Option.bind_some, px_up_cell, px_up_slot, px_up_eq, ne_eq, Nat.reduceEqDiff, not_false_eq_true, Int.reduceEq, Int.reduceLT, Int.reduceLE, Int.reduceNeg, decide_true, decide_false, Bool.and_true, Bool.true_and, Bool.and_false, Bool.false_and, and_self, and_true, true_and, and_false, false_and, bi_T, bi_F, not_true_eq_false, Bool.false_eq_true, kg_123]
  · rw [← all a b z]
    unfold px_up
    unfold smt at z
    repeat rw [if_neg (by omega)]
  · simp only [px_up_cell, px_up_slot, px_up_eq, ne_eq, Nat.reduceEqDiff, not_false_eq_true]
    rw [f9 _ _ (by omega), f8 _ _ (by omega), f7 _ _ (by omega), f6 _ _ (by omega), f5 _ _ (by omega), f4 _ _ (by omega), f3 _ _ (by omega), f2 _ _ (by omega), v1 z hz]
  · simp only [px_up_cell, px_up_slot, px_up_eq, ne_eq, Nat.reduceEqDiff, not_false_eq_true]
    rw [f9 _ _ (by omega), f8 _ _ (by omega), f7 _ _ (by omega), f6 _ _ (by omega), f5 _ _ (by omega), f4 _ _ (by omega), f3 _ _ (by omega), v2 z hz, f1 _ _ (by omega)]
  · simp only [px_up_cell, px_up_slot, px_up_eq, ne_eq, Nat.reduceEqDiff, not_false_eq_true]
    rw [f9 _ _ (by omega), f8 _ _ (by omega), f7 _ _ (by omega), f6 _ _ (by omega), f5 _ _ (by omega), f4 _ _ (by omega), v3 z hz, f2 _ _ (by omega), f1 _ _ (by omega)]
  · simp only [px_up_cell, px_up_slot, px_up_eq, ne_eq, Nat.reduceEqDiff, not_false_eq_true]
    rw [f9 _ _ (by omega), f8 _ _ (by omega), f7 _ _ (by omega), f6 _ _ (by omega), f5 _ _ (by omega), v4 z hz, f3 _ _ (by omega), f2 _ _ (by omega), f1 _ _ (by omega)]
  · simp only [px_up_cell, px_up_slot, px_up_eq, ne_eq, Nat.reduceEqDiff, not_false_eq_true]
    rw [f9 _ _ (by omega), f8 _ _ (by omega), f7 _ _ (by omega), f6 _ _ (by omega), v5 z hz, f4 _ _ (by omega), f3 _ _ (by omega), f2 _ _ (by omega), f1 _ _ (by omega)]
  · simp only [px_up_cell, px_up_slot, px_up_eq, ne_eq, Nat.reduceEqDiff, not_false_eq_true]
    rw [f9 _ _ (by omega), f8 _ _ (by omega), f7 _ _ (by omega), v6 z hz, f5 _ _ (by omega), f4 _ _ (by omega), f3 _ _ (by omega), f2 _ _ (by omega), f1 _ _ (by omega)]
  · simp only [px_up_cell, px_up_slot, px_up_eq, ne_eq, Nat.reduceEqDiff, not_false_eq_true]
    rw [f9 _ _ (by omega), f8 _ _ (by omega), v7 z hz, f6 _ _ (by omega), f5 _ _ (by omega), f4 _ _ (by omega), f3 _ _ (by omega), f2 _ _ (by omega), f1 _ _ (by omega)]
  · simp only [px_up_cell, px_up_slot, px_up_eq, ne_eq, Nat.reduceEqDiff, not_false_eq_true]
    rw [f9 _ _ (by omega), v8 z hz, f7 _ _ (by omega), f6 _ _ (by omega), f5 _ _ (by omega), f4 _ _ (by omega), f3 _ _ (by omega), f2 _ _ (by omega), f1 _ _ (by omega)]
  · simp only [px_up_cell, px_up_slot, px_up_eq, ne_eq, Nat.reduceEqDiff, not_false_eq_true]
    rw [v9 z hz, f8 _ _ (by omega), f7 _ _ (by omega), f6 _ _ (by omega), f5 _ _ (by omega), f4 _ _ (by omega), f3 _ _ (by omega), f2 _ _ (by omega), f1 _ _ (by omega)]
  · simp only [px_up_cell, px_up_slot, px_up_eq, ne_eq, Nat.reduceEqDiff, not_false_eq_true]
  · simp only [px_up_cell, px_up_slot, px_up_eq, ne_eq, Nat.reduceEqDiff, not_false_eq_true]
  · simp only [px_up_cell, px_up_slot, px_up_eq, ne_eq, Nat.reduceEqDiff, not_false_eq_true]
  · simp only [px_up_cell, px_up_slot, px_up_eq, ne_eq, Nat.reduceEqDiff, not_false_eq_true]
  · simp only [px_up_cell, px_up_slot, px_up_eq, ne_eq, Nat.reduceEqDiff, not_false_eq_true]
  · simp only [px_up_cell, px_up_slot, px_up_eq, ne_eq, Nat.reduceEqDiff, not_false_eq_true]
  · simp only [px_up_cell, px_up_slot, px_up_eq, ne_eq, Nat.reduceEqDiff, not_false_eq_true]
  · simp only [px_up_cell, px_up_slot, px_up_eq, ne_eq, Nat.reduceEqDiff, not_false_eq_true]
  · simp only [px_up_cell, px_up_slot, px_up_eq, ne_eq, Nat.reduceEqDiff, not_false_eq_true]
  · simp only [px_up_cell, px_up_slot, px_up_eq, ne_eq, Nat.reduceEqDiff, not_false_eq_true]
