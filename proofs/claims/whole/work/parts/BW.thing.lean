/-! A clause of the reference. -/
theorem mHead {T : Nat → Int} {s e kind : Nat} {m m1 : hp} {v : Int} (sc : SC T s e 2 m) (hk : kind < 6) (ky : kyV T s (e - s) 0 9 = (kind : Int)) (hv : v = 0 ∨ v = 1) (e1 : px_R (mm_Mod_readThing, 0, [(2, 123), (0, (kind : Int)), (9, 0), (9, 0)], [], (K0, m)) = some (v, (K0, m1))) : px_R (mm_Mod_readClause, 0, [(2, 123), (9, 0)], [], (K0, m)) = some (v, (K0, m1)) := by
  obtain ⟨d3, d5, d6, d4, _, _⟩ := sc
  rw [if_pos rfl, ky] at d4
  have d3 : m 123 3 = 1 := d3
  have i5 : (0 : Int) ≤ (kind : Int) ∧ (kind : Int) ≤ 5 := by omega
  have gv : (decide ((0 : Int) ≤ v) && decide (v < 2)) = true := by
    rcases hv with rfl | rfl <;> rfl
  rw [eq_Mod_readClause_0]
  simp only [px_rd_mk, px_wr_mk, Int.reduceToNat, Int.toNat_natCast, if_true, if_false, Option.bind_some, px_up_cell, px_up_slot, px_up_eq, ne_eq, Nat.reduceEqDiff, not_false_eq_true, Int.reduceEq, Int.reduceLT, Int.reduceLE, Int.reduceNeg, decide_true, decide_false, Bool.and_true, Bool.true_and, Bool.and_false, Bool.false_and, and_self, and_true, true_and, and_false, false_and, bi_T, bi_F, not_true_eq_false, Bool.false_eq_true, kg_123, d3, d4]
  rw [eq_Mod_readClause_16]
  simp only [px_rd_mk, px_wr_mk, Int.reduceToNat, Int.toNat_natCast, if_true, if_false, Option.bind_some, px_up_cell, px_up_slot, px_up_eq, ne_eq, Nat.reduceEqDiff, not_false_eq_true, Int.reduceEq, Int.reduceLT, Int.reduceLE, Int.reduceNeg, decide_true, decide_false, Bool.and_true, Bool.true_and, Bool.and_false, Bool.false_and, and_self, and_true, true_and, and_false, false_and, bi_T, bi_F, not_true_eq_false, Bool.false_eq_true, kg_123, R_Mod_in, bi_t i5, e1, gv]
theorem mNone {T : Nat → Int} {s e k : Nat} {m : hp} (sc : SC T s e k m) (hk : k < 5) (no : ¬ k = 2 ∨ kyV T s (e - s) 0 9 = -1) : px_R (mm_Mod_readClause, 0, [(2, 123), (9, 0)], [], (K0, m)) = some (0, (K0, flM 1 m)) := by
  obtain ⟨d3, d5, d6, d4, _, _⟩ := sc
  have i5 : ¬ ((0 : Int) ≤ -1 ∧ (-1 : Int) ≤ 5) := by decide
  have go16 : px_R (mm_Mod_readClause, 16, [(2, 123), (9, 0)], [(0, -1)], (K0, m)) = some (0, (K0, flM 1 m)) := by
    rw [eq_Mod_readClause_16]
    simp only [px_rd_mk, px_wr_mk, Int.reduceToNat, Int.toNat_natCast, if_true, if_false, Option.bind_some, px_up_cell, px_up_slot, px_up_eq, ne_eq, Nat.reduceEqDiff, not_false_eq_true, Int.reduceEq, Int.reduceLT, Int.reduceLE, Int.reduceNeg, decide_true, decide_false, Bool.and_true, Bool.true_and, Bool.and_false, Bool.false_and, and_self, and_true, true_and, and_false, false_and, bi_T, bi_F, not_true_eq_false, Bool.false_eq_true, kg_123, R_Mod_in, bi_f i5, R_fails]
  rw [eq_Mod_readClause_0]
  by_cases z : k = 2
  · have d3' : m 123 3 = 1 := by rw [d3, z]; rfl
    rw [if_pos z, no.resolve_left (fun y => y z)] at d4
    simp only [px_rd_mk, px_wr_mk, Int.reduceToNat, Int.toNat_natCast, if_true, if_false, Option.bind_some, px_up_cell, px_up_slot, px_up_eq, ne_eq, Nat.reduceEqDiff, not_false_eq_true, Int.reduceEq, Int.reduceLT, Int.reduceLE, Int.reduceNeg, decide_true, decide_false, Bool.and_true, Bool.true_and, Bool.and_false, Bool.false_and, and_self, and_true, true_and, and_false, false_and, bi_T, bi_F, not_true_eq_false, Bool.false_eq_true, kg_123, d3', d4, go16]
  · have n1 : (m 123 3 = 1) = False := eq_false (by
      rw [d3]
      intro y
      have y2 : (k + 4) % 5 = 1 := Int.ofNat.inj y
      omega)
    simp only [px_rd_mk, px_wr_mk, Int.reduceToNat, Int.toNat_natCast, if_true, if_false, Option.bind_some, px_up_cell, px_up_slot, px_up_eq, ne_eq, Nat.reduceEqDiff, not_false_eq_true, Int.reduceEq, Int.reduceLT, Int.reduceLE, Int.reduceNeg, decide_true, decide_false, Bool.and_true, Bool.true_and, Bool.and_false, Bool.false_and, and_self, and_true, true_and, and_false, false_and, bi_T, bi_F, not_true_eq_false, Bool.false_eq_true, kg_123, n1, go16]
theorem t262 {kind : Nat} {q : Nat} {m : hp} {x2 : Int} (I : IR m) (hk : kind < 6) (hq : m 125 (9 + kind) = (q : Int)) (hq6 : q < 100) : px_R (mm_Mod_readThing, 262, [(2, 123), (0, (kind : Int)), (0, x2), (0, 0)], [], (K0, m)) = some (0, (K0, m)) ∧ px_R (mm_Mod_readThing, 262, [(2, 123), (0, (kind : Int)), (0, x2), (0, 1)], [], (K0, m)) = some (1, (K0, px_up m 125 (9 + kind) ((q + 1 : Nat) : Int))) := by
  have u9 : -2147483648 ≤ 9 + (kind : Int) ∧ 9 + (kind : Int) < 2147483648 := by omega
  have u9e : 9 + (kind : Int) = ((9 + kind : Nat) : Int) := by omega
  have g9 : (decide ((0 : Int) ≤ ((9 + kind : Nat) : Int)) && decide (((9 + kind : Nat) : Int) < 18)) = true := gd_ok (by omega)
  have j1 := px_w_s (show q < 1000000 by omega)
  constructor
  · rw [eq_Mod_readThing_262]
    simp only [px_rd_mk, px_wr_mk, Int.reduceToNat, Int.toNat_natCast, if_true, if_false, Option.bind_some, px_up_cell, px_up_slot, px_up_eq, ne_eq, Nat.reduceEqDiff, not_false_eq_true, Int.reduceEq, Int.reduceLT, Int.reduceLE, Int.reduceNeg, decide_true, decide_false, Bool.and_true, Bool.true_and, Bool.and_false, Bool.false_and, and_self, and_true, true_and, and_false, false_and, bi_T, bi_F, not_true_eq_false, Bool.false_eq_true, kg_123]
  · rw [eq_Mod_readThing_262]
    simp only [px_rd_mk, px_wr_mk, Int.reduceToNat, Int.toNat_natCast, if_true, if_false, Option.bind_some, px_up_cell, px_up_slot, px_up_eq, ne_eq, Nat.reduceEqDiff, not_false_eq_true, Int.reduceEq, Int.reduceLT, Int.reduceLE, Int.reduceNeg, decide_true, decide_false, Bool.and_true, Bool.true_and, Bool.and_false, Bool.false_and, and_self, and_true, true_and, and_false, false_and, bi_T, bi_F, not_true_eq_false, Bool.false_eq_true, kg_123, ka_125, ir_123_12 I, (px_w_n u9).trans u9e, g9, hq, j1]
theorem mT_0 {q : Nat} {m m1 m2 : hp} {v v2 : Int} (I : IR m) (I1 : IR m1) (hq : m 125 (9 + 0) = (q : Int)) (hq6 : q < 100) (e1 : px_R (mm_Mod_readName, 0, [(2, 123), (0, 0), (0, 4), (9, 0), (9, 0)], [], (K0, m)) = some (v, (K0, m1))) (e2 : v = 1 → px_R (mm_Mod_readRow, 3, [(2, 123), (2, 127), (0, ((5 * (4 + q) : Nat) : Int)), (0, 5), (0, 1), (0, 99), (0, 999), (0, 0)], [], (K0, m1)) = some (v2, (K0, m2))) : (v = 0 → px_R (mm_Mod_readThing, 0, [(2, 123), (0, 0), (9, 0), (9, 0)], [], (K0, m)) = px_R (mm_Mod_readThing, 262, [(2, 123), (0, 0), (0, (q : Int)), (0, 0)], [], (K0, m1))) ∧ (v = 1 → v2 = 0 → px_R (mm_Mod_readThing, 0, [(2, 123), (0, 0), (9, 0), (9, 0)], [], (K0, m)) = px_R (mm_Mod_readThing, 262, [(2, 123), (0, 0), (0, (q : Int)), (0, 0)], [], (K0, m2))) ∧ (v = 1 → v2 = 1 → px_R (mm_Mod_readThing, 0, [(2, 123), (0, 0), (9, 0), (9, 0)], [], (K0, m)) = px_R (mm_Mod_readThing, 262, [(2, 123), (0, 0), (0, (q : Int)), (0, 1)], [], (K0, m2))) := by
  have w9 : px_w (9 + 0) = 9 := rfl
  have hq : m 125 9 = (q : Int) := hq
  have u1 : -2147483648 ≤ 4 + (q : Int) ∧ 4 + (q : Int) < 2147483648 := by omega
  have u2 : -2147483648 ≤ 5 * (4 + (q : Int)) ∧ 5 * (4 + (q : Int)) < 2147483648 := by omega
  have u2e : 5 * (4 + (q : Int)) = ((5 * (4 + q) : Nat) : Int) := by omega
  have rr : ∀ w : pw, px_R (mm_Mod_readRow, 0, [(2, 123), (2, 127), (0, ((5 * (4 + q) : Nat) : Int)), (0, 5), (0, 1), (0, 99), (0, 999), (9, 0)], [], w) = px_R (mm_Mod_readRow, 3, [(2, 123), (2, 127), (0, ((5 * (4 + q) : Nat) : Int)), (0, 5), (0, 1), (0, 99), (0, 999), (0, 0)], [], w) := fun w => eq_Mod_readRow_0 _ _ _ _ _ _ _ _
  refine ⟨fun z => ?_, fun z y => ?_, fun z y => ?_⟩
  · subst z
    rw [eq_Mod_readThing_0]
    simp only [px_rd_mk, px_wr_mk, Int.reduceToNat, Int.toNat_natCast, if_true, if_false, Option.bind_some, px_up_cell, px_up_slot, px_up_eq, ne_eq, Nat.reduceEqDiff, not_false_eq_true, Int.reduceEq, Int.reduceLT, Int.reduceLE, Int.reduceNeg, decide_true, decide_false, Bool.and_true, Bool.true_and, Bool.and_false, Bool.false_and, and_self, and_true, true_and, and_false, false_and, bi_T, bi_F, not_true_eq_false, Bool.false_eq_true, kg_123, ka_125, ir_123_12 I, w9, hq, e1]
  · have e2 := e2 z
    subst z y
    rw [eq_Mod_readThing_0]
    simp only [px_rd_mk, px_wr_mk, Int.reduceToNat, Int.toNat_natCast, if_true, if_false, Option.bind_some, px_up_cell, px_up_slot, px_up_eq, ne_eq, Nat.reduceEqDiff, not_false_eq_true, Int.reduceEq, Int.reduceLT, Int.reduceLE, Int.reduceNeg, decide_true, decide_false, Bool.and_true, Bool.true_and, Bool.and_false, Bool.false_and, and_self, and_true, true_and, and_false, false_and, bi_T, bi_F, not_true_eq_false, Bool.false_eq_true, kg_123, ka_125, ir_123_12 I, ir_123_14 I1, w9, hq, e1, px_w_n u1, (px_w_n u2).trans u2e, rr, e2]
  · have e2 := e2 z
    subst z y
    rw [eq_Mod_readThing_0]
    simp only [px_rd_mk, px_wr_mk, Int.reduceToNat, Int.toNat_natCast, if_true, if_false, Option.bind_some, px_up_cell, px_up_slot, px_up_eq, ne_eq, Nat.reduceEqDiff, not_false_eq_true, Int.reduceEq, Int.reduceLT, Int.reduceLE, Int.reduceNeg, decide_true, decide_false, Bool.and_true, Bool.true_and, Bool.and_false, Bool.false_and, and_self, and_true, true_and, and_false, false_and, bi_T, bi_F, not_true_eq_false, Bool.false_eq_true, kg_123, ka_125, ir_123_12 I, ir_123_14 I1, w9, hq, e1, px_w_n u1, (px_w_n u2).trans u2e, rr, e2]
theorem mT_1 {q : Nat} {m m1 m2 : hp} {v v2 : Int} (I : IR m) (I1 : IR m1) (hq : m 125 (9 + 1) = (q : Int)) (hq6 : q < 100) (e1 : px_R (mm_Mod_readName, 0, [(2, 123), (0, 1), (0, 4), (9, 0), (9, 0)], [], (K0, m)) = some (v, (K0, m1))) (e2 : v = 1 → px_R (mm_Mod_readRow, 3, [(2, 123), (2, 128), (0, ((4 * (4 + q) : Nat) : Int)), (0, 4), (0, 0), (0, 100), (0, 100), (0, 0)], [], (K0, m1)) = some (v2, (K0, m2))) : (v = 0 → px_R (mm_Mod_readThing, 0, [(2, 123), (0, 1), (9, 0), (9, 0)], [], (K0, m)) = px_R (mm_Mod_readThing, 262, [(2, 123), (0, 1), (0, (q : Int)), (0, 0)], [], (K0, m1))) ∧ (v = 1 → v2 = 0 → px_R (mm_Mod_readThing, 0, [(2, 123), (0, 1), (9, 0), (9, 0)], [], (K0, m)) = px_R (mm_Mod_readThing, 262, [(2, 123), (0, 1), (0, (q : Int)), (0, 0)], [], (K0, m2))) ∧ (v = 1 → v2 = 1 → px_R (mm_Mod_readThing, 0, [(2, 123), (0, 1), (9, 0), (9, 0)], [], (K0, m)) = px_R (mm_Mod_readThing, 262, [(2, 123), (0, 1), (0, (q : Int)), (0, 1)], [], (K0, m2))) := by
  have w9 : px_w (9 + 1) = 10 := rfl
  have hq : m 125 10 = (q : Int) := hq
  have u1 : -2147483648 ≤ 4 + (q : Int) ∧ 4 + (q : Int) < 2147483648 := by omega
  have u2 : -2147483648 ≤ 4 * (4 + (q : Int)) ∧ 4 * (4 + (q : Int)) < 2147483648 := by omega
  have u2e : 4 * (4 + (q : Int)) = ((4 * (4 + q) : Nat) : Int) := by omega
  have rr : ∀ w : pw, px_R (mm_Mod_readRow, 0, [(2, 123), (2, 128), (0, ((4 * (4 + q) : Nat) : Int)), (0, 4), (0, 0), (0, 100), (0, 100), (9, 0)], [], w) = px_R (mm_Mod_readRow, 3, [(2, 123), (2, 128), (0, ((4 * (4 + q) : Nat) : Int)), (0, 4), (0, 0), (0, 100), (0, 100), (0, 0)], [], w) := fun w => eq_Mod_readRow_0 _ _ _ _ _ _ _ _
  refine ⟨fun z => ?_, fun z y => ?_, fun z y => ?_⟩
  · subst z
    rw [eq_Mod_readThing_0]
    simp only [px_rd_mk, px_wr_mk, Int.reduceToNat, Int.toNat_natCast, if_true, if_false, Option.bind_some, px_up_cell, px_up_slot, px_up_eq, ne_eq, Nat.reduceEqDiff, not_false_eq_true, Int.reduceEq, Int.reduceLT, Int.reduceLE, Int.reduceNeg, decide_true, decide_false, Bool.and_true, Bool.true_and, Bool.and_false, Bool.false_and, and_self, and_true, true_and, and_false, false_and, bi_T, bi_F, not_true_eq_false, Bool.false_eq_true, kg_123, ka_125, ir_123_12 I, w9, hq, e1]
  · have e2 := e2 z
    subst z y
    rw [eq_Mod_readThing_0]
    simp only [px_rd_mk, px_wr_mk, Int.reduceToNat, Int.toNat_natCast, if_true, if_false, Option.bind_some, px_up_cell, px_up_slot, px_up_eq, ne_eq, Nat.reduceEqDiff, not_false_eq_true, Int.reduceEq, Int.reduceLT, Int.reduceLE, Int.reduceNeg, decide_true, decide_false, Bool.and_true, Bool.true_and, Bool.and_false, Bool.false_and, and_self, and_true, true_and, and_false, false_and, bi_T, bi_F, not_true_eq_false, Bool.false_eq_true, kg_123, ka_125, ir_123_12 I, ir_123_15 I1, w9, hq, e1, px_w_n u1, (px_w_n u2).trans u2e, rr, e2]
  · have e2 := e2 z
    subst z y
    rw [eq_Mod_readThing_0]
    simp only [px_rd_mk, px_wr_mk, Int.reduceToNat, Int.toNat_natCast, if_true, if_false, Option.bind_some, px_up_cell, px_up_slot, px_up_eq, ne_eq, Nat.reduceEqDiff, not_false_eq_true, Int.reduceEq, Int.reduceLT, Int.reduceLE, Int.reduceNeg, decide_true, decide_false, Bool.and_true, Bool.true_and, Bool.and_false, Bool.false_and, and_self, and_true, true_and, and_false, false_and, bi_T, bi_F, not_true_eq_false, Bool.false_eq_true, kg_123, ka_125, ir_123_12 I, ir_123_15 I1, w9, hq, e1, px_w_n u1, (px_w_n u2).trans u2e, rr, e2]
theorem mT_2 {q : Nat} {m m1 m2 : hp} {v v2 : Int} (I : IR m) (I1 : IR m1) (hq : m 125 (9 + 2) = (q : Int)) (hq6 : q < 100) (e1 : px_R (mm_Mod_readName, 0, [(2, 123), (0, 2), (0, 6), (9, 0), (9, 0)], [], (K0, m)) = some (v, (K0, m1))) (e2 : v = 1 → px_R (mm_Mod_readRow, 3, [(2, 123), (2, 129), (0, ((4 * (6 + q) : Nat) : Int)), (0, 4), (0, 0), (0, 9), (0, 9), (0, 0)], [], (K0, m1)) = some (v2, (K0, m2))) : (v = 0 → px_R (mm_Mod_readThing, 0, [(2, 123), (0, 2), (9, 0), (9, 0)], [], (K0, m)) = px_R (mm_Mod_readThing, 262, [(2, 123), (0, 2), (0, (q : Int)), (0, 0)], [], (K0, m1))) ∧ (v = 1 → v2 = 0 → px_R (mm_Mod_readThing, 0, [(2, 123), (0, 2), (9, 0), (9, 0)], [], (K0, m)) = px_R (mm_Mod_readThing, 262, [(2, 123), (0, 2), (0, (q : Int)), (0, 0)], [], (K0, m2))) ∧ (v = 1 → v2 = 1 → px_R (mm_Mod_readThing, 0, [(2, 123), (0, 2), (9, 0), (9, 0)], [], (K0, m)) = px_R (mm_Mod_readThing, 262, [(2, 123), (0, 2), (0, (q : Int)), (0, 1)], [], (K0, m2))) := by
  have w9 : px_w (9 + 2) = 11 := rfl
  have hq : m 125 11 = (q : Int) := hq
  have u1 : -2147483648 ≤ 6 + (q : Int) ∧ 6 + (q : Int) < 2147483648 := by omega
  have u2 : -2147483648 ≤ 4 * (6 + (q : Int)) ∧ 4 * (6 + (q : Int)) < 2147483648 := by omega
  have u2e : 4 * (6 + (q : Int)) = ((4 * (6 + q) : Nat) : Int) := by omega
  have rr : ∀ w : pw, px_R (mm_Mod_readRow, 0, [(2, 123), (2, 129), (0, ((4 * (6 + q) : Nat) : Int)), (0, 4), (0, 0), (0, 9), (0, 9), (9, 0)], [], w) = px_R (mm_Mod_readRow, 3, [(2, 123), (2, 129), (0, ((4 * (6 + q) : Nat) : Int)), (0, 4), (0, 0), (0, 9), (0, 9), (0, 0)], [], w) := fun w => eq_Mod_readRow_0 _ _ _ _ _ _ _ _
  refine ⟨fun z => ?_, fun z y => ?_, fun z y => ?_⟩
  · subst z
    rw [eq_Mod_readThing_0]
    simp only [px_rd_mk, px_wr_mk, Int.reduceToNat, Int.toNat_natCast, if_true, if_false, Option.bind_some, px_up_cell, px_up_slot, px_up_eq, ne_eq, Nat.reduceEqDiff, not_false_eq_true, Int.reduceEq, Int.reduceLT, Int.reduceLE, Int.reduceNeg, decide_true, decide_false, Bool.and_true, Bool.true_and, Bool.and_false, Bool.false_and, and_self, and_true, true_and, and_false, false_and, bi_T, bi_F, not_true_eq_false, Bool.false_eq_true, kg_123, ka_125, ir_123_12 I, w9, hq, e1]
  · have e2 := e2 z
    subst z y
    rw [eq_Mod_readThing_0]
    simp only [px_rd_mk, px_wr_mk, Int.reduceToNat, Int.toNat_natCast, if_true, if_false, Option.bind_some, px_up_cell, px_up_slot, px_up_eq, ne_eq, Nat.reduceEqDiff, not_false_eq_true, Int.reduceEq, Int.reduceLT, Int.reduceLE, Int.reduceNeg, decide_true, decide_false, Bool.and_true, Bool.true_and, Bool.and_false, Bool.false_and, and_self, and_true, true_and, and_false, false_and, bi_T, bi_F, not_true_eq_false, Bool.false_eq_true, kg_123, ka_125, ir_123_12 I, ir_123_16 I1, w9, hq, e1, px_w_n u1, (px_w_n u2).trans u2e, rr, e2]
  · have e2 := e2 z
    subst z y
    rw [eq_Mod_readThing_0]
    simp only [px_rd_mk, px_wr_mk, Int.reduceToNat, Int.toNat_natCast, if_true, if_false, Option.bind_some, px_up_cell, px_up_slot, px_up_eq, ne_eq, Nat.reduceEqDiff, not_false_eq_true, Int.reduceEq, Int.reduceLT, Int.reduceLE, Int.reduceNeg, decide_true, decide_false, Bool.and_true, Bool.true_and, Bool.and_false, Bool.false_and, and_self, and_true, true_and, and_false, false_and, bi_T, bi_F, not_true_eq_false, Bool.false_eq_true, kg_123, ka_125, ir_123_12 I, ir_123_16 I1, w9, hq, e1, px_w_n u1, (px_w_n u2).trans u2e, rr, e2]
theorem mT_5 {q : Nat} {m m1 m2 : hp} {v v2 : Int} (I : IR m) (I1 : IR m1) (hq : m 125 (9 + 5) = (q : Int)) (hq6 : q < 100) (e1 : px_R (mm_Mod_readName, 0, [(2, 123), (0, 5), (0, 4), (9, 0), (9, 0)], [], (K0, m)) = some (v, (K0, m1))) (e2 : v = 1 → px_R (mm_Mod_readRow, 3, [(2, 123), (2, 134), (0, ((5 * (4 + q) : Nat) : Int)), (0, 5), (0, 1), (0, 9), (0, 9), (0, 0)], [], (K0, m1)) = some (v2, (K0, m2))) : (v = 0 → px_R (mm_Mod_readThing, 0, [(2, 123), (0, 5), (9, 0), (9, 0)], [], (K0, m)) = px_R (mm_Mod_readThing, 262, [(2, 123), (0, 5), (0, (q : Int)), (0, 0)], [], (K0, m1))) ∧ (v = 1 → v2 = 0 → px_R (mm_Mod_readThing, 0, [(2, 123), (0, 5), (9, 0), (9, 0)], [], (K0, m)) = px_R (mm_Mod_readThing, 262, [(2, 123), (0, 5), (0, (q : Int)), (0, 0)], [], (K0, m2))) ∧ (v = 1 → v2 = 1 → px_R (mm_Mod_readThing, 0, [(2, 123), (0, 5), (9, 0), (9, 0)], [], (K0, m)) = px_R (mm_Mod_readThing, 262, [(2, 123), (0, 5), (0, (q : Int)), (0, 1)], [], (K0, m2))) := by
  have w9 : px_w (9 + 5) = 14 := rfl
  have hq : m 125 14 = (q : Int) := hq
  have u1 : -2147483648 ≤ 4 + (q : Int) ∧ 4 + (q : Int) < 2147483648 := by omega
  have u2 : -2147483648 ≤ 5 * (4 + (q : Int)) ∧ 5 * (4 + (q : Int)) < 2147483648 := by omega
  have u2e : 5 * (4 + (q : Int)) = ((5 * (4 + q) : Nat) : Int) := by omega
  have rr : ∀ w : pw, px_R (mm_Mod_readRow, 0, [(2, 123), (2, 134), (0, ((5 * (4 + q) : Nat) : Int)), (0, 5), (0, 1), (0, 9), (0, 9), (9, 0)], [], w) = px_R (mm_Mod_readRow, 3, [(2, 123), (2, 134), (0, ((5 * (4 + q) : Nat) : Int)), (0, 5), (0, 1), (0, 9), (0, 9), (0, 0)], [], w) := fun w => eq_Mod_readRow_0 _ _ _ _ _ _ _ _
  refine ⟨fun z => ?_, fun z y => ?_, fun z y => ?_⟩
  · subst z
    rw [eq_Mod_readThing_0]
    simp only [px_rd_mk, px_wr_mk, Int.reduceToNat, Int.toNat_natCast, if_true, if_false, Option.bind_some, px_up_cell, px_up_slot, px_up_eq, ne_eq, Nat.reduceEqDiff, not_false_eq_true, Int.reduceEq, Int.reduceLT, Int.reduceLE, Int.reduceNeg, decide_true, decide_false, Bool.and_true, Bool.true_and, Bool.and_false, Bool.false_and, and_self, and_true, true_and, and_false, false_and, bi_T, bi_F, not_true_eq_false, Bool.false_eq_true, kg_123, ka_125, ir_123_12 I, w9, hq, e1]
  · have e2 := e2 z
    subst z y
    rw [eq_Mod_readThing_0]
    simp only [px_rd_mk, px_wr_mk, Int.reduceToNat, Int.toNat_natCast, if_true, if_false, Option.bind_some, px_up_cell, px_up_slot, px_up_eq, ne_eq, Nat.reduceEqDiff, not_false_eq_true, Int.reduceEq, Int.reduceLT, Int.reduceLE, Int.reduceNeg, decide_true, decide_false, Bool.and_true, Bool.true_and, Bool.and_false, Bool.false_and, and_self, and_true, true_and, and_false, false_and, bi_T, bi_F, not_true_eq_false, Bool.false_eq_true, kg_123, ka_125, ir_123_12 I, ir_123_21 I1, w9, hq, e1, px_w_n u1, (px_w_n u2).trans u2e, rr, e2]
  · have e2 := e2 z
    subst z y
    rw [eq_Mod_readThing_0]
    simp only [px_rd_mk, px_wr_mk, Int.reduceToNat, Int.toNat_natCast, if_true, if_false, Option.bind_some, px_up_cell, px_up_slot, px_up_eq, ne_eq, Nat.reduceEqDiff, not_false_eq_true, Int.reduceEq, Int.reduceLT, Int.reduceLE, Int.reduceNeg, decide_true, decide_false, Bool.and_true, Bool.true_and, Bool.and_false, Bool.false_and, and_self, and_true, true_and, and_false, false_and, bi_T, bi_F, not_true_eq_false, Bool.false_eq_true, kg_123, ka_125, ir_123_12 I, ir_123_21 I1, w9, hq, e1, px_w_n u1, (px_w_n u2).trans u2e, rr, e2]
