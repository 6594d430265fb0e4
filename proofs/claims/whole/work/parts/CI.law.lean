/-! The law, call by call. -/
theorem law_w {i L : Nat} (hi : i + 6 ≤ L) (hL : L ≤ 3072) {j : Nat} (hj : j < 6) : px_w ((i : Int) + (j : Int)) = ((i + j : Nat) : Int) := by
  have u : -2147483648 ≤ (i : Int) + (j : Int) ∧ (i : Int) + (j : Int) < 2147483648 := by omega
  rw [px_w_n u]
  omega
theorem law_g {i L : Nat} (hi : i + 6 ≤ L) {j : Nat} (hj : j < 6) : (decide ((0 : Int) ≤ ((i + j : Nat) : Int)) && decide (((i + j : Nat) : Int) < (L : Int))) = true := gd_ok (by omega)
theorem px_cmp_self (v : Int) : px_cmp v v = 0 := by
  unfold px_cmp
  rw [if_neg (Int.lt_irrefl _), if_pos rfl]
def lwQ (L i : Nat) (h : hp) (X : Option pr) : Prop := ∃ k : hp, X = px_R (mm_Law_law, 1412, [(5, (L : Int)), (2, 1), (2, 123), (0, (i : Int))], [], (K0, k)) ∧ CI k ∧ k 0 = h 0
theorem lwQ_ite {L i : Nat} {h : hp} {p : Prop} [Decidable p] {A B : Option pr} (a : lwQ L i h A) (b : lwQ L i h B) : lwQ L i h (if p then A else B) := by
  by_cases c : p
  · rw [if_pos c]
    exact a
  · rw [if_neg c]
    exact b
theorem lw_204 {L i : Nat} {h : hp} (C : CI h) (hi : i + 6 ≤ L) (hL : L ≤ 3072) (hr : ∀ j, -2147483648 ≤ h 0 j ∧ h 0 j < 2147483648) : lwQ L i h (px_R (mm_Law_law, 204, [(5, (L : Int)), (2, 1), (2, 123), (0, (i : Int))], [], (K0, h))) := by
  obtain ⟨v, g, k, e1, e2, Ck⟩ := C_feed C (h 0 (i + 1)) (h 0 (i + 2)) (h 0 (i + 3)) (h 0 (i + 4)) (h 0 (i + 5))
  have z1 := keep0 e1
  have w1 : px_w ((i : Int) + 1) = ((i + 1 : Nat) : Int) := law_w hi hL (j := 1) (by decide)
  have g1 := law_g hi (j := 1) (by decide)
  have y1 : g 0 (i + 1) = h 0 (i + 1) := congrFun z1 _
  have w2 : px_w ((i : Int) + 2) = ((i + 2 : Nat) : Int) := law_w hi hL (j := 2) (by decide)
  have g2 := law_g hi (j := 2) (by decide)
  have y2 : g 0 (i + 2) = h 0 (i + 2) := congrFun z1 _
  have w3 : px_w ((i : Int) + 3) = ((i + 3 : Nat) : Int) := law_w hi hL (j := 3) (by decide)
  have g3 := law_g hi (j := 3) (by decide)
  have y3 : g 0 (i + 3) = h 0 (i + 3) := congrFun z1 _
  have w4 : px_w ((i : Int) + 4) = ((i + 4 : Nat) : Int) := law_w hi hL (j := 4) (by decide)
  have g4 := law_g hi (j := 4) (by decide)
  have y4 : g 0 (i + 4) = h 0 (i + 4) := congrFun z1 _
  have w5 : px_w ((i : Int) + 5) = ((i + 5 : Nat) : Int) := law_w hi hL (j := 5) (by decide)
  have g5 := law_g hi (j := 5) (by decide)
  have y5 : g 0 (i + 5) = h 0 (i + 5) := congrFun z1 _
  refine ⟨k, ?_, Ck, (keep0 e2).trans z1⟩
  rw [eq_Law_law_204]
  simp only [px_rd_mk, px_wr_mk, Int.reduceToNat, Int.toNat_natCast, if_true, if_false, Option.bind_some, px_up_cell, px_up_slot, px_up_eq, ne_eq, Nat.reduceEqDiff, not_false_eq_true, Int.reduceEq, Int.reduceLT, Int.reduceLE, Int.reduceNeg, decide_true, decide_false, Bool.and_true, Bool.true_and, Bool.and_false, Bool.false_and, and_self, and_true, true_and, and_false, false_and, bi_T, bi_F, not_true_eq_false, Bool.false_eq_true, kg_1, kg_123, w1, g1, y1, w2, g2, y2, w3, g3, y3, w4, g4, y4, w5, g5, y5, e1, e2, eq_self, px_cmp_self]
theorem lw_267 {L i : Nat} {h : hp} (C : CI h) (hi : i + 6 ≤ L) (hL : L ≤ 3072) (hr : ∀ j, -2147483648 ≤ h 0 j ∧ h 0 j < 2147483648) : lwQ L i h (px_R (mm_Law_law, 267, [(5, (L : Int)), (2, 1), (2, 123), (0, (i : Int))], [], (K0, h))) := by
  obtain ⟨v, g, k, e1, e2, Ck⟩ := C_end C (h 0 (i + 1))
  have z1 := keep0 e1
  have w1 : px_w ((i : Int) + 1) = ((i + 1 : Nat) : Int) := law_w hi hL (j := 1) (by decide)
  have g1 := law_g hi (j := 1) (by decide)
  have y1 : g 0 (i + 1) = h 0 (i + 1) := congrFun z1 _
  refine ⟨k, ?_, Ck, (keep0 e2).trans z1⟩
  rw [eq_Law_law_267]
  simp only [px_rd_mk, px_wr_mk, Int.reduceToNat, Int.toNat_natCast, if_true, if_false, Option.bind_some, px_up_cell, px_up_slot, px_up_eq, ne_eq, Nat.reduceEqDiff, not_false_eq_true, Int.reduceEq, Int.reduceLT, Int.reduceLE, Int.reduceNeg, decide_true, decide_false, Bool.and_true, Bool.true_and, Bool.and_false, Bool.false_and, and_self, and_true, true_and, and_false, false_and, bi_T, bi_F, not_true_eq_false, Bool.false_eq_true, kg_1, kg_123, w1, g1, y1, e1, e2, eq_self, px_cmp_self]
theorem lw_290 {L i : Nat} {h : hp} (C : CI h) (hi : i + 6 ≤ L) (hL : L ≤ 3072) (hr : ∀ j, -2147483648 ≤ h 0 j ∧ h 0 j < 2147483648) : lwQ L i h (px_R (mm_Law_law, 290, [(5, (L : Int)), (2, 1), (2, 123), (0, (i : Int))], [], (K0, h))) := by
  obtain ⟨v, g, k, e1, e2, Ck⟩ := C_street C
  have z1 := keep0 e1
  refine ⟨k, ?_, Ck, (keep0 e2).trans z1⟩
  rw [eq_Law_law_290]
  simp only [px_rd_mk, px_wr_mk, Int.reduceToNat, Int.toNat_natCast, if_true, if_false, Option.bind_some, px_up_cell, px_up_slot, px_up_eq, ne_eq, Nat.reduceEqDiff, not_false_eq_true, Int.reduceEq, Int.reduceLT, Int.reduceLE, Int.reduceNeg, decide_true, decide_false, Bool.and_true, Bool.true_and, Bool.and_false, Bool.false_and, and_self, and_true, true_and, and_false, false_and, bi_T, bi_F, not_true_eq_false, Bool.false_eq_true, kg_1, kg_123, e1, e2, eq_self, px_cmp_self]
theorem lw_303 {L i : Nat} {h : hp} (C : CI h) (hi : i + 6 ≤ L) (hL : L ≤ 3072) (hr : ∀ j, -2147483648 ≤ h 0 j ∧ h 0 j < 2147483648) : lwQ L i h (px_R (mm_Law_law, 303, [(5, (L : Int)), (2, 1), (2, 123), (0, (i : Int))], [], (K0, h))) := by
  obtain ⟨v, g, k, e1, e2, Ck⟩ := C_fault C (h 0 (i + 1))
  have z1 := keep0 e1
  have w1 : px_w ((i : Int) + 1) = ((i + 1 : Nat) : Int) := law_w hi hL (j := 1) (by decide)
  have g1 := law_g hi (j := 1) (by decide)
  have y1 : g 0 (i + 1) = h 0 (i + 1) := congrFun z1 _
  refine ⟨k, ?_, Ck, (keep0 e2).trans z1⟩
  rw [eq_Law_law_303]
  simp only [px_rd_mk, px_wr_mk, Int.reduceToNat, Int.toNat_natCast, if_true, if_false, Option.bind_some, px_up_cell, px_up_slot, px_up_eq, ne_eq, Nat.reduceEqDiff, not_false_eq_true, Int.reduceEq, Int.reduceLT, Int.reduceLE, Int.reduceNeg, decide_true, decide_false, Bool.and_true, Bool.true_and, Bool.and_false, Bool.false_and, and_self, and_true, true_and, and_false, false_and, bi_T, bi_F, not_true_eq_false, Bool.false_eq_true, kg_1, kg_123, w1, g1, y1, e1, e2, eq_self, px_cmp_self]
theorem lw_326 {L i : Nat} {h : hp} (C : CI h) (hi : i + 6 ≤ L) (hL : L ≤ 3072) (hr : ∀ j, -2147483648 ≤ h 0 j ∧ h 0 j < 2147483648) : lwQ L i h (px_R (mm_Law_law, 326, [(5, (L : Int)), (2, 1), (2, 123), (0, (i : Int))], [], (K0, h))) := by
  obtain ⟨v, g, k, e1, e2, Ck⟩ := C_told C (h 0 (i + 1)) (hr (i + 1))
  have z1 := keep0 e1
  have w1 : px_w ((i : Int) + 1) = ((i + 1 : Nat) : Int) := law_w hi hL (j := 1) (by decide)
  have g1 := law_g hi (j := 1) (by decide)
  have y1 : g 0 (i + 1) = h 0 (i + 1) := congrFun z1 _
  refine ⟨k, ?_, Ck, (keep0 e2).trans z1⟩
  rw [eq_Law_law_326]
  simp only [px_rd_mk, px_wr_mk, Int.reduceToNat, Int.toNat_natCast, if_true, if_false, Option.bind_some, px_up_cell, px_up_slot, px_up_eq, ne_eq, Nat.reduceEqDiff, not_false_eq_true, Int.reduceEq, Int.reduceLT, Int.reduceLE, Int.reduceNeg, decide_true, decide_false, Bool.and_true, Bool.true_and, Bool.and_false, Bool.false_and, and_self, and_true, true_and, and_false, false_and, bi_T, bi_F, not_true_eq_false, Bool.false_eq_true, kg_1, kg_123, w1, g1, y1, e1, e2, eq_self, px_cmp_self]
theorem lw_349 {L i : Nat} {h : hp} (C : CI h) (hi : i + 6 ≤ L) (hL : L ≤ 3072) (hr : ∀ j, -2147483648 ≤ h 0 j ∧ h 0 j < 2147483648) : lwQ L i h (px_R (mm_Law_law, 349, [(5, (L : Int)), (2, 1), (2, 123), (0, (i : Int))], [], (K0, h))) := by
  obtain ⟨v, g, k, e1, e2, Ck⟩ := C_band C (h 0 (i + 1)) (h 0 (i + 2)) (h 0 (i + 3))
  have z1 := keep0 e1
  have w1 : px_w ((i : Int) + 1) = ((i + 1 : Nat) : Int) := law_w hi hL (j := 1) (by decide)
  have g1 := law_g hi (j := 1) (by decide)
  have y1 : g 0 (i + 1) = h 0 (i + 1) := congrFun z1 _
  have w2 : px_w ((i : Int) + 2) = ((i + 2 : Nat) : Int) := law_w hi hL (j := 2) (by decide)
  have g2 := law_g hi (j := 2) (by decide)
  have y2 : g 0 (i + 2) = h 0 (i + 2) := congrFun z1 _
  have w3 : px_w ((i : Int) + 3) = ((i + 3 : Nat) : Int) := law_w hi hL (j := 3) (by decide)
  have g3 := law_g hi (j := 3) (by decide)
  have y3 : g 0 (i + 3) = h 0 (i + 3) := congrFun z1 _
  refine ⟨k, ?_, Ck, (keep0 e2).trans z1⟩
  rw [eq_Law_law_349]
  simp only [px_rd_mk, px_wr_mk, Int.reduceToNat, Int.toNat_natCast, if_true, if_false, Option.bind_some, px_up_cell, px_up_slot, px_up_eq, ne_eq, Nat.reduceEqDiff, not_false_eq_true, Int.reduceEq, Int.reduceLT, Int.reduceLE, Int.reduceNeg, decide_true, decide_false, Bool.and_true, Bool.true_and, Bool.and_false, Bool.false_and, and_self, and_true, true_and, and_false, false_and, bi_T, bi_F, not_true_eq_false, Bool.false_eq_true, kg_1, kg_123, w1, g1, y1, w2, g2, y2, w3, g3, y3, e1, e2, eq_self, px_cmp_self]
theorem lw_392 {L i : Nat} {h : hp} (C : CI h) (hi : i + 6 ≤ L) (hL : L ≤ 3072) (hr : ∀ j, -2147483648 ≤ h 0 j ∧ h 0 j < 2147483648) : lwQ L i h (px_R (mm_Law_law, 392, [(5, (L : Int)), (2, 1), (2, 123), (0, (i : Int))], [], (K0, h))) := by
  obtain ⟨v, g, k, e1, e2, Ck⟩ := C_line C (h 0 (i + 1)) (h 0 (i + 2)) (h 0 (i + 3)) (h 0 (i + 4))
  have z1 := keep0 e1
  have w1 : px_w ((i : Int) + 1) = ((i + 1 : Nat) : Int) := law_w hi hL (j := 1) (by decide)
  have g1 := law_g hi (j := 1) (by decide)
  have y1 : g 0 (i + 1) = h 0 (i + 1) := congrFun z1 _
  have w2 : px_w ((i : Int) + 2) = ((i + 2 : Nat) : Int) := law_w hi hL (j := 2) (by decide)
  have g2 := law_g hi (j := 2) (by decide)
  have y2 : g 0 (i + 2) = h 0 (i + 2) := congrFun z1 _
  have w3 : px_w ((i : Int) + 3) = ((i + 3 : Nat) : Int) := law_w hi hL (j := 3) (by decide)
  have g3 := law_g hi (j := 3) (by decide)
  have y3 : g 0 (i + 3) = h 0 (i + 3) := congrFun z1 _
  have w4 : px_w ((i : Int) + 4) = ((i + 4 : Nat) : Int) := law_w hi hL (j := 4) (by decide)
  have g4 := law_g hi (j := 4) (by decide)
  have y4 : g 0 (i + 4) = h 0 (i + 4) := congrFun z1 _
  refine ⟨k, ?_, Ck, (keep0 e2).trans z1⟩
  rw [eq_Law_law_392]
  simp only [px_rd_mk, px_wr_mk, Int.reduceToNat, Int.toNat_natCast, if_true, if_false, Option.bind_some, px_up_cell, px_up_slot, px_up_eq, ne_eq, Nat.reduceEqDiff, not_false_eq_true, Int.reduceEq, Int.reduceLT, Int.reduceLE, Int.reduceNeg, decide_true, decide_false, Bool.and_true, Bool.true_and, Bool.and_false, Bool.false_and, and_self, and_true, true_and, and_false, false_and, bi_T, bi_F, not_true_eq_false, Bool.false_eq_true, kg_1, kg_123, w1, g1, y1, w2, g2, y2, w3, g3, y3, w4, g4, y4, e1, e2, eq_self, px_cmp_self]
theorem lw_445 {L i : Nat} {h : hp} (C : CI h) (hi : i + 6 ≤ L) (hL : L ≤ 3072) (hr : ∀ j, -2147483648 ≤ h 0 j ∧ h 0 j < 2147483648) : lwQ L i h (px_R (mm_Law_law, 445, [(5, (L : Int)), (2, 1), (2, 123), (0, (i : Int))], [], (K0, h))) := by
  obtain ⟨v, g, k, e1, e2, Ck⟩ := C_bend C (h 0 (i + 1))
  have z1 := keep0 e1
  have w1 : px_w ((i : Int) + 1) = ((i + 1 : Nat) : Int) := law_w hi hL (j := 1) (by decide)
  have g1 := law_g hi (j := 1) (by decide)
  have y1 : g 0 (i + 1) = h 0 (i + 1) := congrFun z1 _
  refine ⟨k, ?_, Ck, (keep0 e2).trans z1⟩
  rw [eq_Law_law_445]
  simp only [px_rd_mk, px_wr_mk, Int.reduceToNat, Int.toNat_natCast, if_true, if_false, Option.bind_some, px_up_cell, px_up_slot, px_up_eq, ne_eq, Nat.reduceEqDiff, not_false_eq_true, Int.reduceEq, Int.reduceLT, Int.reduceLE, Int.reduceNeg, decide_true, decide_false, Bool.and_true, Bool.true_and, Bool.and_false, Bool.false_and, and_self, and_true, true_and, and_false, false_and, bi_T, bi_F, not_true_eq_false, Bool.false_eq_true, kg_1, kg_123, w1, g1, y1, e1, e2, eq_self, px_cmp_self]
theorem lw_468 {L i : Nat} {h : hp} (C : CI h) (hi : i + 6 ≤ L) (hL : L ≤ 3072) (hr : ∀ j, -2147483648 ≤ h 0 j ∧ h 0 j < 2147483648) : lwQ L i h (px_R (mm_Law_law, 468, [(5, (L : Int)), (2, 1), (2, 123), (0, (i : Int))], [], (K0, h))) := by
  obtain ⟨v, g, k, e1, e2, Ck⟩ := C_tie C (h 0 (i + 1))
  have z1 := keep0 e1
  have w1 : px_w ((i : Int) + 1) = ((i + 1 : Nat) : Int) := law_w hi hL (j := 1) (by decide)
  have g1 := law_g hi (j := 1) (by decide)
  have y1 : g 0 (i + 1) = h 0 (i + 1) := congrFun z1 _
  refine ⟨k, ?_, Ck, (keep0 e2).trans z1⟩
  rw [eq_Law_law_468]
  simp only [px_rd_mk, px_wr_mk, Int.reduceToNat, Int.toNat_natCast, if_true, if_false, Option.bind_some, px_up_cell, px_up_slot, px_up_eq, ne_eq, Nat.reduceEqDiff, not_false_eq_true, Int.reduceEq, Int.reduceLT, Int.reduceLE, Int.reduceNeg, decide_true, decide_false, Bool.and_true, Bool.true_and, Bool.and_false, Bool.false_and, and_self, and_true, true_and, and_false, false_and, bi_T, bi_F, not_true_eq_false, Bool.false_eq_true, kg_1, kg_123, w1, g1, y1, e1, e2, eq_self, px_cmp_self]
theorem lw_491 {L i : Nat} {h : hp} (C : CI h) (hi : i + 6 ≤ L) (hL : L ≤ 3072) (hr : ∀ j, -2147483648 ≤ h 0 j ∧ h 0 j < 2147483648) : lwQ L i h (px_R (mm_Law_law, 491, [(5, (L : Int)), (2, 1), (2, 123), (0, (i : Int))], [], (K0, h))) := by
  obtain ⟨v, g, k, e1, e2, Ck⟩ := C_straighten C
  have z1 := keep0 e1
  refine ⟨k, ?_, Ck, (keep0 e2).trans z1⟩
  rw [eq_Law_law_491]
  simp only [px_rd_mk, px_wr_mk, Int.reduceToNat, Int.toNat_natCast, if_true, if_false, Option.bind_some, px_up_cell, px_up_slot, px_up_eq, ne_eq, Nat.reduceEqDiff, not_false_eq_true, Int.reduceEq, Int.reduceLT, Int.reduceLE, Int.reduceNeg, decide_true, decide_false, Bool.and_true, Bool.true_and, Bool.and_false, Bool.false_and, and_self, and_true, true_and, and_false, false_and, bi_T, bi_F, not_true_eq_false, Bool.false_eq_true, kg_1, kg_123, e1, e2, eq_self, px_cmp_self]
theorem lw_504 {L i : Nat} {h : hp} (C : CI h) (hi : i + 6 ≤ L) (hL : L ≤ 3072) (hr : ∀ j, -2147483648 ≤ h 0 j ∧ h 0 j < 2147483648) : lwQ L i h (px_R (mm_Law_law, 504, [(5, (L : Int)), (2, 1), (2, 123), (0, (i : Int))], [], (K0, h))) := by
  obtain ⟨v, g, k, e1, e2, Ck⟩ := C_bears C (h 0 (i + 1))
  have z1 := keep0 e1
  have w1 : px_w ((i : Int) + 1) = ((i + 1 : Nat) : Int) := law_w hi hL (j := 1) (by decide)
  have g1 := law_g hi (j := 1) (by decide)
  have y1 : g 0 (i + 1) = h 0 (i + 1) := congrFun z1 _
  refine ⟨k, ?_, Ck, (keep0 e2).trans z1⟩
  rw [eq_Law_law_504]
  simp only [px_rd_mk, px_wr_mk, Int.reduceToNat, Int.toNat_natCast, if_true, if_false, Option.bind_some, px_up_cell, px_up_slot, px_up_eq, ne_eq, Nat.reduceEqDiff, not_false_eq_true, Int.reduceEq, Int.reduceLT, Int.reduceLE, Int.reduceNeg, decide_true, decide_false, Bool.and_true, Bool.true_and, Bool.and_false, Bool.false_and, and_self, and_true, true_and, and_false, false_and, bi_T, bi_F, not_true_eq_false, Bool.false_eq_true, kg_1, kg_123, w1, g1, y1, e1, e2, eq_self, px_cmp_self]
theorem lw_527 {L i : Nat} {h : hp} (C : CI h) (hi : i + 6 ≤ L) (hL : L ≤ 3072) (hr : ∀ j, -2147483648 ≤ h 0 j ∧ h 0 j < 2147483648) : lwQ L i h (px_R (mm_Law_law, 527, [(5, (L : Int)), (2, 1), (2, 123), (0, (i : Int))], [], (K0, h))) := by
  obtain ⟨v, g, k, e1, e2, Ck⟩ := C_through C (h 0 (i + 1)) (h 0 (i + 2))
  have z1 := keep0 e1
  have w1 : px_w ((i : Int) + 1) = ((i + 1 : Nat) : Int) := law_w hi hL (j := 1) (by decide)
  have g1 := law_g hi (j := 1) (by decide)
  have y1 : g 0 (i + 1) = h 0 (i + 1) := congrFun z1 _
  have w2 : px_w ((i : Int) + 2) = ((i + 2 : Nat) : Int) := law_w hi hL (j := 2) (by decide)
  have g2 := law_g hi (j := 2) (by decide)
  have y2 : g 0 (i + 2) = h 0 (i + 2) := congrFun z1 _
  refine ⟨k, ?_, Ck, (keep0 e2).trans z1⟩
  rw [eq_Law_law_527]
  simp only [px_rd_mk, px_wr_mk, Int.reduceToNat, Int.toNat_natCast, if_true, if_false, Option.bind_some, px_up_cell, px_up_slot, px_up_eq, ne_eq, Nat.reduceEqDiff, not_false_eq_true, Int.reduceEq, Int.reduceLT, Int.reduceLE, Int.reduceNeg, decide_true, decide_false, Bool.and_true, Bool.true_and, Bool.and_false, Bool.false_and, and_self, and_true, true_and, and_false, false_and, bi_T, bi_F, not_true_eq_false, Bool.false_eq_true, kg_1, kg_123, w1, g1, y1, w2, g2, y2, e1, e2, eq_self, px_cmp_self]
theorem lw_560 {L i : Nat} {h : hp} (C : CI h) (hi : i + 6 ≤ L) (hL : L ≤ 3072) (hr : ∀ j, -2147483648 ≤ h 0 j ∧ h 0 j < 2147483648) : lwQ L i h (px_R (mm_Law_law, 560, [(5, (L : Int)), (2, 1), (2, 123), (0, (i : Int))], [], (K0, h))) := by
  obtain ⟨v, g, k, e1, e2, Ck⟩ := C_share C (h 0 (i + 1)) (h 0 (i + 2)) (h 0 (i + 3))
  have z1 := keep0 e1
  have w1 : px_w ((i : Int) + 1) = ((i + 1 : Nat) : Int) := law_w hi hL (j := 1) (by decide)
  have g1 := law_g hi (j := 1) (by decide)
  have y1 : g 0 (i + 1) = h 0 (i + 1) := congrFun z1 _
  have w2 : px_w ((i : Int) + 2) = ((i + 2 : Nat) : Int) := law_w hi hL (j := 2) (by decide)
  have g2 := law_g hi (j := 2) (by decide)
  have y2 : g 0 (i + 2) = h 0 (i + 2) := congrFun z1 _
  have w3 : px_w ((i : Int) + 3) = ((i + 3 : Nat) : Int) := law_w hi hL (j := 3) (by decide)
  have g3 := law_g hi (j := 3) (by decide)
  have y3 : g 0 (i + 3) = h 0 (i + 3) := congrFun z1 _
  refine ⟨k, ?_, Ck, (keep0 e2).trans z1⟩
  rw [eq_Law_law_560]
  simp only [px_rd_mk, px_wr_mk, Int.reduceToNat, Int.toNat_natCast, if_true, if_false, Option.bind_some, px_up_cell, px_up_slot, px_up_eq, ne_eq, Nat.reduceEqDiff, not_false_eq_true, Int.reduceEq, Int.reduceLT, Int.reduceLE, Int.reduceNeg, decide_true, decide_false, Bool.and_true, Bool.true_and, Bool.and_false, Bool.false_and, and_self, and_true, true_and, and_false, false_and, bi_T, bi_F, not_true_eq_false, Bool.false_eq_true, kg_1, kg_123, w1, g1, y1, w2, g2, y2, w3, g3, y3, e1, e2, eq_self, px_cmp_self]
theorem lw_603 {L i : Nat} {h : hp} (C : CI h) (hi : i + 6 ≤ L) (hL : L ≤ 3072) (hr : ∀ j, -2147483648 ≤ h 0 j ∧ h 0 j < 2147483648) : lwQ L i h (px_R (mm_Law_law, 603, [(5, (L : Int)), (2, 1), (2, 123), (0, (i : Int))], [], (K0, h))) := by
  obtain ⟨v, g, k, e1, e2, Ck⟩ := C_level C (h 0 (i + 1)) (h 0 (i + 2))
  have z1 := keep0 e1
  have w1 : px_w ((i : Int) + 1) = ((i + 1 : Nat) : Int) := law_w hi hL (j := 1) (by decide)
  have g1 := law_g hi (j := 1) (by decide)
  have y1 : g 0 (i + 1) = h 0 (i + 1) := congrFun z1 _
  have w2 : px_w ((i : Int) + 2) = ((i + 2 : Nat) : Int) := law_w hi hL (j := 2) (by decide)
  have g2 := law_g hi (j := 2) (by decide)
  have y2 : g 0 (i + 2) = h 0 (i + 2) := congrFun z1 _
  refine ⟨k, ?_, Ck, (keep0 e2).trans z1⟩
  rw [eq_Law_law_603]
  simp only [px_rd_mk, px_wr_mk, Int.reduceToNat, Int.toNat_natCast, if_true, if_false, Option.bind_some, px_up_cell, px_up_slot, px_up_eq, ne_eq, Nat.reduceEqDiff, not_false_eq_true, Int.reduceEq, Int.reduceLT, Int.reduceLE, Int.reduceNeg, decide_true, decide_false, Bool.and_true, Bool.true_and, Bool.and_false, Bool.false_and, and_self, and_true, true_and, and_false, false_and, bi_T, bi_F, not_true_eq_false, Bool.false_eq_true, kg_1, kg_123, w1, g1, y1, w2, g2, y2, e1, e2, eq_self, px_cmp_self]
theorem lw_636 {L i : Nat} {h : hp} (C : CI h) (hi : i + 6 ≤ L) (hL : L ≤ 3072) (hr : ∀ j, -2147483648 ≤ h 0 j ∧ h 0 j < 2147483648) : lwQ L i h (px_R (mm_Law_law, 636, [(5, (L : Int)), (2, 1), (2, 123), (0, (i : Int))], [], (K0, h))) := by
  obtain ⟨v, g, k, e1, e2, Ck⟩ := C_table C (h 0 (i + 1)) (h 0 (i + 2))
  have z1 := keep0 e1
  have w1 : px_w ((i : Int) + 1) = ((i + 1 : Nat) : Int) := law_w hi hL (j := 1) (by decide)
  have g1 := law_g hi (j := 1) (by decide)
  have y1 : g 0 (i + 1) = h 0 (i + 1) := congrFun z1 _
  have w2 : px_w ((i : Int) + 2) = ((i + 2 : Nat) : Int) := law_w hi hL (j := 2) (by decide)
  have g2 := law_g hi (j := 2) (by decide)
  have y2 : g 0 (i + 2) = h 0 (i + 2) := congrFun z1 _
  refine ⟨k, ?_, Ck, (keep0 e2).trans z1⟩
  rw [eq_Law_law_636]
  simp only [px_rd_mk, px_wr_mk, Int.reduceToNat, Int.toNat_natCast, if_true, if_false, Option.bind_some, px_up_cell, px_up_slot, px_up_eq, ne_eq, Nat.reduceEqDiff, not_false_eq_true, Int.reduceEq, Int.reduceLT, Int.reduceLE, Int.reduceNeg, decide_true, decide_false, Bool.and_true, Bool.true_and, Bool.and_false, Bool.false_and, and_self, and_true, true_and, and_false, false_and, bi_T, bi_F, not_true_eq_false, Bool.false_eq_true, kg_1, kg_123, w1, g1, y1, w2, g2, y2, e1, e2, eq_self, px_cmp_self]
theorem lw_669 {L i : Nat} {h : hp} (C : CI h) (hi : i + 6 ≤ L) (hL : L ≤ 3072) (hr : ∀ j, -2147483648 ≤ h 0 j ∧ h 0 j < 2147483648) : lwQ L i h (px_R (mm_Law_law, 669, [(5, (L : Int)), (2, 1), (2, 123), (0, (i : Int))], [], (K0, h))) := by
  obtain ⟨v, g, k, e1, e2, Ck⟩ := C_among C (h 0 (i + 1)) (h 0 (i + 2)) (h 0 (i + 3))
  have z1 := keep0 e1
  have w1 : px_w ((i : Int) + 1) = ((i + 1 : Nat) : Int) := law_w hi hL (j := 1) (by decide)
  have g1 := law_g hi (j := 1) (by decide)
  have y1 : g 0 (i + 1) = h 0 (i + 1) := congrFun z1 _
  have w2 : px_w ((i : Int) + 2) = ((i + 2 : Nat) : Int) := law_w hi hL (j := 2) (by decide)
  have g2 := law_g hi (j := 2) (by decide)
  have y2 : g 0 (i + 2) = h 0 (i + 2) := congrFun z1 _
  have w3 : px_w ((i : Int) + 3) = ((i + 3 : Nat) : Int) := law_w hi hL (j := 3) (by decide)
  have g3 := law_g hi (j := 3) (by decide)
  have y3 : g 0 (i + 3) = h 0 (i + 3) := congrFun z1 _
  refine ⟨k, ?_, Ck, (keep0 e2).trans z1⟩
  rw [eq_Law_law_669]
  simp only [px_rd_mk, px_wr_mk, Int.reduceToNat, Int.toNat_natCast, if_true, if_false, Option.bind_some, px_up_cell, px_up_slot, px_up_eq, ne_eq, Nat.reduceEqDiff, not_false_eq_true, Int.reduceEq, Int.reduceLT, Int.reduceLE, Int.reduceNeg, decide_true, decide_false, Bool.and_true, Bool.true_and, Bool.and_false, Bool.false_and, and_self, and_true, true_and, and_false, false_and, bi_T, bi_F, not_true_eq_false, Bool.false_eq_true, kg_1, kg_123, w1, g1, y1, w2, g2, y2, w3, g3, y3, e1, e2, eq_self, px_cmp_self]
theorem lw_712 {L i : Nat} {h : hp} (C : CI h) (hi : i + 6 ≤ L) (hL : L ≤ 3072) (hr : ∀ j, -2147483648 ≤ h 0 j ∧ h 0 j < 2147483648) : lwQ L i h (px_R (mm_Law_law, 712, [(5, (L : Int)), (2, 1), (2, 123), (0, (i : Int))], [], (K0, h))) := by
  obtain ⟨v, g, k, e1, e2, Ck⟩ := C_longest C (h 0 (i + 1)) (h 0 (i + 2)) (h 0 (i + 3))
  have z1 := keep0 e1
  have w1 : px_w ((i : Int) + 1) = ((i + 1 : Nat) : Int) := law_w hi hL (j := 1) (by decide)
  have g1 := law_g hi (j := 1) (by decide)
  have y1 : g 0 (i + 1) = h 0 (i + 1) := congrFun z1 _
  have w2 : px_w ((i : Int) + 2) = ((i + 2 : Nat) : Int) := law_w hi hL (j := 2) (by decide)
  have g2 := law_g hi (j := 2) (by decide)
  have y2 : g 0 (i + 2) = h 0 (i + 2) := congrFun z1 _
  have w3 : px_w ((i : Int) + 3) = ((i + 3 : Nat) : Int) := law_w hi hL (j := 3) (by decide)
  have g3 := law_g hi (j := 3) (by decide)
  have y3 : g 0 (i + 3) = h 0 (i + 3) := congrFun z1 _
  refine ⟨k, ?_, Ck, (keep0 e2).trans z1⟩
  rw [eq_Law_law_712]
  simp only [px_rd_mk, px_wr_mk, Int.reduceToNat, Int.toNat_natCast, if_true, if_false, Option.bind_some, px_up_cell, px_up_slot, px_up_eq, ne_eq, Nat.reduceEqDiff, not_false_eq_true, Int.reduceEq, Int.reduceLT, Int.reduceLE, Int.reduceNeg, decide_true, decide_false, Bool.and_true, Bool.true_and, Bool.and_false, Bool.false_and, and_self, and_true, true_and, and_false, false_and, bi_T, bi_F, not_true_eq_false, Bool.false_eq_true, kg_1, kg_123, w1, g1, y1, w2, g2, y2, w3, g3, y3, e1, e2, eq_self, px_cmp_self]
theorem lw_755 {L i : Nat} {h : hp} (C : CI h) (hi : i + 6 ≤ L) (hL : L ≤ 3072) (hr : ∀ j, -2147483648 ≤ h 0 j ∧ h 0 j < 2147483648) : lwQ L i h (px_R (mm_Law_law, 755, [(5, (L : Int)), (2, 1), (2, 123), (0, (i : Int))], [], (K0, h))) := by
  obtain ⟨v, g, k, e1, e2, Ck⟩ := C_best C (h 0 (i + 1))
  have z1 := keep0 e1
  have w1 : px_w ((i : Int) + 1) = ((i + 1 : Nat) : Int) := law_w hi hL (j := 1) (by decide)
  have g1 := law_g hi (j := 1) (by decide)
  have y1 : g 0 (i + 1) = h 0 (i + 1) := congrFun z1 _
  refine ⟨k, ?_, Ck, (keep0 e2).trans z1⟩
  rw [eq_Law_law_755]
  simp only [px_rd_mk, px_wr_mk, Int.reduceToNat, Int.toNat_natCast, if_true, if_false, Option.bind_some, px_up_cell, px_up_slot, px_up_eq, ne_eq, Nat.reduceEqDiff, not_false_eq_true, Int.reduceEq, Int.reduceLT, Int.reduceLE, Int.reduceNeg, decide_true, decide_false, Bool.and_true, Bool.true_and, Bool.and_false, Bool.false_and, and_self, and_true, true_and, and_false, false_and, bi_T, bi_F, not_true_eq_false, Bool.false_eq_true, kg_1, kg_123, w1, g1, y1, e1, e2, eq_self, px_cmp_self]
theorem lw_778 {L i : Nat} {h : hp} (C : CI h) (hi : i + 6 ≤ L) (hL : L ≤ 3072) (hr : ∀ j, -2147483648 ≤ h 0 j ∧ h 0 j < 2147483648) : lwQ L i h (px_R (mm_Law_law, 778, [(5, (L : Int)), (2, 1), (2, 123), (0, (i : Int))], [], (K0, h))) := by
  obtain ⟨v, g, k, e1, e2, Ck⟩ := C_bestLoop C (h 0 (i + 1))
  have z1 := keep0 e1
  have w1 : px_w ((i : Int) + 1) = ((i + 1 : Nat) : Int) := law_w hi hL (j := 1) (by decide)
  have g1 := law_g hi (j := 1) (by decide)
  have y1 : g 0 (i + 1) = h 0 (i + 1) := congrFun z1 _
  refine ⟨k, ?_, Ck, (keep0 e2).trans z1⟩
  rw [eq_Law_law_778]
  simp only [px_rd_mk, px_wr_mk, Int.reduceToNat, Int.toNat_natCast, if_true, if_false, Option.bind_some, px_up_cell, px_up_slot, px_up_eq, ne_eq, Nat.reduceEqDiff, not_false_eq_true, Int.reduceEq, Int.reduceLT, Int.reduceLE, Int.reduceNeg, decide_true, decide_false, Bool.and_true, Bool.true_and, Bool.and_false, Bool.false_and, and_self, and_true, true_and, and_false, false_and, bi_T, bi_F, not_true_eq_false, Bool.false_eq_true, kg_1, kg_123, w1, g1, y1, e1, e2, eq_self, px_cmp_self]
theorem lw_801 {L i : Nat} {h : hp} (C : CI h) (hi : i + 6 ≤ L) (hL : L ≤ 3072) (hr : ∀ j, -2147483648 ≤ h 0 j ∧ h 0 j < 2147483648) : lwQ L i h (px_R (mm_Law_law, 801, [(5, (L : Int)), (2, 1), (2, 123), (0, (i : Int))], [], (K0, h))) := by
  obtain ⟨v, g, k, e1, e2, Ck⟩ := C_list C (h 0 (i + 1))
  have z1 := keep0 e1
  have w1 : px_w ((i : Int) + 1) = ((i + 1 : Nat) : Int) := law_w hi hL (j := 1) (by decide)
  have g1 := law_g hi (j := 1) (by decide)
  have y1 : g 0 (i + 1) = h 0 (i + 1) := congrFun z1 _
  refine ⟨k, ?_, Ck, (keep0 e2).trans z1⟩
  rw [eq_Law_law_801]
  simp only [px_rd_mk, px_wr_mk, Int.reduceToNat, Int.toNat_natCast, if_true, if_false, Option.bind_some, px_up_cell, px_up_slot, px_up_eq, ne_eq, Nat.reduceEqDiff, not_false_eq_true, Int.reduceEq, Int.reduceLT, Int.reduceLE, Int.reduceNeg, decide_true, decide_false, Bool.and_true, Bool.true_and, Bool.and_false, Bool.false_and, and_self, and_true, true_and, and_false, false_and, bi_T, bi_F, not_true_eq_false, Bool.false_eq_true, kg_1, kg_123, w1, g1, y1, e1, e2, eq_self, px_cmp_self]
theorem lw_824 {L i : Nat} {h : hp} (C : CI h) (hi : i + 6 ≤ L) (hL : L ≤ 3072) (hr : ∀ j, -2147483648 ≤ h 0 j ∧ h 0 j < 2147483648) : lwQ L i h (px_R (mm_Law_law, 824, [(5, (L : Int)), (2, 1), (2, 123), (0, (i : Int))], [], (K0, h))) := by
  obtain ⟨v, g, k, e1, e2, Ck⟩ := C_said C (h 0 (i + 1)) (h 0 (i + 2)) (hr (i + 2))
  have z1 := keep0 e1
  have w1 : px_w ((i : Int) + 1) = ((i + 1 : Nat) : Int) := law_w hi hL (j := 1) (by decide)
  have g1 := law_g hi (j := 1) (by decide)
  have y1 : g 0 (i + 1) = h 0 (i + 1) := congrFun z1 _
  have w2 : px_w ((i : Int) + 2) = ((i + 2 : Nat) : Int) := law_w hi hL (j := 2) (by decide)
  have g2 := law_g hi (j := 2) (by decide)
  have y2 : g 0 (i + 2) = h 0 (i + 2) := congrFun z1 _
  refine ⟨k, ?_, Ck, (keep0 e2).trans z1⟩
  rw [eq_Law_law_824]
  simp only [px_rd_mk, px_wr_mk, Int.reduceToNat, Int.toNat_natCast, if_true, if_false, Option.bind_some, px_up_cell, px_up_slot, px_up_eq, ne_eq, Nat.reduceEqDiff, not_false_eq_true, Int.reduceEq, Int.reduceLT, Int.reduceLE, Int.reduceNeg, decide_true, decide_false, Bool.and_true, Bool.true_and, Bool.and_false, Bool.false_and, and_self, and_true, true_and, and_false, false_and, bi_T, bi_F, not_true_eq_false, Bool.false_eq_true, kg_1, kg_123, w1, g1, y1, w2, g2, y2, e1, e2, eq_self, px_cmp_self]
theorem lw_857 {L i : Nat} {h : hp} (C : CI h) (hi : i + 6 ≤ L) (hL : L ≤ 3072) (hr : ∀ j, -2147483648 ≤ h 0 j ∧ h 0 j < 2147483648) : lwQ L i h (px_R (mm_Law_law, 857, [(5, (L : Int)), (2, 1), (2, 123), (0, (i : Int))], [], (K0, h))) := by
  obtain ⟨v, g, k, e1, e2, Ck⟩ := C_stretch C (h 0 (i + 1))
  have z1 := keep0 e1
  have w1 : px_w ((i : Int) + 1) = ((i + 1 : Nat) : Int) := law_w hi hL (j := 1) (by decide)
  have g1 := law_g hi (j := 1) (by decide)
  have y1 : g 0 (i + 1) = h 0 (i + 1) := congrFun z1 _
  refine ⟨k, ?_, Ck, (keep0 e2).trans z1⟩
  rw [eq_Law_law_857]
  simp only [px_rd_mk, px_wr_mk, Int.reduceToNat, Int.toNat_natCast, if_true, if_false, Option.bind_some, px_up_cell, px_up_slot, px_up_eq, ne_eq, Nat.reduceEqDiff, not_false_eq_true, Int.reduceEq, Int.reduceLT, Int.reduceLE, Int.reduceNeg, decide_true, decide_false, Bool.and_true, Bool.true_and, Bool.and_false, Bool.false_and, and_self, and_true, true_and, and_false, false_and, bi_T, bi_F, not_true_eq_false, Bool.false_eq_true, kg_1, kg_123, w1, g1, y1, e1, e2, eq_self, px_cmp_self]
theorem lw_880 {L i : Nat} {h : hp} (C : CI h) (hi : i + 6 ≤ L) (hL : L ≤ 3072) (hr : ∀ j, -2147483648 ≤ h 0 j ∧ h 0 j < 2147483648) : lwQ L i h (px_R (mm_Law_law, 880, [(5, (L : Int)), (2, 1), (2, 123), (0, (i : Int))], [], (K0, h))) := by
  obtain ⟨v, g, k, e1, e2, Ck⟩ := C_cell C (h 0 (i + 1)) (h 0 (i + 2)) (h 0 (i + 3)) (hr (i + 2))
  have z1 := keep0 e1
  have w1 : px_w ((i : Int) + 1) = ((i + 1 : Nat) : Int) := law_w hi hL (j := 1) (by decide)
  have g1 := law_g hi (j := 1) (by decide)
  have y1 : g 0 (i + 1) = h 0 (i + 1) := congrFun z1 _
  have w2 : px_w ((i : Int) + 2) = ((i + 2 : Nat) : Int) := law_w hi hL (j := 2) (by decide)
  have g2 := law_g hi (j := 2) (by decide)
  have y2 : g 0 (i + 2) = h 0 (i + 2) := congrFun z1 _
  have w3 : px_w ((i : Int) + 3) = ((i + 3 : Nat) : Int) := law_w hi hL (j := 3) (by decide)
  have g3 := law_g hi (j := 3) (by decide)
  have y3 : g 0 (i + 3) = h 0 (i + 3) := congrFun z1 _
  refine ⟨k, ?_, Ck, (keep0 e2).trans z1⟩
  rw [eq_Law_law_880]
  simp only [px_rd_mk, px_wr_mk, Int.reduceToNat, Int.toNat_natCast, if_true, if_false, Option.bind_some, px_up_cell, px_up_slot, px_up_eq, ne_eq, Nat.reduceEqDiff, not_false_eq_true, Int.reduceEq, Int.reduceLT, Int.reduceLE, Int.reduceNeg, decide_true, decide_false, Bool.and_true, Bool.true_and, Bool.and_false, Bool.false_and, and_self, and_true, true_and, and_false, false_and, bi_T, bi_F, not_true_eq_false, Bool.false_eq_true, kg_1, kg_123, w1, g1, y1, w2, g2, y2, w3, g3, y3, e1, e2, eq_self, px_cmp_self]
theorem lw_923 {L i : Nat} {h : hp} (C : CI h) (hi : i + 6 ≤ L) (hL : L ≤ 3072) (hr : ∀ j, -2147483648 ≤ h 0 j ∧ h 0 j < 2147483648) : lwQ L i h (px_R (mm_Law_law, 923, [(5, (L : Int)), (2, 1), (2, 123), (0, (i : Int))], [], (K0, h))) := by
  obtain ⟨v, g, k, e1, e2, Ck⟩ := C_send C (h 0 (i + 1)) (h 0 (i + 2))
  have z1 := keep0 e1
  have w1 : px_w ((i : Int) + 1) = ((i + 1 : Nat) : Int) := law_w hi hL (j := 1) (by decide)
  have g1 := law_g hi (j := 1) (by decide)
  have y1 : g 0 (i + 1) = h 0 (i + 1) := congrFun z1 _
  have w2 : px_w ((i : Int) + 2) = ((i + 2 : Nat) : Int) := law_w hi hL (j := 2) (by decide)
  have g2 := law_g hi (j := 2) (by decide)
  have y2 : g 0 (i + 2) = h 0 (i + 2) := congrFun z1 _
  refine ⟨k, ?_, Ck, (keep0 e2).trans z1⟩
  rw [eq_Law_law_923]
  simp only [px_rd_mk, px_wr_mk, Int.reduceToNat, Int.toNat_natCast, if_true, if_false, Option.bind_some, px_up_cell, px_up_slot, px_up_eq, ne_eq, Nat.reduceEqDiff, not_false_eq_true, Int.reduceEq, Int.reduceLT, Int.reduceLE, Int.reduceNeg, decide_true, decide_false, Bool.and_true, Bool.true_and, Bool.and_false, Bool.false_and, and_self, and_true, true_and, and_false, false_and, bi_T, bi_F, not_true_eq_false, Bool.false_eq_true, kg_1, kg_123, w1, g1, y1, w2, g2, y2, e1, e2, eq_self, px_cmp_self]
theorem lw_956 {L i : Nat} {h : hp} (C : CI h) (hi : i + 6 ≤ L) (hL : L ≤ 3072) (hr : ∀ j, -2147483648 ≤ h 0 j ∧ h 0 j < 2147483648) : lwQ L i h (px_R (mm_Law_law, 956, [(5, (L : Int)), (2, 1), (2, 123), (0, (i : Int))], [], (K0, h))) := by
  obtain ⟨v, g, k, e1, e2, Ck⟩ := C_tick C (h 0 (i + 1))
  have z1 := keep0 e1
  have w1 : px_w ((i : Int) + 1) = ((i + 1 : Nat) : Int) := law_w hi hL (j := 1) (by decide)
  have g1 := law_g hi (j := 1) (by decide)
  have y1 : g 0 (i + 1) = h 0 (i + 1) := congrFun z1 _
  refine ⟨k, ?_, Ck, (keep0 e2).trans z1⟩
  rw [eq_Law_law_956]
  simp only [px_rd_mk, px_wr_mk, Int.reduceToNat, Int.toNat_natCast, if_true, if_false, Option.bind_some, px_up_cell, px_up_slot, px_up_eq, ne_eq, Nat.reduceEqDiff, not_false_eq_true, Int.reduceEq, Int.reduceLT, Int.reduceLE, Int.reduceNeg, decide_true, decide_false, Bool.and_true, Bool.true_and, Bool.and_false, Bool.false_and, and_self, and_true, true_and, and_false, false_and, bi_T, bi_F, not_true_eq_false, Bool.false_eq_true, kg_1, kg_123, w1, g1, y1, e1, e2, eq_self, px_cmp_self]
theorem lw_979 {L i : Nat} {h : hp} (C : CI h) (hi : i + 6 ≤ L) (hL : L ≤ 3072) (hr : ∀ j, -2147483648 ≤ h 0 j ∧ h 0 j < 2147483648) : lwQ L i h (px_R (mm_Law_law, 979, [(5, (L : Int)), (2, 1), (2, 123), (0, (i : Int))], [], (K0, h))) := by
  obtain ⟨v, g, k, e1, e2, Ck⟩ := C_goes C (h 0 (i + 1)) (h 0 (i + 2))
  have z1 := keep0 e1
  have w1 : px_w ((i : Int) + 1) = ((i + 1 : Nat) : Int) := law_w hi hL (j := 1) (by decide)
  have g1 := law_g hi (j := 1) (by decide)
  have y1 : g 0 (i + 1) = h 0 (i + 1) := congrFun z1 _
  have w2 : px_w ((i : Int) + 2) = ((i + 2 : Nat) : Int) := law_w hi hL (j := 2) (by decide)
  have g2 := law_g hi (j := 2) (by decide)
  have y2 : g 0 (i + 2) = h 0 (i + 2) := congrFun z1 _
  refine ⟨k, ?_, Ck, (keep0 e2).trans z1⟩
  rw [eq_Law_law_979]
  simp only [px_rd_mk, px_wr_mk, Int.reduceToNat, Int.toNat_natCast, if_true, if_false, Option.bind_some, px_up_cell, px_up_slot, px_up_eq, ne_eq, Nat.reduceEqDiff, not_false_eq_true, Int.reduceEq, Int.reduceLT, Int.reduceLE, Int.reduceNeg, decide_true, decide_false, Bool.and_true, Bool.true_and, Bool.and_false, Bool.false_and, and_self, and_true, true_and, and_false, false_and, bi_T, bi_F, not_true_eq_false, Bool.false_eq_true, kg_1, kg_123, w1, g1, y1, w2, g2, y2, e1, e2, eq_self, px_cmp_self]
theorem lw_1012 {L i : Nat} {h : hp} (C : CI h) (hi : i + 6 ≤ L) (hL : L ≤ 3072) (hr : ∀ j, -2147483648 ≤ h 0 j ∧ h 0 j < 2147483648) : lwQ L i h (px_R (mm_Law_law, 1012, [(5, (L : Int)), (2, 1), (2, 123), (0, (i : Int))], [], (K0, h))) := by
  obtain ⟨v, g, k, e1, e2, Ck⟩ := C_out C (h 0 (i + 1))
  have z1 := keep0 e1
  have w1 : px_w ((i : Int) + 1) = ((i + 1 : Nat) : Int) := law_w hi hL (j := 1) (by decide)
  have g1 := law_g hi (j := 1) (by decide)
  have y1 : g 0 (i + 1) = h 0 (i + 1) := congrFun z1 _
  refine ⟨k, ?_, Ck, (keep0 e2).trans z1⟩
  rw [eq_Law_law_1012]
  simp only [px_rd_mk, px_wr_mk, Int.reduceToNat, Int.toNat_natCast, if_true, if_false, Option.bind_some, px_up_cell, px_up_slot, px_up_eq, ne_eq, Nat.reduceEqDiff, not_false_eq_true, Int.reduceEq, Int.reduceLT, Int.reduceLE, Int.reduceNeg, decide_true, decide_false, Bool.and_true, Bool.true_and, Bool.and_false, Bool.false_and, and_self, and_true, true_and, and_false, false_and, bi_T, bi_F, not_true_eq_false, Bool.false_eq_true, kg_1, kg_123, w1, g1, y1, e1, e2, eq_self, px_cmp_self]
theorem lw_1036 {L i : Nat} {h : hp} (C : CI h) (hi : i + 6 ≤ L) (hL : L ≤ 3072) (hr : ∀ j, -2147483648 ≤ h 0 j ∧ h 0 j < 2147483648) : lwQ L i h (px_R (mm_Law_law, 1036, [(5, (L : Int)), (2, 1), (2, 123), (0, (i : Int))], [], (K0, h))) := by
  obtain ⟨v, g, k, e1, e2, Ck⟩ := C_keep C (h 0 (i + 1))
  have z1 := keep0 e1
  have w1 : px_w ((i : Int) + 1) = ((i + 1 : Nat) : Int) := law_w hi hL (j := 1) (by decide)
  have g1 := law_g hi (j := 1) (by decide)
  have y1 : g 0 (i + 1) = h 0 (i + 1) := congrFun z1 _
  refine ⟨k, ?_, Ck, (keep0 e2).trans z1⟩
  rw [eq_Law_law_1036]
  simp only [px_rd_mk, px_wr_mk, Int.reduceToNat, Int.toNat_natCast, if_true, if_false, Option.bind_some, px_up_cell, px_up_slot, px_up_eq, ne_eq, Nat.reduceEqDiff, not_false_eq_true, Int.reduceEq, Int.reduceLT, Int.reduceLE, Int.reduceNeg, decide_true, decide_false, Bool.and_true, Bool.true_and, Bool.and_false, Bool.false_and, and_self, and_true, true_and, and_false, false_and, bi_T, bi_F, not_true_eq_false, Bool.false_eq_true, kg_1, kg_123, w1, g1, y1, e1, e2, eq_self, px_cmp_self]
theorem lw_1059 {L i : Nat} {h : hp} (C : CI h) (hi : i + 6 ≤ L) (hL : L ≤ 3072) (hr : ∀ j, -2147483648 ≤ h 0 j ∧ h 0 j < 2147483648) : lwQ L i h (px_R (mm_Law_law, 1059, [(5, (L : Int)), (2, 1), (2, 123), (0, (i : Int))], [], (K0, h))) := by
  obtain ⟨v, g, k, e1, e2, Ck⟩ := C_take C (h 0 (i + 1))
  have z1 := keep0 e1
  have w1 : px_w ((i : Int) + 1) = ((i + 1 : Nat) : Int) := law_w hi hL (j := 1) (by decide)
  have g1 := law_g hi (j := 1) (by decide)
  have y1 : g 0 (i + 1) = h 0 (i + 1) := congrFun z1 _
  refine ⟨k, ?_, Ck, (keep0 e2).trans z1⟩
  rw [eq_Law_law_1059]
  simp only [px_rd_mk, px_wr_mk, Int.reduceToNat, Int.toNat_natCast, if_true, if_false, Option.bind_some, px_up_cell, px_up_slot, px_up_eq, ne_eq, Nat.reduceEqDiff, not_false_eq_true, Int.reduceEq, Int.reduceLT, Int.reduceLE, Int.reduceNeg, decide_true, decide_false, Bool.and_true, Bool.true_and, Bool.and_false, Bool.false_and, and_self, and_true, true_and, and_false, false_and, bi_T, bi_F, not_true_eq_false, Bool.false_eq_true, kg_1, kg_123, w1, g1, y1, e1, e2, eq_self, px_cmp_self]
theorem lw_1082 {L i : Nat} {h : hp} (C : CI h) (hi : i + 6 ≤ L) (hL : L ≤ 3072) (hr : ∀ j, -2147483648 ≤ h 0 j ∧ h 0 j < 2147483648) : lwQ L i h (px_R (mm_Law_law, 1082, [(5, (L : Int)), (2, 1), (2, 123), (0, (i : Int))], [], (K0, h))) := by
  obtain ⟨v, g, k, e1, e2, Ck⟩ := C_yards C (h 0 (i + 1)) (h 0 (i + 2))
  have z1 := keep0 e1
  have w1 : px_w ((i : Int) + 1) = ((i + 1 : Nat) : Int) := law_w hi hL (j := 1) (by decide)
  have g1 := law_g hi (j := 1) (by decide)
  have y1 : g 0 (i + 1) = h 0 (i + 1) := congrFun z1 _
  have w2 : px_w ((i : Int) + 2) = ((i + 2 : Nat) : Int) := law_w hi hL (j := 2) (by decide)
  have g2 := law_g hi (j := 2) (by decide)
  have y2 : g 0 (i + 2) = h 0 (i + 2) := congrFun z1 _
  refine ⟨k, ?_, Ck, (keep0 e2).trans z1⟩
  rw [eq_Law_law_1082]
  simp only [px_rd_mk, px_wr_mk, Int.reduceToNat, Int.toNat_natCast, if_true, if_false, Option.bind_some, px_up_cell, px_up_slot, px_up_eq, ne_eq, Nat.reduceEqDiff, not_false_eq_true, Int.reduceEq, Int.reduceLT, Int.reduceLE, Int.reduceNeg, decide_true, decide_false, Bool.and_true, Bool.true_and, Bool.and_false, Bool.false_and, and_self, and_true, true_and, and_false, false_and, bi_T, bi_F, not_true_eq_false, Bool.false_eq_true, kg_1, kg_123, w1, g1, y1, w2, g2, y2, e1, e2, eq_self, px_cmp_self]
theorem lw_1115 {L i : Nat} {h : hp} (C : CI h) (hi : i + 6 ≤ L) (hL : L ≤ 3072) (hr : ∀ j, -2147483648 ≤ h 0 j ∧ h 0 j < 2147483648) : lwQ L i h (px_R (mm_Law_law, 1115, [(5, (L : Int)), (2, 1), (2, 123), (0, (i : Int))], [], (K0, h))) := by
  obtain ⟨v, g, k, e1, e2, Ck⟩ := C_wish C (h 0 (i + 1)) (h 0 (i + 2))
  have z1 := keep0 e1
  have w1 : px_w ((i : Int) + 1) = ((i + 1 : Nat) : Int) := law_w hi hL (j := 1) (by decide)
  have g1 := law_g hi (j := 1) (by decide)
  have y1 : g 0 (i + 1) = h 0 (i + 1) := congrFun z1 _
  have w2 : px_w ((i : Int) + 2) = ((i + 2 : Nat) : Int) := law_w hi hL (j := 2) (by decide)
  have g2 := law_g hi (j := 2) (by decide)
  have y2 : g 0 (i + 2) = h 0 (i + 2) := congrFun z1 _
  refine ⟨k, ?_, Ck, (keep0 e2).trans z1⟩
  rw [eq_Law_law_1115]
  simp only [px_rd_mk, px_wr_mk, Int.reduceToNat, Int.toNat_natCast, if_true, if_false, Option.bind_some, px_up_cell, px_up_slot, px_up_eq, ne_eq, Nat.reduceEqDiff, not_false_eq_true, Int.reduceEq, Int.reduceLT, Int.reduceLE, Int.reduceNeg, decide_true, decide_false, Bool.and_true, Bool.true_and, Bool.and_false, Bool.false_and, and_self, and_true, true_and, and_false, false_and, bi_T, bi_F, not_true_eq_false, Bool.false_eq_true, kg_1, kg_123, w1, g1, y1, w2, g2, y2, e1, e2, eq_self, px_cmp_self]
theorem lw_1148 {L i : Nat} {h : hp} (C : CI h) (hi : i + 6 ≤ L) (hL : L ≤ 3072) (hr : ∀ j, -2147483648 ≤ h 0 j ∧ h 0 j < 2147483648) : lwQ L i h (px_R (mm_Law_law, 1148, [(5, (L : Int)), (2, 1), (2, 123), (0, (i : Int))], [], (K0, h))) := by
  obtain ⟨v, g, k, e1, e2, Ck⟩ := C_least C (h 0 (i + 1)) (h 0 (i + 2))
  have z1 := keep0 e1
  have w1 : px_w ((i : Int) + 1) = ((i + 1 : Nat) : Int) := law_w hi hL (j := 1) (by decide)
  have g1 := law_g hi (j := 1) (by decide)
  have y1 : g 0 (i + 1) = h 0 (i + 1) := congrFun z1 _
  have w2 : px_w ((i : Int) + 2) = ((i + 2 : Nat) : Int) := law_w hi hL (j := 2) (by decide)
  have g2 := law_g hi (j := 2) (by decide)
  have y2 : g 0 (i + 2) = h 0 (i + 2) := congrFun z1 _
  refine ⟨k, ?_, Ck, (keep0 e2).trans z1⟩
  rw [eq_Law_law_1148]
  simp only [px_rd_mk, px_wr_mk, Int.reduceToNat, Int.toNat_natCast, if_true, if_false, Option.bind_some, px_up_cell, px_up_slot, px_up_eq, ne_eq, Nat.reduceEqDiff, not_false_eq_true, Int.reduceEq, Int.reduceLT, Int.reduceLE, Int.reduceNeg, decide_true, decide_false, Bool.and_true, Bool.true_and, Bool.and_false, Bool.false_and, and_self, and_true, true_and, and_false, false_and, bi_T, bi_F, not_true_eq_false, Bool.false_eq_true, kg_1, kg_123, w1, g1, y1, w2, g2, y2, e1, e2, eq_self, px_cmp_self]
theorem lw_1181 {L i : Nat} {h : hp} (C : CI h) (hi : i + 6 ≤ L) (hL : L ≤ 3072) (hr : ∀ j, -2147483648 ≤ h 0 j ∧ h 0 j < 2147483648) : lwQ L i h (px_R (mm_Law_law, 1181, [(5, (L : Int)), (2, 1), (2, 123), (0, (i : Int))], [], (K0, h))) := by
  obtain ⟨v, g, k, e1, e2, Ck⟩ := C_taps C
  have z1 := keep0 e1
  refine ⟨k, ?_, Ck, (keep0 e2).trans z1⟩
  rw [eq_Law_law_1181]
  simp only [px_rd_mk, px_wr_mk, Int.reduceToNat, Int.toNat_natCast, if_true, if_false, Option.bind_some, px_up_cell, px_up_slot, px_up_eq, ne_eq, Nat.reduceEqDiff, not_false_eq_true, Int.reduceEq, Int.reduceLT, Int.reduceLE, Int.reduceNeg, decide_true, decide_false, Bool.and_true, Bool.true_and, Bool.and_false, Bool.false_and, and_self, and_true, true_and, and_false, false_and, bi_T, bi_F, not_true_eq_false, Bool.false_eq_true, kg_1, kg_123, e1, e2, eq_self, px_cmp_self]
theorem lw_1194 {L i : Nat} {h : hp} (C : CI h) (hi : i + 6 ≤ L) (hL : L ≤ 3072) (hr : ∀ j, -2147483648 ≤ h 0 j ∧ h 0 j < 2147483648) : lwQ L i h (px_R (mm_Law_law, 1194, [(5, (L : Int)), (2, 1), (2, 123), (0, (i : Int))], [], (K0, h))) := by
  obtain ⟨v, g, k, e1, e2, Ck⟩ := C_tapRow C (h 0 (i + 1)) (h 0 (i + 2))
  have z1 := keep0 e1
  have w1 : px_w ((i : Int) + 1) = ((i + 1 : Nat) : Int) := law_w hi hL (j := 1) (by decide)
  have g1 := law_g hi (j := 1) (by decide)
  have y1 : g 0 (i + 1) = h 0 (i + 1) := congrFun z1 _
  have w2 : px_w ((i : Int) + 2) = ((i + 2 : Nat) : Int) := law_w hi hL (j := 2) (by decide)
  have g2 := law_g hi (j := 2) (by decide)
  have y2 : g 0 (i + 2) = h 0 (i + 2) := congrFun z1 _
  refine ⟨k, ?_, Ck, (keep0 e2).trans z1⟩
  rw [eq_Law_law_1194]
  simp only [px_rd_mk, px_wr_mk, Int.reduceToNat, Int.toNat_natCast, if_true, if_false, Option.bind_some, px_up_cell, px_up_slot, px_up_eq, ne_eq, Nat.reduceEqDiff, not_false_eq_true, Int.reduceEq, Int.reduceLT, Int.reduceLE, Int.reduceNeg, decide_true, decide_false, Bool.and_true, Bool.true_and, Bool.and_false, Bool.false_and, and_self, and_true, true_and, and_false, false_and, bi_T, bi_F, not_true_eq_false, Bool.false_eq_true, kg_1, kg_123, w1, g1, y1, w2, g2, y2, e1, e2, eq_self, px_cmp_self]
theorem lw_1227 {L i : Nat} {h : hp} (C : CI h) (hi : i + 6 ≤ L) (hL : L ≤ 3072) (hr : ∀ j, -2147483648 ≤ h 0 j ∧ h 0 j < 2147483648) : lwQ L i h (px_R (mm_Law_law, 1227, [(5, (L : Int)), (2, 1), (2, 123), (0, (i : Int))], [], (K0, h))) := by
  obtain ⟨v, g, k, e1, e2, Ck⟩ := C_write C (h 0 (i + 1)) (h 0 (i + 2)) (h 0 (i + 3))
  have z1 := keep0 e1
  have w1 : px_w ((i : Int) + 1) = ((i + 1 : Nat) : Int) := law_w hi hL (j := 1) (by decide)
  have g1 := law_g hi (j := 1) (by decide)
  have y1 : g 0 (i + 1) = h 0 (i + 1) := congrFun z1 _
  have w2 : px_w ((i : Int) + 2) = ((i + 2 : Nat) : Int) := law_w hi hL (j := 2) (by decide)
  have g2 := law_g hi (j := 2) (by decide)
  have y2 : g 0 (i + 2) = h 0 (i + 2) := congrFun z1 _
  have w3 : px_w ((i : Int) + 3) = ((i + 3 : Nat) : Int) := law_w hi hL (j := 3) (by decide)
  have g3 := law_g hi (j := 3) (by decide)
  have y3 : g 0 (i + 3) = h 0 (i + 3) := congrFun z1 _
  refine ⟨k, ?_, Ck, (keep0 e2).trans z1⟩
  rw [eq_Law_law_1227]
  simp only [px_rd_mk, px_wr_mk, Int.reduceToNat, Int.toNat_natCast, if_true, if_false, Option.bind_some, px_up_cell, px_up_slot, px_up_eq, ne_eq, Nat.reduceEqDiff, not_false_eq_true, Int.reduceEq, Int.reduceLT, Int.reduceLE, Int.reduceNeg, decide_true, decide_false, Bool.and_true, Bool.true_and, Bool.and_false, Bool.false_and, and_self, and_true, true_and, and_false, false_and, bi_T, bi_F, not_true_eq_false, Bool.false_eq_true, kg_1, kg_123, w1, g1, y1, w2, g2, y2, w3, g3, y3, e1, e2, eq_self, px_cmp_self]
theorem lw_1270 {L i : Nat} {h : hp} (C : CI h) (hi : i + 6 ≤ L) (hL : L ≤ 3072) (hr : ∀ j, -2147483648 ≤ h 0 j ∧ h 0 j < 2147483648) : lwQ L i h (px_R (mm_Law_law, 1270, [(5, (L : Int)), (2, 1), (2, 123), (0, (i : Int))], [], (K0, h))) := by
  obtain ⟨v, g, k, e1, e2, Ck⟩ := C_right C (h 0 (i + 1)) (h 0 (i + 2)) (h 0 (i + 3))
  have z1 := keep0 e1
  have w1 : px_w ((i : Int) + 1) = ((i + 1 : Nat) : Int) := law_w hi hL (j := 1) (by decide)
  have g1 := law_g hi (j := 1) (by decide)
  have y1 : g 0 (i + 1) = h 0 (i + 1) := congrFun z1 _
  have w2 : px_w ((i : Int) + 2) = ((i + 2 : Nat) : Int) := law_w hi hL (j := 2) (by decide)
  have g2 := law_g hi (j := 2) (by decide)
  have y2 : g 0 (i + 2) = h 0 (i + 2) := congrFun z1 _
  have w3 : px_w ((i : Int) + 3) = ((i + 3 : Nat) : Int) := law_w hi hL (j := 3) (by decide)
  have g3 := law_g hi (j := 3) (by decide)
  have y3 : g 0 (i + 3) = h 0 (i + 3) := congrFun z1 _
  refine ⟨k, ?_, Ck, (keep0 e2).trans z1⟩
  rw [eq_Law_law_1270]
  simp only [px_rd_mk, px_wr_mk, Int.reduceToNat, Int.toNat_natCast, if_true, if_false, Option.bind_some, px_up_cell, px_up_slot, px_up_eq, ne_eq, Nat.reduceEqDiff, not_false_eq_true, Int.reduceEq, Int.reduceLT, Int.reduceLE, Int.reduceNeg, decide_true, decide_false, Bool.and_true, Bool.true_and, Bool.and_false, Bool.false_and, and_self, and_true, true_and, and_false, false_and, bi_T, bi_F, not_true_eq_false, Bool.false_eq_true, kg_1, kg_123, w1, g1, y1, w2, g2, y2, w3, g3, y3, e1, e2, eq_self, px_cmp_self]
theorem lw_1313 {L i : Nat} {h : hp} (C : CI h) (hi : i + 6 ≤ L) (hL : L ≤ 3072) (hr : ∀ j, -2147483648 ≤ h 0 j ∧ h 0 j < 2147483648) : lwQ L i h (px_R (mm_Law_law, 1313, [(5, (L : Int)), (2, 1), (2, 123), (0, (i : Int))], [], (K0, h))) := by
  obtain ⟨v, g, k, e1, e2, Ck⟩ := C_fit C (h 0 (i + 1)) (h 0 (i + 2))
  have z1 := keep0 e1
  have w1 : px_w ((i : Int) + 1) = ((i + 1 : Nat) : Int) := law_w hi hL (j := 1) (by decide)
  have g1 := law_g hi (j := 1) (by decide)
  have y1 : g 0 (i + 1) = h 0 (i + 1) := congrFun z1 _
  have w2 : px_w ((i : Int) + 2) = ((i + 2 : Nat) : Int) := law_w hi hL (j := 2) (by decide)
  have g2 := law_g hi (j := 2) (by decide)
  have y2 : g 0 (i + 2) = h 0 (i + 2) := congrFun z1 _
  refine ⟨k, ?_, Ck, (keep0 e2).trans z1⟩
  rw [eq_Law_law_1313]
  simp only [px_rd_mk, px_wr_mk, Int.reduceToNat, Int.toNat_natCast, if_true, if_false, Option.bind_some, px_up_cell, px_up_slot, px_up_eq, ne_eq, Nat.reduceEqDiff, not_false_eq_true, Int.reduceEq, Int.reduceLT, Int.reduceLE, Int.reduceNeg, decide_true, decide_false, Bool.and_true, Bool.true_and, Bool.and_false, Bool.false_and, and_self, and_true, true_and, and_false, false_and, bi_T, bi_F, not_true_eq_false, Bool.false_eq_true, kg_1, kg_123, w1, g1, y1, w2, g2, y2, e1, e2, eq_self, px_cmp_self]
theorem lw_1346 {L i : Nat} {h : hp} (C : CI h) (hi : i + 6 ≤ L) (hL : L ≤ 3072) (hr : ∀ j, -2147483648 ≤ h 0 j ∧ h 0 j < 2147483648) : lwQ L i h (px_R (mm_Law_law, 1346, [(5, (L : Int)), (2, 1), (2, 123), (0, (i : Int))], [], (K0, h))) := by
  obtain ⟨v, g, k, e1, e2, Ck⟩ := C_listened C (h 0 (i + 1)) (h 0 (i + 2)) (h 0 (i + 3))
  have z1 := keep0 e1
  have w1 : px_w ((i : Int) + 1) = ((i + 1 : Nat) : Int) := law_w hi hL (j := 1) (by decide)
  have g1 := law_g hi (j := 1) (by decide)
  have y1 : g 0 (i + 1) = h 0 (i + 1) := congrFun z1 _
  have w2 : px_w ((i : Int) + 2) = ((i + 2 : Nat) : Int) := law_w hi hL (j := 2) (by decide)
  have g2 := law_g hi (j := 2) (by decide)
  have y2 : g 0 (i + 2) = h 0 (i + 2) := congrFun z1 _
  have w3 : px_w ((i : Int) + 3) = ((i + 3 : Nat) : Int) := law_w hi hL (j := 3) (by decide)
  have g3 := law_g hi (j := 3) (by decide)
  have y3 : g 0 (i + 3) = h 0 (i + 3) := congrFun z1 _
  refine ⟨k, ?_, Ck, (keep0 e2).trans z1⟩
  rw [eq_Law_law_1346]
  simp only [px_rd_mk, px_wr_mk, Int.reduceToNat, Int.toNat_natCast, if_true, if_false, Option.bind_some, px_up_cell, px_up_slot, px_up_eq, ne_eq, Nat.reduceEqDiff, not_false_eq_true, Int.reduceEq, Int.reduceLT, Int.reduceLE, Int.reduceNeg, decide_true, decide_false, Bool.and_true, Bool.true_and, Bool.and_false, Bool.false_and, and_self, and_true, true_and, and_false, false_and, bi_T, bi_F, not_true_eq_false, Bool.false_eq_true, kg_1, kg_123, w1, g1, y1, w2, g2, y2, w3, g3, y3, e1, e2, eq_self, px_cmp_self]
theorem lw_1389 {L i : Nat} {h : hp} (C : CI h) (hi : i + 6 ≤ L) (hL : L ≤ 3072) (hr : ∀ j, -2147483648 ≤ h 0 j ∧ h 0 j < 2147483648) : lwQ L i h (px_R (mm_Law_law, 1389, [(5, (L : Int)), (2, 1), (2, 123), (0, (i : Int))], [], (K0, h))) := by
  obtain ⟨v, g, k, e1, e2, Ck⟩ := C_count C (h 0 (i + 1))
  have z1 := keep0 e1
  have w1 : px_w ((i : Int) + 1) = ((i + 1 : Nat) : Int) := law_w hi hL (j := 1) (by decide)
  have g1 := law_g hi (j := 1) (by decide)
  have y1 : g 0 (i + 1) = h 0 (i + 1) := congrFun z1 _
  refine ⟨k, ?_, Ck, (keep0 e2).trans z1⟩
  rw [eq_Law_law_1389]
  simp only [px_rd_mk, px_wr_mk, Int.reduceToNat, Int.toNat_natCast, if_true, if_false, Option.bind_some, px_up_cell, px_up_slot, px_up_eq, ne_eq, Nat.reduceEqDiff, not_false_eq_true, Int.reduceEq, Int.reduceLT, Int.reduceLE, Int.reduceNeg, decide_true, decide_false, Bool.and_true, Bool.true_and, Bool.and_false, Bool.false_and, and_self, and_true, true_and, and_false, false_and, bi_T, bi_F, not_true_eq_false, Bool.false_eq_true, kg_1, kg_123, w1, g1, y1, e1, e2, eq_self, px_cmp_self]
theorem lw_step {L i : Nat} {h : hp} (C : CI h) (hi : i + 6 ≤ L) (hL : L ≤ 3072) (hr : ∀ j, -2147483648 ≤ h 0 j ∧ h 0 j < 2147483648) : ∃ k : hp, px_R (mm_Law_law, 18, [(5, (L : Int)), (2, 1), (2, 123), (0, (i : Int))], [], (K0, h)) = px_R (mm_Law_law, 18, [(5, (L : Int)), (2, 1), (2, 123), (0, ((i + 6 : Nat) : Int))], [], (K0, k)) ∧ CI k ∧ k 0 = h 0 := by
  have u : -2147483648 ≤ (L : Int) - 6 ∧ (L : Int) - 6 < 2147483648 := by omega
  have u6 : -2147483648 ≤ (i : Int) + 6 ∧ (i : Int) + 6 < 2147483648 := by omega
  have e6 : (i : Int) + 6 = ((i + 6 : Nat) : Int) := by omega
  have c0 : ((L : Int) - 6 < (i : Int)) = False := eq_false (by omega)
  have g0 : (decide ((0 : Int) ≤ (i : Int)) && decide ((i : Int) < (L : Int))) = true := gd_ok (by omega)
  have Q : lwQ L i h (px_R (mm_Law_law, 18, [(5, (L : Int)), (2, 1), (2, 123), (0, (i : Int))], [], (K0, h))) := by
    rw [eq_Law_law_18, px_w_n u, if_neg (of_eq_false c0), if_pos g0]
    exact lwQ_ite (lw_204 C hi hL hr) (lwQ_ite (lw_267 C hi hL hr) (lwQ_ite (lw_290 C hi hL hr) (lwQ_ite (lw_303 C hi hL hr) (lwQ_ite (lw_326 C hi hL hr) (lwQ_ite (lw_349 C hi hL hr) (lwQ_ite (lw_392 C hi hL hr) (lwQ_ite (lw_445 C hi hL hr) (lwQ_ite (lw_468 C hi hL hr) (lwQ_ite (lw_491 C hi hL hr) (lwQ_ite (lw_504 C hi hL hr) (lwQ_ite (lw_527 C hi hL hr) (lwQ_ite (lw_560 C hi hL hr) (lwQ_ite (lw_603 C hi hL hr) (lwQ_ite (lw_636 C hi hL hr) (lwQ_ite (lw_669 C hi hL hr) (lwQ_ite (lw_712 C hi hL hr) (lwQ_ite (lw_755 C hi hL hr) (lwQ_ite (lw_778 C hi hL hr) (lwQ_ite (lw_801 C hi hL hr) (lwQ_ite (lw_824 C hi hL hr) (lwQ_ite (lw_857 C hi hL hr) (lwQ_ite (lw_880 C hi hL hr) (lwQ_ite (lw_923 C hi hL hr) (lwQ_ite (lw_956 C hi hL hr) (lwQ_ite (lw_979 C hi hL hr) (lwQ_ite (lw_1012 C hi hL hr) (lwQ_ite (lw_1036 C hi hL hr) (lwQ_ite (lw_1059 C hi hL hr) (lwQ_ite (lw_1082 C hi hL hr) (lwQ_ite (lw_1115 C hi hL hr) (lwQ_ite (lw_1148 C hi hL hr) (lwQ_ite (lw_1181 C hi hL hr) (lwQ_ite (lw_1194 C hi hL hr) (lwQ_ite (lw_1227 C hi hL hr) (lwQ_ite (lw_1270 C hi hL hr) (lwQ_ite (lw_1313 C hi hL hr) (lwQ_ite (lw_1346 C hi hL hr) (lwQ_ite (lw_1389 C hi hL hr) (⟨h, rfl, C, rfl⟩)))))))))))))))))))))))))))))))))))))))
  obtain ⟨k, k1, k2, k3⟩ := Q
  refine ⟨k, ?_, k2, k3⟩
  rw [k1, eq_Law_law_1412, px_w_n u6, e6]
theorem lw_loop {L : Nat} (hL : L ≤ 3072) (n : Nat) : ∀ (i : Nat) (h : hp), L ≤ i + n → CI h → (∀ j, -2147483648 ≤ h 0 j ∧ h 0 j < 2147483648) → i ≤ 4000 → ∃ g : hp, px_R (mm_Law_law, 18, [(5, (L : Int)), (2, 1), (2, 123), (0, (i : Int))], [], (K0, h)) = some (1, (K0, g)) := by
  have u : -2147483648 ≤ (L : Int) - 6 ∧ (L : Int) - 6 < 2147483648 := by omega
  induction n with
  | zero =>
    intro i h hi C hr _
    have c : (L : Int) - 6 < (i : Int) := by omega
    exact ⟨h, by rw [eq_Law_law_18, px_w_n u, if_pos c]⟩
  | succ n ih =>
    intro i h hi C hr i4
    by_cases c : (L : Int) - 6 < (i : Int)
    · exact ⟨h, by rw [eq_Law_law_18, px_w_n u, if_pos c]⟩
    · obtain ⟨k, k1, k2, k3⟩ := lw_step C (show i + 6 ≤ L by omega) hL hr
      obtain ⟨g, g1⟩ := ih (i + 6) k (by omega) k2 (fun j => by
        rw [k3]
        exact hr j) (by omega)
      exact ⟨g, k1.trans g1⟩
set_option maxRecDepth 100000 in
theorem law_run {L : Nat} (hL : L ≤ 3072) (xs : Nat → Int32) : ∃ g : hp, px_R (mm_Law_law, 0, [(5, (L : Int)), (9, 0), (9, 0), (9, 0)], [], ([(99, 0)], fun _ j => (xs j).toInt)) = some (1, (K0, g)) := by
  obtain ⟨h0, s1, s2, s3⟩ := start_CI (fun _ j => (xs j).toInt)
  obtain ⟨g, g1⟩ := lw_loop hL L 0 h0 (by omega) s2 (fun j => by
    rw [s3]
    exact ⟨Int32.le_toInt _, Int32.toInt_lt _⟩) (by decide)
  have g1 : px_R (mm_Law_law, 18, [(5, (L : Int)), (2, 1), (2, 123), (0, 0)], [], (K0, h0)) = some (1, (K0, g)) := g1
  refine ⟨g, ?_⟩
  rw [eq_Law_law_0]
  show Option.bind (px_R (mm_Tin_init, 0, [(2, 1), (9, 0)], [], (Kt 2, rO [(0, 1, 0, 0)] (fun _ j => (xs j).toInt)))) _ = _
  rw [ti_all]
  show Option.bind (px_R (mm_Mod_init, 0, [(2, 123)], [], (Kt 124, rO [(0, 123, 0, 0)] (laid (tinH (rO [(0, 1, 0, 0)] (fun _ j => (xs j).toInt))) 2)))) _ = _
  rw [s1]
  exact g1
