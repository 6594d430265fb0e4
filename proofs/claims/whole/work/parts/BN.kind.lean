/-! Kinds of clauses: the class. -/
/-- the class has read this token -/
def CT (T : Nat → Int) (s e k : Nat) (c : hp) : Prop := c 2 2 = (k : Int) ∧ c 2 3 = (s : Int) ∧ c 2 4 = (e : Int) ∧ (k = 2 → c 2 5 = wvl T s (e - s)) ∧ (k = 3 → c 2 6 = nvl T s (e - s))
theorem gl_k {k j : Nat} (hj : j < (px_str k).length) : px_gl (px_str k) (j : Int) = true := by
  unfold px_gl
  exact gd_ok (by omega)
theorem isw_loop {T : Nat → Int} {N s k : Nat} {h : hp} (C : TC2 T N h) (e3 : h 2 3 = (s : Int)) (hs : s + (px_str k).length ≤ N) (m : Nat) : ∀ j : Nat, j + m = (px_str k).length → px_R (mm_Tape_isWord, 28, [(2, 2), (3, (k : Int)), (0, (j : Int))], [], (K0, h)) = some (if tokB T s (px_lst (px_str k)) j m = true then 1 else 0, (K0, h)) := by
  obtain ⟨hI, hN, hN9, hT⟩ := C
  induction m with
  | zero =>
    intro j hj
    rw [eq_Tape_isWord_28, Int.toNat_natCast, if_neg (by omega)]
    rfl
  | succ m ih =>
    intro j hj
    have hlt : ((j : Int) < ((px_str k).length : Int)) = True := eq_true (by omega)
    have g9 := gl_k (k := k) (j := j) (by omega)
    have gs : (decide ((0 : Int) ≤ ((s + j : Nat) : Int)) && decide (((s + j : Nat) : Int) < 900)) = true := gd_ok (by omega)
    have u1 : -2147483648 ≤ (s : Int) + (j : Int) ∧ (s : Int) + (j : Int) < 2147483648 := by omega
    rw [tokB, eq_Tape_isWord_28]
    by_cases c : T (s + j) = px_lst (px_str k) j
    · have i1 := ih (j + 1) (by omega)
      have c1 := eq_true c
      rw [decide_eq_true c, Bool.true_and]
      simp only [px_rd_mk, px_wr_mk, Int.reduceToNat, Int.toNat_natCast, if_true, if_false, Option.bind_some, px_up_cell, px_up_slot, px_up_eq, ne_eq, Nat.reduceEqDiff, not_false_eq_true, Int.reduceEq, Int.reduceLT, Int.reduceLE, Int.reduceNeg, decide_true, decide_false, Bool.and_true, Bool.true_and, Bool.and_false, Bool.false_and, and_self, and_true, true_and, and_false, false_and, bi_T, bi_F, not_true_eq_false, Bool.false_eq_true, kg_2, ka_3, Bool.true_or, ir_2_0 hI, e3, hlt, g9, (px_w_n u1).trans (Int.natCast_add s j).symm, gs, hT (s + j), c1, px_w_s (show j < 1000000 by omega)]
      exact i1
    · have c1 := eq_false c
      rw [decide_eq_false c, Bool.false_and]
      simp only [px_rd_mk, px_wr_mk, Int.reduceToNat, Int.toNat_natCast, if_true, if_false, Option.bind_some, px_up_cell, px_up_slot, px_up_eq, ne_eq, Nat.reduceEqDiff, not_false_eq_true, Int.reduceEq, Int.reduceLT, Int.reduceLE, Int.reduceNeg, decide_true, decide_false, Bool.and_true, Bool.true_and, Bool.and_false, Bool.false_and, and_self, and_true, true_and, and_false, false_and, bi_T, bi_F, not_true_eq_false, Bool.false_eq_true, kg_2, ka_3, Bool.true_or, ir_2_0 hI, e3, hlt, g9, (px_w_n u1).trans (Int.natCast_add s j).symm, gs, hT (s + j), c1]
theorem R_isWord {T : Nat → Int} {N i s e kd k : Nat} {h : hp} (C : TC2 T N h) (t : TK T N i s e kd) (ct : CT T s e kd h) : px_R (mm_Tape_isWord, 0, [(2, 2), (3, (k : Int)), (9, 0)], [], (K0, h)) = some (if kd = 2 ∧ nmB T s (e - s) k = true then 1 else 0, (K0, h)) := by
  have le := TK_le t
  obtain ⟨c2, c3, c4, _, _⟩ := ct
  have N9 := C.2.2.1
  have u : -2147483648 ≤ (e : Int) - (s : Int) ∧ (e : Int) - (s : Int) < 2147483648 := by omega
  rw [eq_Tape_isWord_0]
  by_cases a : kd = 2
  · have a1 : (h 2 2 = 2) = True := eq_true (by omega)
    unfold nmB
    by_cases b : e - s = (px_str k).length
    · have b1 : ((e : Int) - (s : Int) = ((px_str k).length : Int)) = True := eq_true (by omega)
      have l := isw_loop (k := k) C c3 (by omega) (px_str k).length 0 (Nat.zero_add _)
      have l : px_R (mm_Tape_isWord, 28, [(2, 2), (3, (k : Int)), (0, 0)], [], (K0, h)) = _ := l
      simp only [px_rd_mk, px_wr_mk, Int.reduceToNat, Int.toNat_natCast, if_true, if_false, Option.bind_some, px_up_cell, px_up_slot, px_up_eq, ne_eq, Nat.reduceEqDiff, not_false_eq_true, Int.reduceEq, Int.reduceLT, Int.reduceLE, Int.reduceNeg, decide_true, decide_false, Bool.and_true, Bool.true_and, Bool.and_false, Bool.false_and, and_self, and_true, true_and, and_false, false_and, bi_T, bi_F, not_true_eq_false, Bool.false_eq_true, kg_2, a1, c3, c4, px_w_n u, b1, l]
      rw [decide_eq_true b, Bool.true_and]
      simp only [a, true_and]
    · have b1 : ((e : Int) - (s : Int) = ((px_str k).length : Int)) = False := eq_false (by omega)
      simp only [px_rd_mk, px_wr_mk, Int.reduceToNat, Int.toNat_natCast, if_true, if_false, Option.bind_some, px_up_cell, px_up_slot, px_up_eq, ne_eq, Nat.reduceEqDiff, not_false_eq_true, Int.reduceEq, Int.reduceLT, Int.reduceLE, Int.reduceNeg, decide_true, decide_false, Bool.and_true, Bool.true_and, Bool.and_false, Bool.false_and, and_self, and_true, true_and, and_false, false_and, bi_T, bi_F, not_true_eq_false, Bool.false_eq_true, kg_2, a1, c3, c4, px_w_n u, b1]
      rw [decide_eq_false b, Bool.false_and]
      simp
  · have a1 : (h 2 2 = 2) = False := eq_false (by omega)
    simp only [px_rd_mk, px_wr_mk, Int.reduceToNat, Int.toNat_natCast, if_true, if_false, Option.bind_some, px_up_cell, px_up_slot, px_up_eq, ne_eq, Nat.reduceEqDiff, not_false_eq_true, Int.reduceEq, Int.reduceLT, Int.reduceLE, Int.reduceNeg, decide_true, decide_false, Bool.and_true, Bool.true_and, Bool.and_false, Bool.false_and, and_self, and_true, true_and, and_false, false_and, bi_T, bi_F, not_true_eq_false, Bool.false_eq_true, kg_2, a1, a]
theorem R_kindOf {T : Nat → Int} {N i s e kd : Nat} {h : hp} (C : TC2 T N h) (t : TK T N i s e kd) (ct : CT T s e kd h) : px_R (mm_Str_kindOf, 0, [(2, 2)], [], (K0, h)) = some (if kd = 2 then kyV T s (e - s) 0 9 else -1, (K0, h)) := by
  have w0 := R_isWord (k := 0) C t ct
  have w1 := R_isWord (k := 1) C t ct
  have w2 := R_isWord (k := 2) C t ct
  have w3 := R_isWord (k := 3) C t ct
  have w4 := R_isWord (k := 4) C t ct
  have w5 := R_isWord (k := 5) C t ct
  have w6 := R_isWord (k := 6) C t ct
  have w7 := R_isWord (k := 7) C t ct
  have w8 := R_isWord (k := 8) C t ct
  simp only [Int.cast_ofNat_Int, Int.natCast_zero] at w0 w1 w2 w3 w4 w5 w6 w7 w8
  rw [eq_Str_kindOf_0]
  by_cases a : kd = 2
  · simp only [a, true_and] at w0 w1 w2 w3 w4 w5 w6 w7 w8
    rw [if_pos a]
    simp only [kyV]
    by_cases b0 : nmB T s (e - s) 0 = true
    · simp only [b0, if_true] at w0 ⊢
      simp only [px_rd_mk, px_wr_mk, Int.reduceToNat, Int.toNat_natCast, if_true, if_false, Option.bind_some, px_up_cell, px_up_slot, px_up_eq, ne_eq, Nat.reduceEqDiff, not_false_eq_true, Int.reduceEq, Int.reduceLT, Int.reduceLE, Int.reduceNeg, decide_true, decide_false, Bool.and_true, Bool.true_and, Bool.and_false, Bool.false_and, and_self, and_true, true_and, and_false, false_and, bi_T, bi_F, not_true_eq_false, Bool.false_eq_true, kg_2, w0]
      rfl
    simp only [b0, if_false] at w0 ⊢
    by_cases b1 : nmB T s (e - s) 1 = true
    · simp only [b1, if_true] at w1 ⊢
      simp only [px_rd_mk, px_wr_mk, Int.reduceToNat, Int.toNat_natCast, if_true, if_false, Option.bind_some, px_up_cell, px_up_slot, px_up_eq, ne_eq, Nat.reduceEqDiff, not_false_eq_true, Int.reduceEq, Int.reduceLT, Int.reduceLE, Int.reduceNeg, decide_true, decide_false, Bool.and_true, Bool.true_and, Bool.and_false, Bool.false_and, and_self, and_true, true_and, and_false, false_and, bi_T, bi_F, not_true_eq_false, Bool.false_eq_true, kg_2, w0, w1]
      rfl
    simp only [b1, if_false] at w1 ⊢
    by_cases b2 : nmB T s (e - s) 2 = true
    · simp only [b2, if_true] at w2 ⊢
      simp only [px_rd_mk, px_wr_mk, Int.reduceToNat, Int.toNat_natCast, if_true, if_false, Option.bind_some, px_up_cell, px_up_slot, px_up_eq, ne_eq, Nat.reduceEqDiff, not_false_eq_true, Int.reduceEq, Int.reduceLT, Int.reduceLE, Int.reduceNeg, decide_true, decide_false, Bool.and_true, Bool.true_and, Bool.and_false, Bool.false_and, and_self, and_true, true_and, and_false, false_and, bi_T, bi_F, not_true_eq_false, Bool.false_eq_true, kg_2, w0, w1, w2]
      rfl
    simp only [b2, if_false] at w2 ⊢
    by_cases b3 : nmB T s (e - s) 3 = true
    · simp only [b3, if_true] at w3 ⊢
      simp only [px_rd_mk, px_wr_mk, Int.reduceToNat, Int.toNat_natCast, if_true, if_false, Option.bind_some, px_up_cell, px_up_slot, px_up_eq, ne_eq, Nat.reduceEqDiff, not_false_eq_true, Int.reduceEq, Int.reduceLT, Int.reduceLE, Int.reduceNeg, decide_true, decide_false, Bool.and_true, Bool.true_and, Bool.and_false, Bool.false_and, and_self, and_true, true_and, and_false, false_and, bi_T, bi_F, not_true_eq_false, Bool.false_eq_true, kg_2, w0, w1, w2, w3]
      rfl
    simp only [b3, if_false] at w3 ⊢
    by_cases b4 : nmB T s (e - s) 4 = true
    · simp only [b4, if_true] at w4 ⊢
      simp only [px_rd_mk, px_wr_mk, Int.reduceToNat, Int.toNat_natCast, if_true, if_false, Option.bind_some, px_up_cell, px_up_slot, px_up_eq, ne_eq, Nat.reduceEqDiff, not_false_eq_true, Int.reduceEq, Int.reduceLT, Int.reduceLE, Int.reduceNeg, decide_true, decide_false, Bool.and_true, Bool.true_and, Bool.and_false, Bool.false_and, and_self, and_true, true_and, and_false, false_and, bi_T, bi_F, not_true_eq_false, Bool.false_eq_true, kg_2, w0, w1, w2, w3, w4]
      rfl
    simp only [b4, if_false] at w4 ⊢
    by_cases b5 : nmB T s (e - s) 5 = true
    · simp only [b5, if_true] at w5 ⊢
      simp only [px_rd_mk, px_wr_mk, Int.reduceToNat, Int.toNat_natCast, if_true, if_false, Option.bind_some, px_up_cell, px_up_slot, px_up_eq, ne_eq, Nat.reduceEqDiff, not_false_eq_true, Int.reduceEq, Int.reduceLT, Int.reduceLE, Int.reduceNeg, decide_true, decide_false, Bool.and_true, Bool.true_and, Bool.and_false, Bool.false_and, and_self, and_true, true_and, and_false, false_and, bi_T, bi_F, not_true_eq_false, Bool.false_eq_true, kg_2, w0, w1, w2, w3, w4, w5]
      rfl
    simp only [b5, if_false] at w5 ⊢
    by_cases b6 : nmB T s (e - s) 6 = true
    · simp only [b6, if_true] at w6 ⊢
      simp only [px_rd_mk, px_wr_mk, Int.reduceToNat, Int.toNat_natCast, if_true, if_false, Option.bind_some, px_up_cell, px_up_slot, px_up_eq, ne_eq, Nat.reduceEqDiff, not_false_eq_true, Int.reduceEq, Int.reduceLT, Int.reduceLE, Int.reduceNeg, decide_true, decide_false, Bool.and_true, Bool.true_and, Bool.and_false, Bool.false_and, and_self, and_true, true_and, and_false, false_and, bi_T, bi_F, not_true_eq_false, Bool.false_eq_true, kg_2, w0, w1, w2, w3, w4, w5, w6]
      rfl
    simp only [b6, if_false] at w6 ⊢
    by_cases b7 : nmB T s (e - s) 7 = true
    · simp only [b7, if_true] at w7 ⊢
      simp only [px_rd_mk, px_wr_mk, Int.reduceToNat, Int.toNat_natCast, if_true, if_false, Option.bind_some, px_up_cell, px_up_slot, px_up_eq, ne_eq, Nat.reduceEqDiff, not_false_eq_true, Int.reduceEq, Int.reduceLT, Int.reduceLE, Int.reduceNeg, decide_true, decide_false, Bool.and_true, Bool.true_and, Bool.and_false, Bool.false_and, and_self, and_true, true_and, and_false, false_and, bi_T, bi_F, not_true_eq_false, Bool.false_eq_true, kg_2, w0, w1, w2, w3, w4, w5, w6, w7]
      rfl
    simp only [b7, if_false] at w7 ⊢
    by_cases b8 : nmB T s (e - s) 8 = true
    · simp only [b8, if_true] at w8 ⊢
      simp only [px_rd_mk, px_wr_mk, Int.reduceToNat, Int.toNat_natCast, if_true, if_false, Option.bind_some, px_up_cell, px_up_slot, px_up_eq, ne_eq, Nat.reduceEqDiff, not_false_eq_true, Int.reduceEq, Int.reduceLT, Int.reduceLE, Int.reduceNeg, decide_true, decide_false, Bool.and_true, Bool.true_and, Bool.and_false, Bool.false_and, and_self, and_true, true_and, and_false, false_and, bi_T, bi_F, not_true_eq_false, Bool.false_eq_true, kg_2, w0, w1, w2, w3, w4, w5, w6, w7, w8]
      rfl
    simp only [b8, if_false] at w8 ⊢
    simp only [px_rd_mk, px_wr_mk, Int.reduceToNat, Int.toNat_natCast, if_true, if_false, Option.bind_some, px_up_cell, px_up_slot, px_up_eq, ne_eq, Nat.reduceEqDiff, not_false_eq_true, Int.reduceEq, Int.reduceLT, Int.reduceLE, Int.reduceNeg, decide_true, decide_false, Bool.and_true, Bool.true_and, Bool.and_false, Bool.false_and, and_self, and_true, true_and, and_false, false_and, bi_T, bi_F, not_true_eq_false, Bool.false_eq_true, kg_2, w0, w1, w2, w3, w4, w5, w6, w7, w8]
  · simp only [a, false_and, if_false] at w0 w1 w2 w3 w4 w5 w6 w7 w8
    rw [if_neg a]
    simp only [px_rd_mk, px_wr_mk, Int.reduceToNat, Int.toNat_natCast, if_true, if_false, Option.bind_some, px_up_cell, px_up_slot, px_up_eq, ne_eq, Nat.reduceEqDiff, not_false_eq_true, Int.reduceEq, Int.reduceLT, Int.reduceLE, Int.reduceNeg, decide_true, decide_false, Bool.and_true, Bool.true_and, Bool.and_false, Bool.false_and, and_self, and_true, true_and, and_false, false_and, bi_T, bi_F, not_true_eq_false, Bool.false_eq_true, kg_2, w0, w1, w2, w3, w4, w5, w6, w7, w8]
