/-! The end of a clause. -/
theorem cEnd {n : Nat} (hn : n = 4 ∨ n = 26) {T : Nat → Int} {N kind q i s e k j : Nat} {c : hp} (C : TC2 T N c) (iN : i ≤ N) (c4 : c 2 4 = (i : Int)) (hk : kind < 9) (cq : c (n + 1) kind = (q : Int)) (hq : q < 6) (t : TK T N i s e k) : ∃ c2 : hp, Fr [] tss c c2 ∧ c2 2 3 = (s : Int) ∧ c2 2 4 = (e : Int) ∧ (¬ k = 4 → px_R (mm_Str_readClause, 88, [(2, (n : Int)), (2, 2), (0, (kind : Int)), (0, 0), (0, (j : Int))], [], (K0, c)) = some (1, (K0, c2))) ∧ (k = 4 → px_R (mm_Str_readClause, 88, [(2, (n : Int)), (2, 2), (0, (kind : Int)), (0, 0), (0, (j : Int))], [], (K0, c)) = some (0, (K0, px_up c2 (n + 1) kind ((q + 1 : Nat) : Int)))) := by
  obtain ⟨s1, e1, k1, c2, t1, t2, t3, t4, t5, t6, _, _⟩ := R_readNext C iN c4
  obtain ⟨rfl, rfl, rfl⟩ := TK_u t t1
  have F : Fr [] tss c c2 := t3
  have I2 := (FSt_TC hn C (FSt_tss F)).1
  have cq2 : c2 (n + 1) kind = (q : Int) := (tss_o F _ _ (by omega)).trans cq
  have gk : (decide ((0 : Int) ≤ (kind : Int)) && decide ((kind : Int) < 9)) = true := gd_ok (by omega)
  have j1 := px_w_s (show q < 1000000 by omega)
  refine ⟨c2, F, t5, t6, fun z => ?_, fun z => ?_⟩
  · have n4 : (c2 2 2 = 4) = False := eq_false (by rw [t4]; exact fun y => z (Int.ofNat.inj y))
    rw [eq_Str_readClause_88]
    simp only [px_rd_mk, px_wr_mk, Int.reduceToNat, Int.toNat_natCast, if_true, if_false, Option.bind_some, px_up_cell, px_up_slot, px_up_eq, ne_eq, Nat.reduceEqDiff, not_false_eq_true, Int.reduceEq, Int.reduceLT, Int.reduceLE, Int.reduceNeg, decide_true, decide_false, Bool.and_true, Bool.true_and, Bool.and_false, Bool.false_and, and_self, and_true, true_and, and_false, false_and, bi_T, bi_F, not_true_eq_false, Bool.false_eq_true, kg_2, t2, n4]
  · have n4 : c2 2 2 = 4 := by rw [t4, z]; rfl
    rw [eq_Str_readClause_88]
    simp only [px_rd_mk, px_wr_mk, Int.reduceToNat, Int.toNat_natCast, if_true, if_false, Option.bind_some, px_up_cell, px_up_slot, px_up_eq, ne_eq, Nat.reduceEqDiff, not_false_eq_true, Int.reduceEq, Int.reduceLT, Int.reduceLE, Int.reduceNeg, decide_true, decide_false, Bool.and_true, Bool.true_and, Bool.and_false, Bool.false_and, and_self, and_true, true_and, and_false, false_and, bi_T, bi_F, not_true_eq_false, Bool.false_eq_true, kg_2, t2, n4, sgo hn, sr1 hn I2, sga1 hn, gk, cq2, j1]
theorem mTail0 {m m1 : hp} {cl : Int} (h3 : ¬ m 123 3 = 4) (e1 : px_R (mm_Mod_readClause, 0, [(2, 123), (9, 0)], [], (K0, m)) = some (0, (K0, m1))) : px_R (mm_Mod_street, 20, [(2, 123), (0, cl)], [], (K0, m)) = some (-1, (K0, m1)) := by
  have n4 := eq_false h3
  rw [eq_Mod_street_20]
  simp only [px_rd_mk, px_wr_mk, Int.reduceToNat, Int.toNat_natCast, if_true, if_false, Option.bind_some, px_up_cell, px_up_slot, px_up_eq, ne_eq, Nat.reduceEqDiff, not_false_eq_true, Int.reduceEq, Int.reduceLT, Int.reduceLE, Int.reduceNeg, decide_true, decide_false, Bool.and_true, Bool.true_and, Bool.and_false, Bool.false_and, and_self, and_true, true_and, and_false, false_and, bi_T, bi_F, not_true_eq_false, Bool.false_eq_true, kg_123, n4, e1]
theorem mTail1 {T : Nat → Int} {N i s e k cl : Nat} {m m1 : hp} (h3 : ¬ m 123 3 = 4) (e1 : px_R (mm_Mod_readClause, 0, [(2, 123), (9, 0)], [], (K0, m)) = some (1, (K0, m1))) (M : TM T N m1) (t : TK T N i s e k) (sc : SC T s e k m1) (hcl : cl < 100000) : (¬ k = 4 → px_R (mm_Mod_street, 20, [(2, 123), (0, (cl : Int))], [], (K0, m)) = some (-1, (K0, flM 1 m1))) ∧ (k = 4 → ∃ (s2 e2 k2 : Nat) (m2 : hp), TK T N e s2 e2 k2 ∧ SC T s2 e2 k2 m2 ∧ FTk m1 m2 ∧ px_R (mm_Mod_street, 20, [(2, 123), (0, (cl : Int))], [], (K0, m)) = px_R (mm_Mod_street, 20, [(2, 123), (0, ((cl + 1 : Nat) : Int))], [], (K0, m2))) := by
  have n4 := eq_false h3
  have le := TK_le t
  obtain ⟨d3, d5, d6, d4, d10, d7⟩ := sc
  have j1 := px_w_s (show cl < 1000000 by omega)
  constructor
  · intro z
    have n3 : (m1 123 3 = 3) = False := eq_false (by
      rw [d3]
      intro y
      have y2 : (k + 4) % 5 = 3 := Int.ofNat.inj y
      clear j1
      omega)
    rw [eq_Mod_street_20]
    simp only [px_rd_mk, px_wr_mk, Int.reduceToNat, Int.toNat_natCast, if_true, if_false, Option.bind_some, px_up_cell, px_up_slot, px_up_eq, ne_eq, Nat.reduceEqDiff, not_false_eq_true, Int.reduceEq, Int.reduceLT, Int.reduceLE, Int.reduceNeg, decide_true, decide_false, Bool.and_true, Bool.true_and, Bool.and_false, Bool.false_and, and_self, and_true, true_and, and_false, false_and, bi_T, bi_F, not_true_eq_false, Bool.false_eq_true, kg_123, n4, e1, n3, R_fails]
  · intro z
    have n3 : m1 123 3 = 3 := by rw [d3, z]; rfl
    obtain ⟨s2, e2, k2, m2, r1, r2, r3, r4, _⟩ := scanT M le.2.2.1 d6
    refine ⟨s2, e2, k2, m2, r1, r3, r4, ?_⟩
    rw [eq_Mod_street_20]
    simp only [px_rd_mk, px_wr_mk, Int.reduceToNat, Int.toNat_natCast, if_true, if_false, Option.bind_some, px_up_cell, px_up_slot, px_up_eq, ne_eq, Nat.reduceEqDiff, not_false_eq_true, Int.reduceEq, Int.reduceLT, Int.reduceLE, Int.reduceNeg, decide_true, decide_false, Bool.and_true, Bool.true_and, Bool.and_false, Bool.false_and, and_self, and_true, true_and, and_false, false_and, bi_T, bi_F, not_true_eq_false, Bool.false_eq_true, kg_123, n4, e1, n3, r2, j1]
/-- the class's clause, behind its word -/
theorem cHead {n : Nat} (hn : n = 4 ∨ n = 26) {T : Nat → Int} {N i s e kind q : Nat} {c : hp} (C : TC2 T N c) (t : TK T N i s e 2) (ct : CT T s e 2 c) (hk : kind < 9) (ky : kyV T s (e - s) 0 9 = (kind : Int)) (cq : c (n + 1) kind = (q : Int)) : ((px_lst (px_sar 0) kind ≤ (q : Int)) → px_R (mm_Str_readClause, 0, [(2, (n : Int)), (2, 2), (9, 0), (9, 0), (9, 0)], [], (K0, c)) = some (if kind < 6 then 4 else 3, (K0, c))) ∧ ((q : Int) < px_lst (px_sar 0) kind → (kind < 6 ∧ ¬ kind = 4) → px_R (mm_Str_readClause, 0, [(2, (n : Int)), (2, 2), (9, 0), (9, 0), (9, 0)], [], (K0, c)) = (px_R (mm_Str_readName, 0, [(2, (n : Int)), (2, 2), (0, (kind : Int)), (9, 0)], [], (K0, c))).bind fun r3 => px_R (mm_Str_readClause, 59, [(2, (n : Int)), (2, 2), (0, (kind : Int)), (0, r3.1), (0, 0)], [], r3.2)) ∧ ((q : Int) < px_lst (px_sar 0) kind → ¬ (kind < 6 ∧ ¬ kind = 4) → px_R (mm_Str_readClause, 0, [(2, (n : Int)), (2, 2), (9, 0), (9, 0), (9, 0)], [], (K0, c)) = px_R (mm_Str_readClause, 59, [(2, (n : Int)), (2, 2), (0, (kind : Int)), (0, 0), (0, 0)], [], (K0, c))) := by
  have I := C.1
  have kd := R_kindOf C t ct
  rw [if_pos rfl, ky] at kd
  have gl0 : px_gl (px_sar 0) (kind : Int) = true := gd_ok (show (0 : Int) ≤ (kind : Int) ∧ (kind : Int) < ((px_sar 0).length : Int) from ⟨by omega, by show (kind : Int) < 9; omega⟩)
  have gk : (decide ((0 : Int) ≤ (kind : Int)) && decide ((kind : Int) < 9)) = true := gd_ok (by omega)
  have k1 : ((kind : Int) = -1) = False := eq_false (by omega)
  have nmd : ∀ w : pw, px_R (mm_Str_isNamed, 0, [(0, (kind : Int))], [], w) = some (if kind < 6 ∧ ¬ kind = 4 then 1 else 0, w) := fun w => by
    rw [eq_Str_isNamed_0]
    by_cases a : kind < 6
    · by_cases b : kind = 4
      · rw [if_pos (show (kind : Int) < 6 by omega), if_pos (show (kind : Int) = 4 by omega), if_neg (fun z => z.2 b)]
      · rw [if_pos (show (kind : Int) < 6 by omega), if_neg (show ¬ (kind : Int) = 4 by omega), if_pos ⟨a, b⟩]
    · rw [if_neg (show ¬ (kind : Int) < 6 by omega), if_neg (fun z => a z.1)]
  refine ⟨fun z => ?_, fun z y => ?_, fun z y => ?_⟩
  · have l : ((q : Int) < px_lst (px_sar 0) kind) = False := eq_false (by omega)
    rw [eq_Str_readClause_0]
    by_cases a : kind < 6
    · have a1 : ((kind : Int) < 6) = True := eq_true (by omega)
      simp only [px_rd_mk, px_wr_mk, Int.reduceToNat, Int.toNat_natCast, if_true, if_false, Option.bind_some, px_up_cell, px_up_slot, px_up_eq, ne_eq, Nat.reduceEqDiff, not_false_eq_true, Int.reduceEq, Int.reduceLT, Int.reduceLE, Int.reduceNeg, decide_true, decide_false, Bool.and_true, Bool.true_and, Bool.and_false, Bool.false_and, and_self, and_true, true_and, and_false, false_and, bi_T, bi_F, not_true_eq_false, Bool.false_eq_true, sgo hn, kd, k1, sr1 hn I, sga1 hn, gk, gl0, cq, l, a1, a]
    · have a1 : ((kind : Int) < 6) = False := eq_false (by omega)
      simp only [px_rd_mk, px_wr_mk, Int.reduceToNat, Int.toNat_natCast, if_true, if_false, Option.bind_some, px_up_cell, px_up_slot, px_up_eq, ne_eq, Nat.reduceEqDiff, not_false_eq_true, Int.reduceEq, Int.reduceLT, Int.reduceLE, Int.reduceNeg, decide_true, decide_false, Bool.and_true, Bool.true_and, Bool.and_false, Bool.false_and, and_self, and_true, true_and, and_false, false_and, bi_T, bi_F, not_true_eq_false, Bool.false_eq_true, sgo hn, kd, k1, sr1 hn I, sga1 hn, gk, gl0, cq, l, a1, a]
  · have l := eq_true z
    have nm := nmd (K0, c)
    rw [if_pos y] at nm
    rw [eq_Str_readClause_0]
    simp only [px_rd_mk, px_wr_mk, Int.reduceToNat, Int.toNat_natCast, if_true, if_false, Option.bind_some, px_up_cell, px_up_slot, px_up_eq, ne_eq, Nat.reduceEqDiff, not_false_eq_true, Int.reduceEq, Int.reduceLT, Int.reduceLE, Int.reduceNeg, decide_true, decide_false, Bool.and_true, Bool.true_and, Bool.and_false, Bool.false_and, and_self, and_true, true_and, and_false, false_and, bi_T, bi_F, not_true_eq_false, Bool.false_eq_true, kg_2, sgo hn, kd, k1, sr1 hn I, sga1 hn, gk, gl0, cq, l, nm]
  · have l := eq_true z
    have nm := nmd (K0, c)
    rw [if_neg y] at nm
    rw [eq_Str_readClause_0]
    simp only [px_rd_mk, px_wr_mk, Int.reduceToNat, Int.toNat_natCast, if_true, if_false, Option.bind_some, px_up_cell, px_up_slot, px_up_eq, ne_eq, Nat.reduceEqDiff, not_false_eq_true, Int.reduceEq, Int.reduceLT, Int.reduceLE, Int.reduceNeg, decide_true, decide_false, Bool.and_true, Bool.true_and, Bool.and_false, Bool.false_and, and_self, and_true, true_and, and_false, false_and, bi_T, bi_F, not_true_eq_false, Bool.false_eq_true, kg_2, sgo hn, kd, k1, sr1 hn I, sga1 hn, gk, gl0, cq, l, nm]
