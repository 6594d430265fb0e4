/-! Reading a street: places. -/
theorem adO {off j : Nat} (ho : off < 1000) (hj : j < 1000) : px_w ((off : Int) + (j : Int)) = ((off + j : Nat) : Int) := by
  have u : -2147483648 ≤ (off : Int) + (j : Int) ∧ (off : Int) + (j : Int) < 2147483648 := by omega
  rw [px_w_n u, Int.natCast_add]
theorem mPlace_mid {X Y off q j : Nat} {U : hp} (hlt : ((j : Int) < (q : Int)) = True) (aj : px_w ((off : Int) + (j : Int)) = ((off + j : Nat) : Int)) (aq : px_w ((off : Int) + (q : Int)) = ((off + q : Nat) : Int)) (gj : px_ga (K0, U) 0 (X : Int) ((off + j : Nat) : Int) = true) (gq : px_ga (K0, U) 0 (X : Int) ((off + q : Nat) : Int) = true) (yj : px_ga (K0, U) 0 (Y : Int) ((off + j : Nat) : Int) = true) (j1 : px_w ((j : Int) + 1) = ((j + 1 : Nat) : Int)) : px_R (mm_Mod_readPlace, 58, [(2, 123), (2, (X : Int)), (2, (Y : Int)), (0, (off : Int)), (0, (q : Int)), (0, (j : Int))], [], (K0, U)) = if U X (off + j) = U X (off + q) ∧ U Y (off + j) = U 123 7 then some (0, (K0, flM 3 U)) else px_R (mm_Mod_readPlace, 58, [(2, 123), (2, (X : Int)), (2, (Y : Int)), (0, (off : Int)), (0, (q : Int)), (0, ((j + 1 : Nat) : Int))], [], (K0, U)) := by
  rw [eq_Mod_readPlace_58]
  by_cases a : U X (off + j) = U X (off + q)
  · have a1 := eq_true a
    by_cases b : U Y (off + j) = U 123 7
    · have b1 := eq_true b
      rw [if_pos (show U X (off + j) = U X (off + q) ∧ U Y (off + j) = U 123 7 from ⟨a, b⟩)]
      simp only [px_rd_mk, px_wr_mk, Int.reduceToNat, Int.toNat_natCast, if_true, if_false, Option.bind_some, px_up_cell, px_up_slot, px_up_eq, ne_eq, Nat.reduceEqDiff, not_false_eq_true, Int.reduceEq, Int.reduceLT, Int.reduceLE, Int.reduceNeg, decide_true, decide_false, Bool.and_true, Bool.true_and, Bool.and_false, Bool.false_and, and_self, and_true, true_and, and_false, false_and, bi_T, bi_F, not_true_eq_false, Bool.false_eq_true, kg_123, hlt, aj, aq, gj, gq, yj, a1, b1, R_fails]
    · have b1 := eq_false b
      rw [if_neg (show ¬ (U X (off + j) = U X (off + q) ∧ U Y (off + j) = U 123 7) from fun z => b z.2)]
      simp only [px_rd_mk, px_wr_mk, Int.reduceToNat, Int.toNat_natCast, if_true, if_false, Option.bind_some, px_up_cell, px_up_slot, px_up_eq, ne_eq, Nat.reduceEqDiff, not_false_eq_true, Int.reduceEq, Int.reduceLT, Int.reduceLE, Int.reduceNeg, decide_true, decide_false, Bool.and_true, Bool.true_and, Bool.and_false, Bool.false_and, and_self, and_true, true_and, and_false, false_and, bi_T, bi_F, not_true_eq_false, Bool.false_eq_true, kg_123, hlt, aj, aq, gj, gq, yj, a1, b1, j1]
  · have a1 := eq_false a
    rw [if_neg (show ¬ (U X (off + j) = U X (off + q) ∧ U Y (off + j) = U 123 7) from fun z => a z.1)]
    simp only [px_rd_mk, px_wr_mk, Int.reduceToNat, Int.toNat_natCast, if_true, if_false, Option.bind_some, px_up_cell, px_up_slot, px_up_eq, ne_eq, Nat.reduceEqDiff, not_false_eq_true, Int.reduceEq, Int.reduceLT, Int.reduceLE, Int.reduceNeg, decide_true, decide_false, Bool.and_true, Bool.true_and, Bool.and_false, Bool.false_and, and_self, and_true, true_and, and_false, false_and, bi_T, bi_F, not_true_eq_false, Bool.false_eq_true, kg_123, hlt, aj, aq, gj, gq, yj, a1, j1]
theorem mPlace_loop {X Y off q : Nat} {U : hp} (ho : off < 1000) (hq : q < 5) (hX : ∀ (m : hp) (j : Nat), j ≤ q → px_ga (K0, m) 0 (X : Int) ((off + j : Nat) : Int) = true) (hY : ∀ (m : hp) (j : Nat), j ≤ q → px_ga (K0, m) 0 (Y : Int) ((off + j : Nat) : Int) = true) (r : Nat) : ∀ j : Nat, j + r = q → px_R (mm_Mod_readPlace, 58, [(2, 123), (2, (X : Int)), (2, (Y : Int)), (0, (off : Int)), (0, (q : Int)), (0, (j : Int))], [], (K0, U)) = if anf (fun z => decide (U X (off + z) = U X (off + q)) && decide (U Y (off + z) = U 123 7)) j r = true then some (0, (K0, flM 3 U)) else px_R (mm_Mod_readPlace, 58, [(2, 123), (2, (X : Int)), (2, (Y : Int)), (0, (off : Int)), (0, (q : Int)), (0, (q : Int))], [], (K0, U)) := by
  induction r with
  | zero =>
    intro j hj
    have : j = q := hj
    subst this
    rw [anf, if_neg (by decide)]
  | succ r ih =>
    intro j hj
    have i1 := ih (j + 1) (by omega)
    have md := mPlace_mid (X := X) (Y := Y) (off := off) (q := q) (j := j) (U := U) (eq_true (by omega)) (adO ho (by omega)) (adO ho (by omega)) (hX U j (by omega)) (hX U q (by omega)) (hY U j (by omega)) (px_w_s (show j < 1000000 by omega))
    rw [md, anf]
    by_cases a : U X (off + j) = U X (off + q)
    · by_cases b : U Y (off + j) = U 123 7
      · rw [if_pos (show U X (off + j) = U X (off + q) ∧ U Y (off + j) = U 123 7 from ⟨a, b⟩), decide_eq_true a, decide_eq_true b, Bool.and_self, Bool.true_or, if_pos rfl]
      · rw [if_neg (show ¬ (U X (off + j) = U X (off + q) ∧ U Y (off + j) = U 123 7) from fun z => b z.2), decide_eq_false b, Bool.and_false, Bool.false_or, i1]
    · rw [if_neg (show ¬ (U X (off + j) = U X (off + q) ∧ U Y (off + j) = U 123 7) from fun z => a z.1), decide_eq_false a, Bool.false_and, Bool.false_or, i1]
theorem mPlace_end {X Y off q : Nat} {U m3 : hp} (aq : px_w ((off : Int) + (q : Int)) = ((off + q : Nat) : Int)) (gq : px_ga (K0, U) 0 (Y : Int) ((off + q : Nat) : Int) = true) (r2 : px_R (mm_Mod_scan, 0, [(2, 123), (9, 0), (9, 0), (9, 0)], [], (K0, px_up U Y (off + q) (U 123 7))) = some (0, (K0, m3))) : px_R (mm_Mod_readPlace, 58, [(2, 123), (2, (X : Int)), (2, (Y : Int)), (0, (off : Int)), (0, (q : Int)), (0, (q : Int))], [], (K0, U)) = some (1, (K0, m3)) := by
  rw [eq_Mod_readPlace_58, if_neg (Int.lt_irrefl _)]
  simp only [px_rd_mk, px_wr_mk, Int.reduceToNat, Int.toNat_natCast, if_true, if_false, Option.bind_some, px_up_cell, px_up_slot, px_up_eq, ne_eq, Nat.reduceEqDiff, not_false_eq_true, Int.reduceEq, Int.reduceLT, Int.reduceLE, Int.reduceNeg, decide_true, decide_false, Bool.and_true, Bool.true_and, Bool.and_false, Bool.false_and, and_self, and_true, true_and, and_false, false_and, bi_T, bi_F, not_true_eq_false, Bool.false_eq_true, kg_123, aq, gq, r2]
/-- the first number is read -/
theorem mPlace_st {X Y off q : Nat} {m m2 U : hp} {v : Int} (aq : px_w ((off : Int) + (q : Int)) = ((off + q : Nat) : Int)) (gq : px_ga (K0, m2) 0 (X : Int) ((off + q : Nat) : Int) = true) (e1 : px_R (mm_Mod_readNumber, 0, [(2, 123), (0, 0), (0, 99)], [], (K0, m)) = some (1, (K0, m2))) (e11 : m2 123 11 = v) (hU : U = px_up m2 X (off + q) v) : px_R (mm_Mod_readPlace, 0, [(2, 123), (2, (X : Int)), (2, (Y : Int)), (0, (off : Int)), (0, (q : Int)), (9, 0)], [], (K0, m)) = if U 123 3 = 2 then (if 0 ≤ U 123 7 ∧ U 123 7 ≤ 99 then px_R (mm_Mod_readPlace, 58, [(2, 123), (2, (X : Int)), (2, (Y : Int)), (0, (off : Int)), (0, (q : Int)), (0, 0)], [], (K0, U)) else some (0, (K0, flM 2 U))) else some (0, (K0, flM 1 U)) := by
  have hU2 : px_up m2 X (off + q) v = U := hU.symm
  rw [eq_Mod_readPlace_0]
  simp only [px_rd_mk, px_wr_mk, Int.reduceToNat, Int.toNat_natCast, if_true, if_false, Option.bind_some, px_up_cell, px_up_slot, px_up_eq, ne_eq, Nat.reduceEqDiff, not_false_eq_true, Int.reduceEq, Int.reduceLT, Int.reduceLE, Int.reduceNeg, decide_true, decide_false, Bool.and_true, Bool.true_and, Bool.and_false, Bool.false_and, and_self, and_true, true_and, and_false, false_and, bi_T, bi_F, not_true_eq_false, Bool.false_eq_true, kg_123, e1, aq, gq, e11, hU2]
  by_cases a : U 123 3 = 2
  · have a1 := eq_true a
    by_cases b : 0 ≤ U 123 7 ∧ U 123 7 ≤ 99
    · simp only [px_rd_mk, px_wr_mk, Int.reduceToNat, Int.toNat_natCast, if_true, if_false, Option.bind_some, px_up_cell, px_up_slot, px_up_eq, ne_eq, Nat.reduceEqDiff, not_false_eq_true, Int.reduceEq, Int.reduceLT, Int.reduceLE, Int.reduceNeg, decide_true, decide_false, Bool.and_true, Bool.true_and, Bool.and_false, Bool.false_and, and_self, and_true, true_and, and_false, false_and, bi_T, bi_F, not_true_eq_false, Bool.false_eq_true, kg_123, a1, R_Mod_in, bi_t b, b]
    · simp only [px_rd_mk, px_wr_mk, Int.reduceToNat, Int.toNat_natCast, if_true, if_false, Option.bind_some, px_up_cell, px_up_slot, px_up_eq, ne_eq, Nat.reduceEqDiff, not_false_eq_true, Int.reduceEq, Int.reduceLT, Int.reduceLE, Int.reduceNeg, decide_true, decide_false, Bool.and_true, Bool.true_and, Bool.and_false, Bool.false_and, and_self, and_true, true_and, and_false, false_and, bi_T, bi_F, not_true_eq_false, Bool.false_eq_true, kg_123, a1, R_Mod_in, bi_f b, b, R_fails]
  · have a1 := eq_false a
    simp only [px_rd_mk, px_wr_mk, Int.reduceToNat, Int.toNat_natCast, if_true, if_false, Option.bind_some, px_up_cell, px_up_slot, px_up_eq, ne_eq, Nat.reduceEqDiff, not_false_eq_true, Int.reduceEq, Int.reduceLT, Int.reduceLE, Int.reduceNeg, decide_true, decide_false, Bool.and_true, Bool.true_and, Bool.and_false, Bool.false_and, and_self, and_true, true_and, and_false, false_and, bi_T, bi_F, not_true_eq_false, Bool.false_eq_true, kg_123, a1, R_fails]
def RPm (X Y p : Nat) (c d : hp) : Prop := ∀ a b : Nat, ¬ (a = 123 ∧ 3 ≤ b ∧ b ≤ 11 ∧ ¬ b = 8 ∧ ¬ b = 9) → ¬ ((a = X ∨ a = Y) ∧ b = p) → d a b = c a b
theorem fst_13 {n kind y : Nat} (hk : kind < 9) : fst2 n (n + 13 + kind) y := by
  unfold fst2
  omega
theorem jPlace {n : Nat} (hn : n = 4 ∨ n = 26) {T : Nat → Int} {N kind q X Y off i s e k : Nat} {c m : hp} (hk : kind = 3 ∨ kind = 4) (hq2 : q < 5) (C : TC2 T N c) (iN : i ≤ N) (c4 : c 2 4 = (i : Int)) (cq : c (n + 1) kind = (q : Int)) (M : TM T N m) (t : TK T N i s e k) (sc : SC T s e k m) (hX : ∀ (m : hp) (j : Nat), j ≤ q → px_ga (K0, m) 0 (X : Int) ((off + j : Nat) : Int) = true) (hY : ∀ (m : hp) (j : Nat), j ≤ q → px_ga (K0, m) 0 (Y : Int) ((off + j : Nat) : Int) = true) (fX : fmt2 X (off + q)) (fY : fmt2 Y (off + q)) (xy : 125 ≤ X ∧ X < Y) (o5 : off < 1000) (V : ∀ z, z < q → m X (off + z) = c (n + 13 + kind) (5 * z) ∧ m Y (off + z) = c (n + 13 + kind) (5 * z + 1)) : failS n c m (px_R (mm_Str_readClause, 59, [(2, (n : Int)), (2, 2), (0, (kind : Int)), (0, 0), (0, 0)], [], (K0, c))) (px_R (mm_Mod_readPlace, 0, [(2, 123), (2, (X : Int)), (2, (Y : Int)), (0, (off : Int)), (0, (q : Int)), (9, 0)], [], (K0, m))) ∨ ∃ (c' m' : hp) (i' s' e' k' : Nat), px_R (mm_Str_readClause, 59, [(2, (n : Int)), (2, 2), (0, (kind : Int)), (0, 0), (0, 0)], [], (K0, c)) = px_R (mm_Str_readClause, 88, [(2, (n : Int)), (2, 2), (0, (kind : Int)), (0, 0), (0, 2)], [], (K0, c')) ∧ px_R (mm_Mod_readPlace, 0, [(2, 123), (2, (X : Int)), (2, (Y : Int)), (0, (off : Int)), (0, (q : Int)), (9, 0)], [], (K0, m)) = some (1, (K0, m')) ∧ i ≤ i' ∧ i' ≤ N ∧ c' 2 4 = (i' : Int) ∧ TK T N i' s' e' k' ∧ SC T s' e' k' m' ∧ RFc n kind q c c' ∧ RPm X Y (off + q) m m' ∧ (m' X (off + q) = c' (n + 13 + kind) (5 * q) ∧ 0 ≤ c' (n + 13 + kind) (5 * q) ∧ c' (n + 13 + kind) (5 * q) ≤ 99) ∧ (m' Y (off + q) = c' (n + 13 + kind) (5 * q + 1) ∧ 0 ≤ c' (n + 13 + kind) (5 * q + 1) ∧ c' (n + 13 + kind) (5 * q + 1) ≤ 99) := by
  have k9 : kind < 9 := by omega
  have hq5 : q < 6 := by omega
  have ne2 : ¬ n + 1 = 2 := by omega
  have ne3 : 2 ≠ n + 13 + kind := by omega
  have ne3' : ¬ n + 13 + kind = 2 := by omega
  have ne4 : 2 ≠ n + 13 + kind := ne3
  have nX : ¬ X = 123 := by omega
  have nY : 123 ≠ Y := by omega
  have nXY : X ≠ Y := by omega
  have q1000 : q < 1000 := by omega
  have five2 : 5 * q ≤ 5 * q + 1 ∧ 5 * q + 1 < 5 * q + 5 := by omega
  have five3 : ¬ 5 * q = 5 * q + 1 := by omega
  have ne1 : n + 1 ≠ n + 13 + kind := by omega
  have five : ∀ {j : Nat}, ¬ j = q → ¬ 5 * j = 5 * q ∧ ¬ 5 * j + 1 = 5 * q := fun h => by omega
  have gl := fx_gl1 ⟨kind, k9⟩
  simp only at gl
  have hc : px_lst (px_sar 1) kind = 2 := by
    rcases hk with rfl | rfl <;> rfl
  have lim0 : ∀ j, lowN kind j = 0 ∧ higN kind j = 99 := fun j => by
    unfold lowN higN
    rw [if_neg (by omega), if_neg (by omega)]
    rcases hk with rfl | rfl <;> exact ⟨rfl, rfl⟩
  have bad1 : ∀ (j : Nat) (c c1 : hp) (code : Int), 1 ≤ code → j < 2 → px_R (mm_Str_readNumber, 0, [(2, (n : Int)), (2, 2), (0, (kind : Int)), (0, (j : Int)), (9, 0), (9, 0), (9, 0), (9, 0), (9, 0)], [], (K0, c)) = some (code, (K0, c1)) → px_R (mm_Str_readClause, 59, [(2, (n : Int)), (2, 2), (0, (kind : Int)), (0, 0), (0, (j : Int))], [], (K0, c)) = some (code, (K0, c1)) := fun j c c1 code h1 hj h2 => by
    have hlt : ((j : Int) < 2) = True := eq_true (by omega)
    have cb := cl_bad (n := n) (kind := kind) (j := j + 1) (r := code) (c := c1) k9 (by omega)
    rw [eq_Str_readClause_59]
    simp only [px_rd_mk, px_wr_mk, Int.reduceToNat, Int.toNat_natCast, if_true, if_false, Option.bind_some, px_up_cell, px_up_slot, px_up_eq, ne_eq, Nat.reduceEqDiff, not_false_eq_true, Int.reduceEq, Int.reduceLT, Int.reduceLE, Int.reduceNeg, decide_true, decide_false, Bool.and_true, Bool.true_and, Bool.and_false, Bool.false_and, and_self, and_true, true_and, and_false, false_and, bi_T, bi_F, not_true_eq_false, Bool.false_eq_true, gl, hc, hlt, sgo hn, h2, px_w_s (show j < 1000000 by omega), cb]
  have good1 : ∀ (j : Nat) (c c1 : hp), j < 2 → px_R (mm_Str_readNumber, 0, [(2, (n : Int)), (2, 2), (0, (kind : Int)), (0, (j : Int)), (9, 0), (9, 0), (9, 0), (9, 0), (9, 0)], [], (K0, c)) = some (0, (K0, c1)) → px_R (mm_Str_readClause, 59, [(2, (n : Int)), (2, 2), (0, (kind : Int)), (0, 0), (0, (j : Int))], [], (K0, c)) = px_R (mm_Str_readClause, 59, [(2, (n : Int)), (2, 2), (0, (kind : Int)), (0, 0), (0, ((j + 1 : Nat) : Int))], [], (K0, c1)) := fun j c c1 hj h2 => by
    have hlt : ((j : Int) < 2) = True := eq_true (by omega)
    rw [eq_Str_readClause_59]
    simp only [px_rd_mk, px_wr_mk, Int.reduceToNat, Int.toNat_natCast, if_true, if_false, Option.bind_some, px_up_cell, px_up_slot, px_up_eq, ne_eq, Nat.reduceEqDiff, not_false_eq_true, Int.reduceEq, Int.reduceLT, Int.reduceLE, Int.reduceNeg, decide_true, decide_false, Bool.and_true, Bool.true_and, Bool.and_false, Bool.false_and, and_self, and_true, true_and, and_false, false_and, bi_T, bi_F, not_true_eq_false, Bool.false_eq_true, gl, hc, hlt, sgo hn, h2, px_w_s (show j < 1000000 by omega)]
  obtain ⟨s1, e1, k1, c1, t1, ct1, F1, n1, n2, n3⟩ := sNum hn (kind := kind) (q := q) (idx := 0) C iN c4 k9 cq (by omega) (by decide)
  obtain ⟨rfl, rfl, rfl⟩ := TK_u t t1
  rw [(lim0 0).1, (lim0 0).2] at n2 n3
  obtain ⟨p1, p2, p3⟩ := mNum M t sc 0 99
  have le := TK_le t
  have c59 : ∀ w : pw, px_R (mm_Str_readClause, 59, [(2, (n : Int)), (2, 2), (0, (kind : Int)), (0, 0), (0, 0)], [], w) = px_R (mm_Str_readClause, 59, [(2, (n : Int)), (2, 2), (0, (kind : Int)), (0, 0), (0, ((0 : Nat) : Int))], [], w) := fun _ => rfl
  have fail0 : ∀ code : Int, 1 ≤ code → px_R (mm_Str_readNumber, 0, [(2, (n : Int)), (2, 2), (0, (kind : Int)), (0, ((0 : Nat) : Int)), (9, 0), (9, 0), (9, 0), (9, 0), (9, 0)], [], (K0, c)) = some (code, (K0, c1)) → px_R (mm_Mod_readNumber, 0, [(2, 123), (0, 0), (0, 99)], [], (K0, m)) = some (0, (K0, flM code m)) → failS n c m (px_R (mm_Str_readClause, 59, [(2, (n : Int)), (2, 2), (0, (kind : Int)), (0, 0), (0, 0)], [], (K0, c))) (px_R (mm_Mod_readPlace, 0, [(2, 123), (2, (X : Int)), (2, (Y : Int)), (0, (off : Int)), (0, (q : Int)), (9, 0)], [], (K0, m))) := fun code h1 h2 h3 => by
    refine ⟨code, c1, flM code m, ?_, ?_, h1, FSt_tss F1, FTw_FMt (flM_F _ _), (flM_8 _ _).1, by rw [(flM_8 _ _).2, sc.2.1, ct1.2.1]⟩
    · rw [c59]
      exact bad1 0 c c1 code h1 (by decide) h2
    · rw [eq_Mod_readPlace_0]
      simp only [px_rd_mk, px_wr_mk, Int.reduceToNat, Int.toNat_natCast, if_true, if_false, Option.bind_some, px_up_cell, px_up_slot, px_up_eq, ne_eq, Nat.reduceEqDiff, not_false_eq_true, Int.reduceEq, Int.reduceLT, Int.reduceLE, Int.reduceNeg, decide_true, decide_false, Bool.and_true, Bool.true_and, Bool.and_false, Bool.false_and, and_self, and_true, true_and, and_false, false_and, bi_T, bi_F, not_true_eq_false, Bool.false_eq_true, kg_123, h3]
  by_cases k3 : k = 3
  · by_cases inr : 0 ≤ nvl T s (e - s) ∧ nvl T s (e - s) ≤ 99
    · have n4 := n3 k3 inr.1 inr.2
      rw [if_neg (fun z => absurd z.1.1 (by decide))] at n4
      obtain ⟨s2, e2, k2, m2, q1, q2, q3, q4, q5⟩ := p3 k3 inr.1 inr.2
      have le2 := TK_le q1
      have g1 := good1 0 c _ (by decide) n4
      have Fc1 : FSt n c (px_up c1 (n + 13 + kind) (5 * q + 0) (nvl T s (e - s))) := FSt_up (FSt_tss F1) _ (by unfold fst2; omega)
      have C1 := FSt_TC hn C Fc1
      have Fm1 : FMt m (px_up m2 X (off + q) (nvl T s (e - s))) := FMt_up (FTk_FMt q4) _ fX
      have M1 := FMt_TM M Fm1
      have sc1 : SC T s2 e2 k2 (px_up m2 X (off + q) (nvl T s (e - s))) := SC_c q3 (fun b => px_up_cell _ _ _ _ (by omega))
      have c14 : (px_up c1 (n + 13 + kind) (5 * q + 0) (nvl T s (e - s))) 2 4 = (e : Int) := (px_up_cell _ _ _ _ (by omega)).trans ct1.2.2.1
      have c1q : (px_up c1 (n + 13 + kind) (5 * q + 0) (nvl T s (e - s))) (n + 1) kind = (q : Int) := (px_up_cell _ _ _ _ ne1).trans ((tss_o F1 _ _ (fun z => absurd z.1 (ne2))).trans cq)
      obtain ⟨W, hW⟩ : ∃ W : hp, W = px_up c1 (n + 13 + kind) (5 * q + 0) (nvl T s (e - s)) := ⟨_, rfl⟩
      obtain ⟨U, hU⟩ : ∃ U : hp, U = px_up m2 X (off + q) (nvl T s (e - s)) := ⟨_, rfl⟩
      have Wv : ∀ z, W (n + 13 + kind) z = if z = 5 * q then nvl T s (e - s) else c (n + 13 + kind) z := fun z => by
        rw [hW, px_up_at]
        by_cases y : z = 5 * q
        · rw [if_pos (by omega), if_pos y]
        · rw [if_neg (by omega), if_neg y]
          exact tss_o F1 _ _ (by omega)
      have UX : ∀ z, U X (off + z) = if z = q then nvl T s (e - s) else m X (off + z) := fun z => by
        rw [hU, px_up_at]
        by_cases y : z = q
        · rw [if_pos (by omega), if_pos y]
        · rw [if_neg (by omega), if_neg y]
          exact q4 _ _ (by omega)
      have UY : ∀ z, U Y (off + z) = m Y (off + z) := fun z => by
        rw [hU, px_up_cell _ _ _ _ (by omega)]
        exact q4 _ _ (by omega)
      have GW : RFc n kind q c W := fun a b h1 h2 => by
        rw [hW]
        unfold px_up
        rw [if_neg (by omega)]
        exact tss_o F1 a b h1
      have GU : RPm X Y (off + q) m U := fun a b h1 h2 => by
        rw [hU]
        unfold px_up
        rw [if_neg (fun z => h2 ⟨Or.inl z.1, z.2⟩)]
        exact q4 a b h1
      rw [← hW] at g1 Fc1 C1 c14 c1q
      rw [← hU] at Fm1 M1 sc1
      have st := mPlace_st (X := X) (Y := Y) (off := off) (q := q) (adO o5 (by omega)) (hX m2 q (Nat.le_refl _)) q2 q5 hU
      have c591 : ∀ w : pw, px_R (mm_Str_readClause, 59, [(2, (n : Int)), (2, 2), (0, (kind : Int)), (0, 0), (0, ((0 + 1 : Nat) : Int))], [], w) = px_R (mm_Str_readClause, 59, [(2, (n : Int)), (2, 2), (0, (kind : Int)), (0, 0), (0, ((1 : Nat) : Int))], [], w) := fun _ => rfl
      obtain ⟨s3, e3, k3', c2, t2, ct2, F2, w1, w2, w3⟩ := sNum hn (kind := kind) (q := q) (idx := 1) C1 le.2.2.1 c14 k9 c1q hq5 (by decide)
      obtain ⟨rfl, rfl, rfl⟩ := TK_u q1 t2
      rw [(lim0 1).1, (lim0 1).2] at w2 w3
      obtain ⟨d3, d5, d6, d4, d10, d7⟩ := sc1
      have bad2 : ∀ code : Int, 1 ≤ code → px_R (mm_Str_readNumber, 0, [(2, (n : Int)), (2, 2), (0, (kind : Int)), (0, ((1 : Nat) : Int)), (9, 0), (9, 0), (9, 0), (9, 0), (9, 0)], [], (K0, W)) = some (code, (K0, c2)) → px_R (mm_Mod_readPlace, 0, [(2, 123), (2, (X : Int)), (2, (Y : Int)), (0, (off : Int)), (0, (q : Int)), (9, 0)], [], (K0, m)) = some (0, (K0, flM code U)) → failS n c m (px_R (mm_Str_readClause, 59, [(2, (n : Int)), (2, 2), (0, (kind : Int)), (0, 0), (0, 0)], [], (K0, c))) (px_R (mm_Mod_readPlace, 0, [(2, 123), (2, (X : Int)), (2, (Y : Int)), (0, (off : Int)), (0, (q : Int)), (9, 0)], [], (K0, m))) := fun code h1 h2 h3 =>
        ⟨code, c2, flM code U, (c59 _).trans (g1.trans ((c591 _).trans (bad1 1 W c2 code h1 (by decide) h2))), h3, h1, FSt_tr Fc1 (FSt_tss F2), FMt_tr Fm1 (FTw_FMt (flM_F _ _)), (flM_8 _ _).1, by rw [(flM_8 _ _).2, d5, ct2.2.1]⟩
      by_cases kk : k2 = 3
      · have d3' : U 123 3 = 2 := by rw [d3, kk]; rfl
        have d7' := d7 kk
        rw [if_pos d3'] at st
        by_cases inr2 : 0 ≤ nvl T s2 (e2 - s2) ∧ nvl T s2 (e2 - s2) ≤ 99
        · have w4 := w3 kk inr2.1 inr2.2
          rw [d7', if_pos inr2] at st
          have lp := mPlace_loop (U := U) o5 hq2 hX hY q 0 (Nat.zero_add q)
          have lp : px_R (mm_Mod_readPlace, 58, [(2, 123), (2, (X : Int)), (2, (Y : Int)), (0, (off : Int)), (0, (q : Int)), (0, 0)], [], (K0, U)) = _ := lp
          have ae : anf (fun z => decide (U X (off + z) = U X (off + q)) && decide (U Y (off + z) = U 123 7)) 0 q = anf (fun z => decide (W (n + 13 + kind) (5 * z) = W (n + 13 + kind) (5 * q)) && decide (W (n + 13 + kind) (5 * z + 1) = nvl T s2 (e2 - s2))) 0 q := by
            refine anf_c q 0 (fun j _ h2 => ?_)
            have nj : ¬ j = q := fun z => by rw [z] at h2; exact Nat.lt_irrefl _ (Nat.lt_of_lt_of_eq h2 (Nat.zero_add q))
            have jq : j < q := Nat.lt_of_lt_of_eq h2 (Nat.zero_add q)
            rw [UX j, UX q, UY j, Wv (5 * j), Wv (5 * q), Wv (5 * j + 1), if_neg nj, if_pos rfl, if_neg (five nj).1, if_pos rfl, if_neg (five nj).2, (V j jq).1, (V j jq).2, d7']
          rw [ae] at lp
          by_cases dup : anf (fun z => decide (W (n + 13 + kind) (5 * z) = W (n + 13 + kind) (5 * q)) && decide (W (n + 13 + kind) (5 * z + 1) = nvl T s2 (e2 - s2))) 0 q = true
          · have hd : (1 = 1 ∧ (kind = 3 ∨ kind = 4)) ∧ anf (fun z => decide (W (n + 13 + kind) (5 * z) = W (n + 13 + kind) (5 * q)) && decide (W (n + 13 + kind) (5 * z + 1) = nvl T s2 (e2 - s2))) 0 q = true := ⟨⟨rfl, hk⟩, dup⟩
            rw [if_pos hd] at w4
            rw [if_pos dup] at lp
            refine Or.inl ⟨3, _, flM 3 U, (c59 _).trans (g1.trans ((c591 _).trans (bad1 1 W _ 3 (by decide) (by decide) w4))), st.trans lp, by decide, FSt_tr Fc1 (FSt_up (FSt_tss F2) _ (fst_13 k9)), FMt_tr Fm1 (FTw_FMt (flM_F _ _)), (flM_8 _ _).1, ?_⟩
            rw [(flM_8 _ _).2, d5, px_up_cell _ _ _ _ ne3, ct2.2.1]
          · have hd : ¬ ((1 = 1 ∧ (kind = 3 ∨ kind = 4)) ∧ anf (fun z => decide (W (n + 13 + kind) (5 * z) = W (n + 13 + kind) (5 * q)) && decide (W (n + 13 + kind) (5 * z + 1) = nvl T s2 (e2 - s2))) 0 q = true) := fun z => dup z.2
            rw [if_neg hd] at w4
            rw [if_neg dup] at lp
            have Fm2 : FMt U (px_up U Y (off + q) (U 123 7)) := FMt_up (FMt_rf _) _ fY
            obtain ⟨s4, e4', k4, m3, x1, x2, x3, x4, x5, _⟩ := scanT (FMt_TM M1 Fm2) le2.2.2.1 ((px_up_cell _ _ _ _ nY).trans d6)
            have en := mPlace_end (X := X) (adO o5 q1000) (hY U q (Nat.le_refl _)) x2
            have g2 := good1 1 W _ (by decide) w4
            have c2' : ∀ w : pw, px_R (mm_Str_readClause, 59, [(2, (n : Int)), (2, 2), (0, (kind : Int)), (0, 0), (0, ((1 + 1 : Nat) : Int))], [], w) = px_R (mm_Str_readClause, 88, [(2, (n : Int)), (2, 2), (0, (kind : Int)), (0, 0), (0, 2)], [], w) := fun w => by
              have hl : (((1 + 1 : Nat) : Int) < 2) = False := by decide
              rw [eq_Str_readClause_59]
              simp only [px_rd_mk, px_wr_mk, Int.reduceToNat, Int.toNat_natCast, if_true, if_false, Option.bind_some, px_up_cell, px_up_slot, px_up_eq, ne_eq, Nat.reduceEqDiff, not_false_eq_true, Int.reduceEq, Int.reduceLT, Int.reduceLE, Int.reduceNeg, decide_true, decide_false, Bool.and_true, Bool.true_and, Bool.and_false, Bool.false_and, and_self, and_true, true_and, and_false, false_and, bi_T, bi_F, not_true_eq_false, Bool.false_eq_true, gl, hc, hl]
              rfl
            refine Or.inr ⟨_, m3, e2, s4, e4', k4, (c59 _).trans (g1.trans ((c591 _).trans (g2.trans (c2' _)))), st.trans (lp.trans en), Nat.le_trans (Nat.le_trans le.1 le.2.1) (Nat.le_trans le2.1 le2.2.1), le2.2.2.1, (px_up_cell _ _ _ _ ne4).trans ct2.2.2.1, x1, x3, fun a b h1 h2 => ?_, fun a b h1 h2 => ?_, ⟨?_, ?_⟩, ?_, ?_⟩
            · unfold px_up
              rw [if_neg (show ¬ (a = n + 13 + kind ∧ b = 5 * q + 1) from fun z => h2 ⟨z.1, by rw [z.2]; exact five2.1, by rw [z.2]; exact five2.2⟩)]
              exact (tss_o F2 a b h1).trans (GW a b h1 h2)
            · refine (x4 a b h1).trans ?_
              unfold px_up
              rw [if_neg (show ¬ (a = Y ∧ b = off + q) from fun z => h2 ⟨Or.inr z.1, z.2⟩)]
              exact GU a b h1 h2
            · rw [x4 _ _ (fun z => nX z.1), px_up_cell _ _ _ _ nXY, UX q, if_pos rfl, px_up_slot _ _ _ _ five3, tss_o F2 _ _ (fun z => ne3' z.1), Wv (5 * q), if_pos rfl]
            · rw [px_up_slot _ _ _ _ five3, tss_o F2 _ _ (fun z => ne3' z.1), Wv (5 * q), if_pos rfl]
              exact inr
            · rw [x4 _ _ (fun z => nY z.1.symm), px_up_eq, px_up_eq, d7']
            · rw [px_up_eq]
              exact inr2
        · rw [d7', if_neg inr2] at st
          exact bad2 2 (by decide) (w2 kk (by
            rcases Int.lt_or_le (nvl T s2 (e2 - s2)) 0 with z | z
            · exact Or.inl z
            · exact Or.inr (Int.lt_of_not_ge fun y => inr2 ⟨z, y⟩))) st |> Or.inl
      · have d3' : ¬ U 123 3 = 2 := by
          rw [d3]
          intro z
          have := le2.2.2.2.1
          clear p1 p2 p3 n1 n2 n3 w1 w2 w3 st V bad1 good1
          omega
        rw [if_neg d3'] at st
        exact Or.inl (bad2 1 (by decide) (w1 kk) st)
    · exact Or.inl (fail0 2 (by decide) (n2 k3 (by omega)) (p2 k3 (by omega)))
  · exact Or.inl (fail0 1 (by decide) (n1 k3) (p1 k3))
