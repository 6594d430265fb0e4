/-! Reading a street: the class's parts. -/
def fst2 (s a b : Nat) : Prop := (a = 2 ∧ 2 ≤ b ∧ b ≤ 6) ∨ a = s + 1 ∨ (s + 3 ≤ a ∧ a < s + 12) ∨ (s + 13 ≤ a ∧ a < s + 22)
/-- only the spare street and the token changed -/
def FSt (s : Nat) (c d : hp) : Prop := ∀ a b : Nat, ¬ fst2 s a b → d a b = c a b
theorem FSt_rf (s : Nat) (c : hp) : FSt s c c := fun _ _ _ => rfl
theorem FSt_tr {s : Nat} {c d e : hp} (F : FSt s c d) (G : FSt s d e) : FSt s c e := fun a b q => (G a b q).trans (F a b q)
theorem FSt_up {s : Nat} {c d : hp} (F : FSt s c d) {a b : Nat} (v : Int) (q : fst2 s a b) : FSt s c (px_up d a b v) := fun x y z => by
  unfold px_up
  rw [if_neg, F x y z]
  rintro ⟨rfl, rfl⟩
  exact z q
theorem FSt_tss {s : Nat} {c d : hp} (F : Fr [] tss c d) : FSt s c d := fun a b z => F a b ((fin_f ..).mpr fun w => z (by
  unfold fst2
  simp only [tss, List.mem_cons, Prod.mk.injEq, List.not_mem_nil, or_false, false_or] at w
  omega))
theorem anf_c {f g : Nat → Bool} (k : Nat) : ∀ i : Nat, (∀ j, i ≤ j → j < i + k → f j = g j) → anf f i k = anf g i k := by
  induction k with
  | zero => intro i _; rfl
  | succ k ih =>
    intro i e
    rw [anf, anf, e i (Nat.le_refl _) (by omega), ih (i + 1) (fun j h1 h2 => e j (by omega) (by omega))]
theorem FSt_IR {s : Nat} (hs : s = 4 ∨ s = 26) {c d : hp} (H : IR c) (F : FSt s c d) : IR d := IR_same H fun q hq => F _ _ (by
  have k4 : ∀ q ∈ rl, ¬ fst2 4 q.1 q.2.1 := by unfold fst2; decide +kernel
  have k26 : ∀ q ∈ rl, ¬ fst2 26 q.1 q.2.1 := by unfold fst2; decide +kernel
  rcases hs with rfl | rfl
  · exact k4 q hq
  · exact k26 q hq)
theorem FSt_TC {s : Nat} (hs : s = 4 ∨ s = 26) {T : Nat → Int} {N : Nat} {c d : hp} (C : TC2 T N c) (F : FSt s c d) : TC2 T N d := by
  obtain ⟨hI, hN, hN9, hT⟩ := C
  exact ⟨FSt_IR hs hI F, (F 2 1 (by unfold fst2; omega)).trans hN, hN9, fun j => (F 3 j (by unfold fst2; omega)).trans (hT j)⟩
def lowN (kind idx : Nat) : Int := if idx = 0 ∧ (kind = 0 ∨ kind = 5) then 1 else 0
def higN (kind idx : Nat) : Int := if idx = 0 ∧ kind = 0 then 99 else px_lst (px_sar 2) kind
theorem fx_gl2 : ∀ k : Fin 9, px_gl (px_sar 2) (k.val : Int) = true := by decide
theorem oneAt {n : Nat} (hn : n = 4 ∨ n = 26) {c : hp} (hI : IR c) {kind q : Nat} (hk : kind < 9) (hq : c (n + 1) kind = (q : Int)) (hq2 : q < 6) (x y : Int) (m : Nat) : ∀ j : Nat, j + m = q → px_R (mm_Str_isOneAt, 3, [(2, (n : Int)), (0, (kind : Int)), (0, x), (0, y), (0, (j : Int))], [], (K0, c)) = some (if anf (fun z => decide (c (n + 13 + kind) (5 * z) = x) && decide (c (n + 13 + kind) (5 * z + 1) = y)) j m = true then 1 else 0, (K0, c)) := by
  have gk : (decide ((0 : Int) ≤ (kind : Int)) && decide ((kind : Int) < 9)) = true := gd_ok (by omega)
  induction m with
  | zero =>
    intro j hj
    have : j = q := hj
    subst this
    rw [eq_Str_isOneAt_3]
    simp only [px_rd_mk, px_wr_mk, Int.reduceToNat, Int.toNat_natCast, if_true, if_false, Option.bind_some, px_up_cell, px_up_slot, px_up_eq, ne_eq, Nat.reduceEqDiff, not_false_eq_true, Int.reduceEq, Int.reduceLT, Int.reduceLE, Int.reduceNeg, decide_true, decide_false, Bool.and_true, Bool.true_and, Bool.and_false, Bool.false_and, and_self, and_true, true_and, and_false, false_and, bi_T, bi_F, not_true_eq_false, Bool.false_eq_true, sgo hn, sr1 hn hI, sga1 hn, gk, hq, Int.lt_irrefl]
    rfl
  | succ m ih =>
    intro j hj
    have hlt : ((j : Int) < (q : Int)) = True := eq_true (by omega)
    have e1 := R_Str_number hn hI (x1 := (kind : Int)) (x2 := (j : Int)) (x3 := 0) kind j 0 rfl rfl rfl hk (by omega)
    have e2 := R_Str_number hn hI (x1 := (kind : Int)) (x2 := (j : Int)) (x3 := 1) kind j 1 rfl rfl rfl hk (by omega)
    rw [show 5 * j + 0 = 5 * j from rfl] at e1
    have i1 := ih (j + 1) (by omega)
    rw [anf, eq_Str_isOneAt_3]
    by_cases a : c (n + 13 + kind) (5 * j) = x
    · have a1 := eq_true a
      by_cases b : c (n + 13 + kind) (5 * j + 1) = y
      · have b1 := eq_true b
        simp only [px_rd_mk, px_wr_mk, Int.reduceToNat, Int.toNat_natCast, if_true, if_false, Option.bind_some, px_up_cell, px_up_slot, px_up_eq, ne_eq, Nat.reduceEqDiff, not_false_eq_true, Int.reduceEq, Int.reduceLT, Int.reduceLE, Int.reduceNeg, decide_true, decide_false, Bool.and_true, Bool.true_and, Bool.and_false, Bool.false_and, and_self, and_true, true_and, and_false, false_and, bi_T, bi_F, not_true_eq_false, Bool.false_eq_true, sgo hn, sr1 hn hI, sga1 hn, gk, hq, hlt, e1, e2, a1, b1, Bool.true_or]
      · have b1 := eq_false b
        simp only [px_rd_mk, px_wr_mk, Int.reduceToNat, Int.toNat_natCast, if_true, if_false, Option.bind_some, px_up_cell, px_up_slot, px_up_eq, ne_eq, Nat.reduceEqDiff, not_false_eq_true, Int.reduceEq, Int.reduceLT, Int.reduceLE, Int.reduceNeg, decide_true, decide_false, Bool.and_true, Bool.true_and, Bool.and_false, Bool.false_and, and_self, and_true, true_and, and_false, false_and, bi_T, bi_F, not_true_eq_false, Bool.false_eq_true, sgo hn, sr1 hn hI, sga1 hn, gk, hq, hlt, e1, e2, a1, b1, Bool.false_or, px_w_s (show j < 1000000 by omega)]
        exact i1
    · have a1 := eq_false a
      simp only [px_rd_mk, px_wr_mk, Int.reduceToNat, Int.toNat_natCast, if_true, if_false, Option.bind_some, px_up_cell, px_up_slot, px_up_eq, ne_eq, Nat.reduceEqDiff, not_false_eq_true, Int.reduceEq, Int.reduceLT, Int.reduceLE, Int.reduceNeg, decide_true, decide_false, Bool.and_true, Bool.true_and, Bool.and_false, Bool.false_and, and_self, and_true, true_and, and_false, false_and, bi_T, bi_F, not_true_eq_false, Bool.false_eq_true, sgo hn, sr1 hn hI, sga1 hn, gk, hq, hlt, e1, a1, Bool.false_or, px_w_s (show j < 1000000 by omega)]
      exact i1
theorem sNum_65 {n : Nat} (hn : n = 4 ∨ n = 26) {c1 : hp} {kind idx : Nat} (hk : kind < 9) (hx : idx < 5) : ∃ x4 : Int, px_R (mm_Str_readNumber, 23, [(2, (n : Int)), (2, 2), (0, (kind : Int)), (0, (idx : Int)), (9, 0), (9, 0), (9, 0), (9, 0), (9, 0)], [(0, if idx = 0 then 1 else 0)], (K0, c1)) = px_R (mm_Str_readNumber, 65, [(2, (n : Int)), (2, 2), (0, (kind : Int)), (0, (idx : Int)), (0, x4), (0, lowN kind idx), (9, 0), (9, 0), (9, 0)], [(0, higN kind idx)], (K0, c1)) := by
  have gl := fx_gl2 ⟨kind, hk⟩
  simp only at gl
  unfold lowN higN
  by_cases a : idx = 0
  · subst a
    refine ⟨1, ?_⟩
    by_cases b : kind = 0
    · subst b
      rw [eq_Str_readNumber_23]
      simp only [px_rd_mk, px_wr_mk, Int.reduceToNat, Int.toNat_natCast, if_true, if_false, Option.bind_some, px_up_cell, px_up_slot, px_up_eq, ne_eq, Nat.reduceEqDiff, not_false_eq_true, Int.reduceEq, Int.reduceLT, Int.reduceLE, Int.reduceNeg, decide_true, decide_false, Bool.and_true, Bool.true_and, Bool.and_false, Bool.false_and, and_self, and_true, true_and, and_false, false_and, bi_T, bi_F, not_true_eq_false, Bool.false_eq_true, true_or, Int.natCast_zero, Int.cast_ofNat_Int]
      rw [eq_Str_readNumber_44]
      simp only [px_rd_mk, px_wr_mk, Int.reduceToNat, Int.toNat_natCast, if_true, if_false, Option.bind_some, px_up_cell, px_up_slot, px_up_eq, ne_eq, Nat.reduceEqDiff, not_false_eq_true, Int.reduceEq, Int.reduceLT, Int.reduceLE, Int.reduceNeg, decide_true, decide_false, Bool.and_true, Bool.true_and, Bool.and_false, Bool.false_and, and_self, and_true, true_and, and_false, false_and, bi_T, bi_F, not_true_eq_false, Bool.false_eq_true]
    · have b1 : ((kind : Int) = 0) = False := eq_false (by omega)
      by_cases d : kind = 5
      · subst d
        rw [eq_Str_readNumber_23]
        simp only [px_rd_mk, px_wr_mk, Int.reduceToNat, Int.toNat_natCast, if_true, if_false, Option.bind_some, px_up_cell, px_up_slot, px_up_eq, ne_eq, Nat.reduceEqDiff, not_false_eq_true, Int.reduceEq, Int.reduceLT, Int.reduceLE, Int.reduceNeg, decide_true, decide_false, Bool.and_true, Bool.true_and, Bool.and_false, Bool.false_and, and_self, and_true, true_and, and_false, false_and, bi_T, bi_F, not_true_eq_false, Bool.false_eq_true, or_true, Int.natCast_zero, Int.cast_ofNat_Int]
        rw [eq_Str_readNumber_44]
        simp only [px_rd_mk, px_wr_mk, Int.reduceToNat, Int.toNat_natCast, if_true, if_false, Option.bind_some, px_up_cell, px_up_slot, px_up_eq, ne_eq, Nat.reduceEqDiff, not_false_eq_true, Int.reduceEq, Int.reduceLT, Int.reduceLE, Int.reduceNeg, decide_true, decide_false, Bool.and_true, Bool.true_and, Bool.and_false, Bool.false_and, and_self, and_true, true_and, and_false, false_and, bi_T, bi_F, not_true_eq_false, Bool.false_eq_true, gl]
        rfl
      · have d1 : ((kind : Int) = 5) = False := eq_false (by omega)
        rw [eq_Str_readNumber_23]
        simp only [px_rd_mk, px_wr_mk, Int.reduceToNat, Int.toNat_natCast, if_true, if_false, Option.bind_some, px_up_cell, px_up_slot, px_up_eq, ne_eq, Nat.reduceEqDiff, not_false_eq_true, Int.reduceEq, Int.reduceLT, Int.reduceLE, Int.reduceNeg, decide_true, decide_false, Bool.and_true, Bool.true_and, Bool.and_false, Bool.false_and, and_self, and_true, true_and, and_false, false_and, bi_T, bi_F, not_true_eq_false, Bool.false_eq_true, b1, d1, b, d, or_self]
        rw [eq_Str_readNumber_44]
        simp only [px_rd_mk, px_wr_mk, Int.reduceToNat, Int.toNat_natCast, if_true, if_false, Option.bind_some, px_up_cell, px_up_slot, px_up_eq, ne_eq, Nat.reduceEqDiff, not_false_eq_true, Int.reduceEq, Int.reduceLT, Int.reduceLE, Int.reduceNeg, decide_true, decide_false, Bool.and_true, Bool.true_and, Bool.and_false, Bool.false_and, and_self, and_true, true_and, and_false, false_and, bi_T, bi_F, not_true_eq_false, Bool.false_eq_true, gl, b1]
  · refine ⟨0, ?_⟩
    rw [eq_Str_readNumber_23]
    simp only [px_rd_mk, px_wr_mk, Int.reduceToNat, Int.toNat_natCast, if_true, if_false, Option.bind_some, px_up_cell, px_up_slot, px_up_eq, ne_eq, Nat.reduceEqDiff, not_false_eq_true, Int.reduceEq, Int.reduceLT, Int.reduceLE, Int.reduceNeg, decide_true, decide_false, Bool.and_true, Bool.true_and, Bool.and_false, Bool.false_and, and_self, and_true, true_and, and_false, false_and, bi_T, bi_F, not_true_eq_false, Bool.false_eq_true, a]
    rw [eq_Str_readNumber_44]
    simp only [px_rd_mk, px_wr_mk, Int.reduceToNat, Int.toNat_natCast, if_true, if_false, Option.bind_some, px_up_cell, px_up_slot, px_up_eq, ne_eq, Nat.reduceEqDiff, not_false_eq_true, Int.reduceEq, Int.reduceLT, Int.reduceLE, Int.reduceNeg, decide_true, decide_false, Bool.and_true, Bool.true_and, Bool.and_false, Bool.false_and, and_self, and_true, true_and, and_false, false_and, bi_T, bi_F, not_true_eq_false, Bool.false_eq_true, gl]
theorem sNum {n : Nat} (hn : n = 4 ∨ n = 26) {T : Nat → Int} {N i kind q idx : Nat} {c : hp} (C : TC2 T N c) (hi : i ≤ N) (e4 : c 2 4 = (i : Int)) (hk : kind < 9) (hq : c (n + 1) kind = (q : Int)) (hq2 : q < 6) (hx : idx < 5) : ∃ (s e k : Nat) (c1 : hp), TK T N i s e k ∧ CT T s e k c1 ∧ Fr [] tss c c1 ∧ (¬ k = 3 → px_R (mm_Str_readNumber, 0, [(2, (n : Int)), (2, 2), (0, (kind : Int)), (0, (idx : Int)), (9, 0), (9, 0), (9, 0), (9, 0), (9, 0)], [], (K0, c)) = some (1, (K0, c1))) ∧ (k = 3 → (nvl T s (e - s) < lowN kind idx ∨ higN kind idx < nvl T s (e - s)) → px_R (mm_Str_readNumber, 0, [(2, (n : Int)), (2, 2), (0, (kind : Int)), (0, (idx : Int)), (9, 0), (9, 0), (9, 0), (9, 0), (9, 0)], [], (K0, c)) = some (2, (K0, c1))) ∧ (k = 3 → lowN kind idx ≤ nvl T s (e - s) → nvl T s (e - s) ≤ higN kind idx → px_R (mm_Str_readNumber, 0, [(2, (n : Int)), (2, 2), (0, (kind : Int)), (0, (idx : Int)), (9, 0), (9, 0), (9, 0), (9, 0), (9, 0)], [], (K0, c)) = some (if (idx = 1 ∧ (kind = 3 ∨ kind = 4)) ∧ anf (fun z => decide (c (n + 13 + kind) (5 * z) = c (n + 13 + kind) (5 * q)) && decide (c (n + 13 + kind) (5 * z + 1) = nvl T s (e - s))) 0 q = true then 3 else 0, (K0, px_up c1 (n + 13 + kind) (5 * q + idx) (nvl T s (e - s))))) := by
  obtain ⟨s, e, k, c1, t1, t2, t3, t4, t5, t6, t7, t8⟩ := R_readNext C hi e4
  have F : Fr [] tss c c1 := t3
  have C1 := FSt_TC hn C (FSt_tss F)
  have I1 := C1.1
  have hq1 : c1 (n + 1) kind = (q : Int) := (FSt_tss (s := 30 - n) F _ _ (by unfold fst2; omega)).trans hq
  obtain ⟨x4, p65⟩ := sNum_65 hn (c1 := c1) hk hx
  have go23 : k = 3 → px_R (mm_Str_readNumber, 0, [(2, (n : Int)), (2, 2), (0, (kind : Int)), (0, (idx : Int)), (9, 0), (9, 0), (9, 0), (9, 0), (9, 0)], [], (K0, c)) = px_R (mm_Str_readNumber, 65, [(2, (n : Int)), (2, 2), (0, (kind : Int)), (0, (idx : Int)), (0, x4), (0, lowN kind idx), (9, 0), (9, 0), (9, 0)], [(0, higN kind idx)], (K0, c1)) := fun z => by
    subst z
    have t4 : c1 2 2 = 3 := t4
    rw [← p65, eq_Str_readNumber_0]
    by_cases a : idx = 0
    · have a1 : ((idx : Int) = 0) = True := eq_true (by omega)
      rw [if_pos a]
      simp only [px_rd_mk, px_wr_mk, Int.reduceToNat, Int.toNat_natCast, if_true, if_false, Option.bind_some, px_up_cell, px_up_slot, px_up_eq, ne_eq, Nat.reduceEqDiff, not_false_eq_true, Int.reduceEq, Int.reduceLT, Int.reduceLE, Int.reduceNeg, decide_true, decide_false, Bool.and_true, Bool.true_and, Bool.and_false, Bool.false_and, and_self, and_true, true_and, and_false, false_and, bi_T, bi_F, not_true_eq_false, Bool.false_eq_true, kg_2, t2, t4, a1]
    · have a1 : ((idx : Int) = 0) = False := eq_false (by omega)
      rw [if_neg a]
      simp only [px_rd_mk, px_wr_mk, Int.reduceToNat, Int.toNat_natCast, if_true, if_false, Option.bind_some, px_up_cell, px_up_slot, px_up_eq, ne_eq, Nat.reduceEqDiff, not_false_eq_true, Int.reduceEq, Int.reduceLT, Int.reduceLE, Int.reduceNeg, decide_true, decide_false, Bool.and_true, Bool.true_and, Bool.and_false, Bool.false_and, and_self, and_true, true_and, and_false, false_and, bi_T, bi_F, not_true_eq_false, Bool.false_eq_true, kg_2, t2, t4, a1]
  refine ⟨s, e, k, c1, t1, ⟨t4, t5, t6, t7, t8⟩, F, fun z => ?_, fun z zr => ?_, fun z zl zh => ?_⟩
  · have n3 : (c1 2 2 = 3) = False := eq_false (by omega)
    rw [eq_Str_readNumber_0]
    simp only [px_rd_mk, px_wr_mk, Int.reduceToNat, Int.toNat_natCast, if_true, if_false, Option.bind_some, px_up_cell, px_up_slot, px_up_eq, ne_eq, Nat.reduceEqDiff, not_false_eq_true, Int.reduceEq, Int.reduceLT, Int.reduceLE, Int.reduceNeg, decide_true, decide_false, Bool.and_true, Bool.true_and, Bool.and_false, Bool.false_and, and_self, and_true, true_and, and_false, false_and, bi_T, bi_F, not_true_eq_false, Bool.false_eq_true, kg_2, t2, n3]
  · rw [go23 z, eq_Str_readNumber_65]
    have v6 := t8 z
    by_cases l : nvl T s (e - s) < lowN kind idx
    · have l1 := eq_true l
      simp only [px_rd_mk, px_wr_mk, Int.reduceToNat, Int.toNat_natCast, if_true, if_false, Option.bind_some, px_up_cell, px_up_slot, px_up_eq, ne_eq, Nat.reduceEqDiff, not_false_eq_true, Int.reduceEq, Int.reduceLT, Int.reduceLE, Int.reduceNeg, decide_true, decide_false, Bool.and_true, Bool.true_and, Bool.and_false, Bool.false_and, and_self, and_true, true_and, and_false, false_and, bi_T, bi_F, not_true_eq_false, Bool.false_eq_true, kg_2, v6, l1]
    · have l1 := eq_false l
      have l2 := eq_true (zr.resolve_left l)
      simp only [px_rd_mk, px_wr_mk, Int.reduceToNat, Int.toNat_natCast, if_true, if_false, Option.bind_some, px_up_cell, px_up_slot, px_up_eq, ne_eq, Nat.reduceEqDiff, not_false_eq_true, Int.reduceEq, Int.reduceLT, Int.reduceLE, Int.reduceNeg, decide_true, decide_false, Bool.and_true, Bool.true_and, Bool.and_false, Bool.false_and, and_self, and_true, true_and, and_false, false_and, bi_T, bi_F, not_true_eq_false, Bool.false_eq_true, kg_2, v6, l1, l2]
  · rw [go23 z]
    have v6 := t8 z
    have l1 : (nvl T s (e - s) < lowN kind idx) = False := eq_false (by omega)
    have l2 : (higN kind idx < nvl T s (e - s)) = False := eq_false (by omega)
    have gk : (decide ((0 : Int) ≤ (kind : Int)) && decide ((kind : Int) < 9)) = true := gd_ok (by omega)
    have gq : (decide ((0 : Int) ≤ ((5 * q + idx : Nat) : Int)) && decide (((5 * q + idx : Nat) : Int) < 30)) = true := gd_ok (by omega)
    have gq0 : (decide ((0 : Int) ≤ ((5 * q : Nat) : Int)) && decide (((5 * q : Nat) : Int) < 30)) = true := gd_ok (by omega)
    have u1 : -2147483648 ≤ (q : Int) * 5 ∧ (q : Int) * 5 < 2147483648 := by omega
    have u1e : (q : Int) * 5 = ((5 * q : Nat) : Int) := by omega
    have u2 : -2147483648 ≤ ((5 * q : Nat) : Int) + (idx : Int) ∧ ((5 * q : Nat) : Int) + (idx : Int) < 2147483648 := by omega
    have u2e : ((5 * q : Nat) : Int) + (idx : Int) = ((5 * q + idx : Nat) : Int) := by omega
    obtain ⟨W, hW⟩ : ∃ W : hp, W = px_up c1 (n + 13 + kind) (5 * q + idx) (nvl T s (e - s)) := ⟨_, rfl⟩
    have F2 : FSt n c1 W := hW ▸ FSt_up (FSt_rf _ _) _ (by unfold fst2; omega)
    have I2 := FSt_IR hn I1 F2
    have c26 : W 2 6 = nvl T s (e - s) := by rw [hW]; exact (px_up_cell _ _ _ _ (by omega)).trans v6
    have cq : W (n + 1) kind = (q : Int) := by rw [hW]; exact (px_up_cell _ _ _ _ (by omega)).trans hq1
    have oa := oneAt hn I2 hk cq hq2 (W (n + 13 + kind) (5 * q)) (nvl T s (e - s)) q 0 (Nat.zero_add q)
    have to132 : px_R (mm_Str_readNumber, 65, [(2, (n : Int)), (2, 2), (0, (kind : Int)), (0, (idx : Int)), (0, x4), (0, lowN kind idx), (9, 0), (9, 0), (9, 0)], [(0, higN kind idx)], (K0, c1)) = px_R (mm_Str_readNumber, 132, [(2, (n : Int)), (2, 2), (0, (kind : Int)), (0, (idx : Int)), (0, x4), (0, lowN kind idx), (0, higN kind idx), (0, ((5 * q : Nat) : Int)), (9, 0)], [(0, if idx = 1 ∧ (kind = 3 ∨ kind = 4) then 1 else 0)], (K0, W)) := by
      rw [eq_Str_readNumber_65, hW]
      by_cases a : idx = 1
      · have a1 : ((idx : Int) = 1) = True := eq_true (by omega)
        by_cases b : kind = 3
        · have b1 : ((kind : Int) = 3) = True := eq_true (by omega)
          rw [if_pos (show idx = 1 ∧ (kind = 3 ∨ kind = 4) from ⟨a, Or.inl b⟩)]
          simp only [px_rd_mk, px_wr_mk, Int.reduceToNat, Int.toNat_natCast, if_true, if_false, Option.bind_some, px_up_cell, px_up_slot, px_up_eq, ne_eq, Nat.reduceEqDiff, not_false_eq_true, Int.reduceEq, Int.reduceLT, Int.reduceLE, Int.reduceNeg, decide_true, decide_false, Bool.and_true, Bool.true_and, Bool.and_false, Bool.false_and, and_self, and_true, true_and, and_false, false_and, bi_T, bi_F, not_true_eq_false, Bool.false_eq_true, kg_2, Bool.true_or, v6, l1, l2, sgo hn, sr1 hn I1, sga1 hn, sr3 hn I1, sga12 hn, sr16 hn I1 hk, sga13 hn hk, gk, hq1, (px_w_n u1).trans u1e, (px_w_n u2).trans u2e, gq, a1, b1]
        · have b1 : ((kind : Int) = 3) = False := eq_false (by omega)
          by_cases d : kind = 4
          · have b2 : ((kind : Int) = 4) = True := eq_true (by omega)
            rw [if_pos (show idx = 1 ∧ (kind = 3 ∨ kind = 4) from ⟨a, Or.inr d⟩)]
            simp only [px_rd_mk, px_wr_mk, Int.reduceToNat, Int.toNat_natCast, if_true, if_false, Option.bind_some, px_up_cell, px_up_slot, px_up_eq, ne_eq, Nat.reduceEqDiff, not_false_eq_true, Int.reduceEq, Int.reduceLT, Int.reduceLE, Int.reduceNeg, decide_true, decide_false, Bool.and_true, Bool.true_and, Bool.and_false, Bool.false_and, and_self, and_true, true_and, and_false, false_and, bi_T, bi_F, not_true_eq_false, Bool.false_eq_true, kg_2, Bool.true_or, v6, l1, l2, sgo hn, sr1 hn I1, sga1 hn, sr3 hn I1, sga12 hn, sr16 hn I1 hk, sga13 hn hk, gk, hq1, (px_w_n u1).trans u1e, (px_w_n u2).trans u2e, gq, a1, b1, b2]
          · have b2 : ((kind : Int) = 4) = False := eq_false (by omega)
            rw [if_neg (show ¬ (idx = 1 ∧ (kind = 3 ∨ kind = 4)) by omega)]
            simp only [px_rd_mk, px_wr_mk, Int.reduceToNat, Int.toNat_natCast, if_true, if_false, Option.bind_some, px_up_cell, px_up_slot, px_up_eq, ne_eq, Nat.reduceEqDiff, not_false_eq_true, Int.reduceEq, Int.reduceLT, Int.reduceLE, Int.reduceNeg, decide_true, decide_false, Bool.and_true, Bool.true_and, Bool.and_false, Bool.false_and, and_self, and_true, true_and, and_false, false_and, bi_T, bi_F, not_true_eq_false, Bool.false_eq_true, kg_2, Bool.true_or, v6, l1, l2, sgo hn, sr1 hn I1, sga1 hn, sr3 hn I1, sga12 hn, sr16 hn I1 hk, sga13 hn hk, gk, hq1, (px_w_n u1).trans u1e, (px_w_n u2).trans u2e, gq, a1, b1, b2]
      · have a1 : ((idx : Int) = 1) = False := eq_false (by omega)
        rw [if_neg (show ¬ (idx = 1 ∧ (kind = 3 ∨ kind = 4)) by omega)]
        simp only [px_rd_mk, px_wr_mk, Int.reduceToNat, Int.toNat_natCast, if_true, if_false, Option.bind_some, px_up_cell, px_up_slot, px_up_eq, ne_eq, Nat.reduceEqDiff, not_false_eq_true, Int.reduceEq, Int.reduceLT, Int.reduceLE, Int.reduceNeg, decide_true, decide_false, Bool.and_true, Bool.true_and, Bool.and_false, Bool.false_and, and_self, and_true, true_and, and_false, false_and, bi_T, bi_F, not_true_eq_false, Bool.false_eq_true, kg_2, Bool.true_or, v6, l1, l2, sgo hn, sr1 hn I1, sga1 hn, sr3 hn I1, sga12 hn, sr16 hn I1 hk, sga13 hn hk, gk, hq1, (px_w_n u1).trans u1e, (px_w_n u2).trans u2e, gq, a1]
    have wc : ∀ y, ¬ y = 5 * q + idx → W (n + 13 + kind) y = c (n + 13 + kind) y := fun y hy => by
      rw [hW, px_up_slot _ _ _ _ hy]
      exact F _ _ ((fin_f ..).mpr fun w => by
        simp only [tss, List.mem_cons, Prod.mk.injEq, List.not_mem_nil, or_false, false_or] at w
        omega)
    rw [← hW, to132, eq_Str_readNumber_132]
    by_cases a : idx = 1 ∧ (kind = 3 ∨ kind = 4)
    · have eqc : anf (fun z => decide (W (n + 13 + kind) (5 * z) = W (n + 13 + kind) (5 * q)) && decide (W (n + 13 + kind) (5 * z + 1) = nvl T s (e - s))) 0 q = anf (fun z => decide (c (n + 13 + kind) (5 * z) = c (n + 13 + kind) (5 * q)) && decide (c (n + 13 + kind) (5 * z + 1) = nvl T s (e - s))) 0 q := by
        refine anf_c q 0 (fun j _ h2 => ?_)
        rw [wc (5 * j) (by omega), wc (5 * q) (by omega), wc (5 * j + 1) (by omega)]
      rw [eqc] at oa
      have oa0 : px_R (mm_Str_isOneAt, 0, [(2, (n : Int)), (0, (kind : Int)), (0, W (n + 13 + kind) (5 * q)), (0, nvl T s (e - s)), (9, 0)], [], (K0, W)) = _ := (eq_Str_isOneAt_0 _ _ _ _ _).trans oa
      rw [if_pos a]
      by_cases d : anf (fun z => decide (c (n + 13 + kind) (5 * z) = c (n + 13 + kind) (5 * q)) && decide (c (n + 13 + kind) (5 * z + 1) = nvl T s (e - s))) 0 q = true
      · rw [if_pos d] at oa0
        have hd : (idx = 1 ∧ (kind = 3 ∨ kind = 4)) ∧ anf (fun z => decide (c (n + 13 + kind) (5 * z) = c (n + 13 + kind) (5 * q)) && decide (c (n + 13 + kind) (5 * z + 1) = nvl T s (e - s))) 0 q = true := ⟨a, d⟩
        rw [if_pos hd]
        simp only [px_rd_mk, px_wr_mk, Int.reduceToNat, Int.toNat_natCast, if_true, if_false, Option.bind_some, px_up_cell, px_up_slot, px_up_eq, ne_eq, Nat.reduceEqDiff, not_false_eq_true, Int.reduceEq, Int.reduceLT, Int.reduceLE, Int.reduceNeg, decide_true, decide_false, Bool.and_true, Bool.true_and, Bool.and_false, Bool.false_and, and_self, and_true, true_and, and_false, false_and, bi_T, bi_F, not_true_eq_false, Bool.false_eq_true, kg_2, Bool.true_or, sgo hn, sr3 hn I2, sga12 hn, sr16 hn I2 hk, sga13 hn hk, gk, gq0, c26, oa0]
      · rw [if_neg d] at oa0
        have hd : ¬ ((idx = 1 ∧ (kind = 3 ∨ kind = 4)) ∧ anf (fun z => decide (c (n + 13 + kind) (5 * z) = c (n + 13 + kind) (5 * q)) && decide (c (n + 13 + kind) (5 * z + 1) = nvl T s (e - s))) 0 q = true) := fun z => d z.2
        rw [if_neg hd]
        simp only [px_rd_mk, px_wr_mk, Int.reduceToNat, Int.toNat_natCast, if_true, if_false, Option.bind_some, px_up_cell, px_up_slot, px_up_eq, ne_eq, Nat.reduceEqDiff, not_false_eq_true, Int.reduceEq, Int.reduceLT, Int.reduceLE, Int.reduceNeg, decide_true, decide_false, Bool.and_true, Bool.true_and, Bool.and_false, Bool.false_and, and_self, and_true, true_and, and_false, false_and, bi_T, bi_F, not_true_eq_false, Bool.false_eq_true, kg_2, Bool.true_or, sgo hn, sr3 hn I2, sga12 hn, sr16 hn I2 hk, sga13 hn hk, gk, gq0, c26, oa0]
    · have hd : ¬ ((idx = 1 ∧ (kind = 3 ∨ kind = 4)) ∧ anf (fun z => decide (c (n + 13 + kind) (5 * z) = c (n + 13 + kind) (5 * q)) && decide (c (n + 13 + kind) (5 * z + 1) = nvl T s (e - s))) 0 q = true) := fun z => a z.1
      rw [if_neg a, if_neg hd, if_pos rfl]
