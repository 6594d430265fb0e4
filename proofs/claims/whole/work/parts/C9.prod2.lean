/-! The products on the machine. -/
def B32 : Nat := 4294967296
def BT : Nat := 10000
theorem times_num {d v c M : Nat} (hd : d < M) (hM : M ≤ 4294967296) (hv : v ≤ 65536) (hc : c ≤ v) : px_wl (px_wl ((d : Int) * (v : Int)) + (c : Int)) = ((d * v + c : Nat) : Int) ∧ d * v + c < 9223372036854775808 := by
  have m := Nat.mul_le_mul (Nat.le_of_lt hd) hv
  have m2 := Nat.mul_le_mul_right 65536 hM
  have e : (d : Int) * (v : Int) = ((d * v : Nat) : Int) := (Int.natCast_mul d v).symm
  generalize d * v = x at *
  have u1 : -9223372036854775808 ≤ (x : Int) ∧ (x : Int) < 9223372036854775808 := by omega
  have u2 : -9223372036854775808 ≤ (x : Int) + (c : Int) ∧ (x : Int) + (c : Int) < 9223372036854775808 := by omega
  refine ⟨?_, by omega⟩
  rw [e, px_wl_n u1, px_wl_n u2]
  rfl
theorem times_C {h : hp} {P v : Nat} (hI : IR h) (hv : v ≤ 65536) (k : Nat) : ∀ (i : Nat) (g : hp) (y5 : pv), i + k = 11 → Fr [98] [] h g → (∀ j, j < 11 → g 98 j = if j < i then (dg B32 (P * v) j : Int) else (dg B32 P j : Int)) → ∃ g2 : hp, px_R (mm_Prod_times, 5, [(2, 97), (0, (v : Int)), (1, (cyV B32 P v i : Int)), (9, 0), (0, (i : Int)), y5, (9, 0)], [], (K0, g)) = some (0, (K0, g2)) ∧ Fr [98] [] h g2 ∧ PD (g2 98) B32 11 (P * v) := by
  induction k with
  | zero =>
    intro i g y5 hi F V
    have : i = 11 := hi
    subst this
    refine ⟨g, ?_, F, fun j hj => ?_⟩
    · rw [eq_Prod_times_5, if_neg (by decide)]
    · rw [V j hj, if_pos hj]
  | succ k ih =>
    intro i g y5 hi F V
    have hB : 0 < B32 := by decide
    have hlt : ((i : Int) < 11) = True := eq_true (by omega)
    have gi : (decide ((0 : Int) ≤ (i : Int)) && decide ((i : Int) < 11)) = true := gd_ok (by omega)
    have vi : g 98 i = (dg B32 P i : Int) := by
      rw [V i (by omega), if_neg (by omega)]
    have d0 := dg_lt hB P i
    have c0 := cy_le hB P v i
    obtain ⟨g2, r1, r2, r3⟩ := ih (i + 1) (px_up g 98 i (dg B32 (P * v) i : Int)) (1, ((dg B32 P i * v + cyV B32 P v i : Nat) : Int)) (by omega) (Fr_up F _ rfl) (fun j hj => by
      rw [px_up_at]
      by_cases e : j = i
      · rw [if_pos e, if_pos (by omega), e]
      · rw [if_neg e, V j hj]
        by_cases e2 : j < i
        · rw [if_pos e2, if_pos (by omega)]
        · rw [if_neg e2, if_neg (by omega)])
    have t := times_num d0 (Nat.le_refl _) hv c0
    have n1 := cy_nx hB P v i
    have n2 := cy_dg hB P v i
    have s1 : px_lush ((dg B32 P i * v + cyV B32 P v i : Nat) : Int) 32 = (cyV B32 P v (i + 1) : Int) := (lush32 t.2).trans (congrArg (fun z : Nat => (z : Int)) n1)
    have s2 : px_land ((dg B32 P i * v + cyV B32 P v i : Nat) : Int) 4294967295 = (dg B32 (P * v) i : Int) := (land32 t.2).trans (congrArg (fun z : Nat => (z : Int)) n2)
    have I := IR_Fr hI F (by decide)
    have w1 := px_w_s (show i < 1000000 by omega)
    refine ⟨g2, ?_, r2, r3⟩
    rw [eq_Prod_times_5]
    simp only [px_rd_mk, px_wr_mk, Int.reduceToNat, Int.toNat_natCast, if_true, if_false, Option.bind_some, px_up_cell, px_up_slot, px_up_eq, ne_eq, Nat.reduceEqDiff, not_false_eq_true, Int.reduceEq, Int.reduceLT, Int.reduceLE, Int.reduceNeg, decide_true, decide_false, Bool.and_true, Bool.true_and, Bool.and_false, Bool.false_and, and_self, and_true, true_and, and_false, false_and, bi_T, bi_F, not_true_eq_false, Bool.false_eq_true, kg_97, ka_98, hlt, ir_97_0 I, gi, vi, t.1, w1]
    rw [s1, s2]
    exact r1
theorem R_timesC {h : hp} {P v : Nat} (hI : IR h) (hv : v ≤ 65536) (hP : PD (h 98) B32 11 P) : ∃ g2 : hp, px_R (mm_Prod_times, 0, [(2, 97), (0, (v : Int)), (9, 0), (9, 0), (9, 0), (9, 0), (9, 0)], [], (K0, h)) = some (0, (K0, g2)) ∧ Fr [98] [] h g2 ∧ PD (g2 98) B32 11 (P * v) := by
  obtain ⟨g, r1, r2⟩ := times_C (P := P) hI hv 11 0 h (9, 0) rfl (Fr_rf _ _ _) (fun j hj => by
    rw [if_neg (by omega)]
    exact hP j hj)
  rw [cy_0] at r1
  refine ⟨g, ?_, r2⟩
  rw [eq_Prod_times_0]
  exact r1
theorem times_M {h : hp} {P v : Nat} (hI : IR h) (hv : v ≤ 65536) (k : Nat) : ∀ (i : Nat) (g : hp) (y5 : pv), i + k = 30 → Fr [157] [] h g → (∀ j, j < 30 → g 157 j = if j < i then (dg BT (P * v) j : Int) else (dg BT P j : Int)) → ∃ g2 : hp, px_R (mm_Mod_times, 5, [(2, 123), (0, (v : Int)), (1, (cyV BT P v i : Int)), (9, 0), (0, (i : Int)), y5, (9, 0)], [], (K0, g)) = some (0, (K0, g2)) ∧ Fr [157] [] h g2 ∧ PD (g2 157) BT 30 (P * v) := by
  induction k with
  | zero =>
    intro i g y5 hi F V
    have : i = 30 := hi
    subst this
    refine ⟨g, ?_, F, fun j hj => ?_⟩
    · rw [eq_Mod_times_5, if_neg (by decide)]
    · rw [V j hj, if_pos hj]
  | succ k ih =>
    intro i g y5 hi F V
    have hB : 0 < BT := by decide
    have hlt : ((i : Int) < 30) = True := eq_true (by omega)
    have gi : (decide ((0 : Int) ≤ (i : Int)) && decide ((i : Int) < 30)) = true := gd_ok (by omega)
    have vi : g 157 i = (dg BT P i : Int) := by
      rw [V i (by omega), if_neg (by omega)]
    have d0 := dg_lt hB P i
    have c0 := cy_le hB P v i
    obtain ⟨g2, r1, r2, r3⟩ := ih (i + 1) (px_up g 157 i (dg BT (P * v) i : Int)) (1, ((dg BT P i * v + cyV BT P v i : Nat) : Int)) (by omega) (Fr_up F _ rfl) (fun j hj => by
      rw [px_up_at]
      by_cases e : j = i
      · rw [if_pos e, if_pos (by omega), e]
      · rw [if_neg e, V j hj]
        by_cases e2 : j < i
        · rw [if_pos e2, if_pos (by omega)]
        · rw [if_neg e2, if_neg (by omega)])
    have t := times_num d0 (show BT ≤ 4294967296 by decide) hv c0
    have n1 := cy_nx hB P v i
    have n2 := cy_dg hB P v i
    have d2 := dg_lt hB (P * v) i
    have c2 := cy_le hB P v (i + 1)
    unfold BT at n1 n2 d2 c2
    have s1 : Int.tdiv (((dg BT P i * v + cyV BT P v i : Nat)) : Int) 10000 = (cyV BT P v (i + 1) : Int) := congrArg (fun z : Nat => (z : Int)) n1
    have s2 : Int.tmod (((dg BT P i * v + cyV BT P v i : Nat)) : Int) 10000 = (dg BT (P * v) i : Int) := congrArg (fun z : Nat => (z : Int)) n2
    have q1 : -9223372036854775808 ≤ (cyV BT P v (i + 1) : Int) ∧ (cyV BT P v (i + 1) : Int) < 9223372036854775808 := by unfold BT; omega
    have q2 : -2147483648 ≤ (dg BT (P * v) i : Int) ∧ (dg BT (P * v) i : Int) < 2147483648 := by unfold BT; omega
    have I := IR_Fr hI F (by decide)
    refine ⟨g2, ?_, r2, r3⟩
    have w1 := px_w_s (show i < 1000000 by omega)
    rw [eq_Mod_times_5]
    simp only [px_rd_mk, px_wr_mk, Int.reduceToNat, Int.toNat_natCast, if_true, if_false, Option.bind_some, px_up_cell, px_up_slot, px_up_eq, ne_eq, Nat.reduceEqDiff, not_false_eq_true, Int.reduceEq, Int.reduceLT, Int.reduceLE, Int.reduceNeg, decide_true, decide_false, Bool.and_true, Bool.true_and, Bool.and_false, Bool.false_and, and_self, and_true, true_and, and_false, false_and, bi_T, bi_F, not_true_eq_false, Bool.false_eq_true, kg_123, ka_157, hlt, ir_123_0 I, ir_123_12 I, ir_123_13 I, ir_123_14 I, ir_123_15 I, ir_123_16 I, ir_123_17 I, ir_123_18 I, ir_123_19 I, ir_123_20 I, ir_123_21 I, ir_123_30 I, ir_123_31 I, ir_123_32 I, ir_123_33 I, ir_123_34 I, ir_123_35 I, ir_123_36 I, ir_123_37 I, ir_123_38 I, ir_123_39 I, ir_123_41 I, ir_123_42 I, ir_123_44 I, ir_123_45 I, ir_123_46 I, ir_123_50 I, ir_123_54 I, ir_123_55 I, ir_123_56 I, ir_123_57 I, ir_123_58 I, ir_123_59 I, ir_123_60 I, ir_123_61 I, ir_123_62 I, gi, vi, t.1, w1, s1, s2, px_wl_n q1, px_w_n q2]
    exact r1
theorem R_timesM {h : hp} {P v : Nat} (hI : IR h) (hv : v ≤ 65536) (hP : PD (h 157) BT 30 P) : ∃ g2 : hp, px_R (mm_Mod_times, 0, [(2, 123), (0, (v : Int)), (9, 0), (9, 0), (9, 0), (9, 0), (9, 0)], [], (K0, h)) = some (0, (K0, g2)) ∧ Fr [157] [] h g2 ∧ PD (g2 157) BT 30 (P * v) := by
  obtain ⟨g, r1, r2⟩ := times_M (P := P) hI hv 30 0 h (9, 0) rfl (Fr_rf _ _ _) (fun j hj => by
    rw [if_neg (by omega)]
    exact hP j hj)
  rw [cy_0] at r1
  refine ⟨g, ?_, r2⟩
  rw [eq_Mod_times_0]
  exact r1
theorem one_C {h : hp} (hI : IR h) (k : Nat) : ∀ (i : Nat) (g : hp), i + k = 11 → Fr [98] [] h g → (∀ j, j < i → g 98 j = 0) → ∃ g2 : hp, px_R (mm_Prod_beOne, 2, [(2, 97), (0, (i : Int))], [], (K0, g)) = some (0, (K0, g2)) ∧ Fr [98] [] h g2 ∧ PD (g2 98) B32 11 1 := by
  induction k with
  | zero =>
    intro i g hi F V
    have : i = 11 := hi
    subst this
    have I := IR_Fr hI F (by decide)
    refine ⟨px_up g 98 0 1, ?_, Fr_up F _ rfl, fun j hj => ?_⟩
    · rw [eq_Prod_beOne_2, if_neg (by decide)]
      simp only [px_rd_mk, px_wr_mk, Int.reduceToNat, Int.toNat_natCast, if_true, if_false, Option.bind_some, px_up_cell, px_up_slot, px_up_eq, ne_eq, Nat.reduceEqDiff, not_false_eq_true, Int.reduceEq, Int.reduceLT, Int.reduceLE, Int.reduceNeg, decide_true, decide_false, Bool.and_true, Bool.true_and, Bool.and_false, Bool.false_and, and_self, and_true, true_and, and_false, false_and, bi_T, bi_F, not_true_eq_false, Bool.false_eq_true, kg_97, ka_98, ir_97_0 I]
    · rw [px_up_at, dg_one (by decide)]
      by_cases e : j = 0
      · rw [if_pos e, if_pos e]
        rfl
      · rw [if_neg e, if_neg e, V j hj]
        rfl
  | succ k ih =>
    intro i g hi F V
    have hlt : ((i : Int) < 11) = True := eq_true (by omega)
    have gi : (decide ((0 : Int) ≤ (i : Int)) && decide ((i : Int) < 11)) = true := gd_ok (by omega)
    have I := IR_Fr hI F (by decide)
    obtain ⟨g2, r1, r2⟩ := ih (i + 1) (px_up g 98 i 0) (by omega) (Fr_up F _ rfl) (fun j hj => by
      rw [px_up_at]
      by_cases e : j = i
      · rw [if_pos e]
      · rw [if_neg e]
        exact V j (by omega))
    refine ⟨g2, ?_, r2⟩
    have w1 := px_w_s (show i < 1000000 by omega)
    rw [eq_Prod_beOne_2]
    simp only [px_rd_mk, px_wr_mk, Int.reduceToNat, Int.toNat_natCast, if_true, if_false, Option.bind_some, px_up_cell, px_up_slot, px_up_eq, ne_eq, Nat.reduceEqDiff, not_false_eq_true, Int.reduceEq, Int.reduceLT, Int.reduceLE, Int.reduceNeg, decide_true, decide_false, Bool.and_true, Bool.true_and, Bool.and_false, Bool.false_and, and_self, and_true, true_and, and_false, false_and, bi_T, bi_F, not_true_eq_false, Bool.false_eq_true, kg_97, ka_98, hlt, ir_97_0 I, gi, w1]
    exact r1
theorem R_oneC {h : hp} (hI : IR h) : ∃ g2 : hp, px_R (mm_Prod_beOne, 0, [(2, 97), (9, 0)], [], (K0, h)) = some (0, (K0, g2)) ∧ Fr [98] [] h g2 ∧ PD (g2 98) B32 11 1 := by
  obtain ⟨g, r1, r2⟩ := one_C hI 11 0 h rfl (Fr_rf _ _ _) (fun j hj => absurd hj (by omega))
  refine ⟨g, ?_, r2⟩
  rw [eq_Prod_beOne_0]
  exact r1
theorem R_oneM {h : hp} (hI : IR h) (x1 x2 : Int) : ∃ g2 : hp, px_R (mm_Mod_lets, 23, [(2, 123), (0, x1), (0, x2), (0, 0), (9, 0)], [], (K0, h)) = px_R (mm_Mod_lets, 52, [(2, 123), (0, x1), (0, x2), (0, 0), (9, 0)], [], (K0, g2)) ∧ Fr [157] [] h g2 ∧ PD (g2 157) BT 30 1 := by
  have lp : ∀ (k i : Nat) (g : hp), i + k = 30 → Fr [157] [] h g → (∀ j, j < i → g 157 j = (dg BT 1 j : Int)) → ∃ g2 : hp, px_R (mm_Mod_lets, 23, [(2, 123), (0, x1), (0, x2), (0, (i : Int)), (9, 0)], [], (K0, g)) = px_R (mm_Mod_lets, 52, [(2, 123), (0, x1), (0, x2), (0, 0), (9, 0)], [], (K0, g2)) ∧ Fr [157] [] h g2 ∧ PD (g2 157) BT 30 1 := by
    intro k
    induction k with
    | zero =>
      intro i g hi F V
      have : i = 30 := hi
      subst this
      refine ⟨g, ?_, F, V⟩
      rw [eq_Mod_lets_23, if_neg (by decide)]
    | succ k ih =>
      intro i g hi F V
      have hlt : ((i : Int) < 30) = True := eq_true (by omega)
      have gi : (decide ((0 : Int) ≤ (i : Int)) && decide ((i : Int) < 30)) = true := gd_ok (by omega)
      have I := IR_Fr hI F (by decide)
      have d1 := dg_one (B := BT) (by decide) i
      have w1 := px_w_s (show i < 1000000 by omega)
      obtain ⟨g2, r1, r2⟩ := ih (i + 1) (px_up g 157 i (dg BT 1 i : Int)) (by omega) (Fr_up F _ rfl) (fun j hj => by
        rw [px_up_at]
        by_cases e : j = i
        · rw [if_pos e, e]
        · rw [if_neg e]
          exact V j (by omega))
      refine ⟨g2, ?_, r2⟩
      rw [eq_Mod_lets_23]
      by_cases e : i = 0
      · have e1 : ((i : Int) = 0) = True := eq_true (by omega)
        rw [if_pos e] at d1
        rw [d1] at r1
        simp only [px_rd_mk, px_wr_mk, Int.reduceToNat, Int.toNat_natCast, if_true, if_false, Option.bind_some, px_up_cell, px_up_slot, px_up_eq, ne_eq, Nat.reduceEqDiff, not_false_eq_true, Int.reduceEq, Int.reduceLT, Int.reduceLE, Int.reduceNeg, decide_true, decide_false, Bool.and_true, Bool.true_and, Bool.and_false, Bool.false_and, and_self, and_true, true_and, and_false, false_and, bi_T, bi_F, not_true_eq_false, Bool.false_eq_true, kg_123, ka_157, hlt, e1, ir_123_0 I, ir_123_12 I, ir_123_13 I, ir_123_14 I, ir_123_15 I, ir_123_16 I, ir_123_17 I, ir_123_18 I, ir_123_19 I, ir_123_20 I, ir_123_21 I, ir_123_30 I, ir_123_31 I, ir_123_32 I, ir_123_33 I, ir_123_34 I, ir_123_35 I, ir_123_36 I, ir_123_37 I, ir_123_38 I, ir_123_39 I, ir_123_41 I, ir_123_42 I, ir_123_44 I, ir_123_45 I, ir_123_46 I, ir_123_50 I, ir_123_54 I, ir_123_55 I, ir_123_56 I, ir_123_57 I, ir_123_58 I, ir_123_59 I, ir_123_60 I, ir_123_61 I, ir_123_62 I, gi, w1]
        exact r1
      · have e1 : ((i : Int) = 0) = False := eq_false (by omega)
        rw [if_neg e] at d1
        rw [d1] at r1
        simp only [px_rd_mk, px_wr_mk, Int.reduceToNat, Int.toNat_natCast, if_true, if_false, Option.bind_some, px_up_cell, px_up_slot, px_up_eq, ne_eq, Nat.reduceEqDiff, not_false_eq_true, Int.reduceEq, Int.reduceLT, Int.reduceLE, Int.reduceNeg, decide_true, decide_false, Bool.and_true, Bool.true_and, Bool.and_false, Bool.false_and, and_self, and_true, true_and, and_false, false_and, bi_T, bi_F, not_true_eq_false, Bool.false_eq_true, kg_123, ka_157, hlt, e1, ir_123_0 I, ir_123_12 I, ir_123_13 I, ir_123_14 I, ir_123_15 I, ir_123_16 I, ir_123_17 I, ir_123_18 I, ir_123_19 I, ir_123_20 I, ir_123_21 I, ir_123_30 I, ir_123_31 I, ir_123_32 I, ir_123_33 I, ir_123_34 I, ir_123_35 I, ir_123_36 I, ir_123_37 I, ir_123_38 I, ir_123_39 I, ir_123_41 I, ir_123_42 I, ir_123_44 I, ir_123_45 I, ir_123_46 I, ir_123_50 I, ir_123_54 I, ir_123_55 I, ir_123_56 I, ir_123_57 I, ir_123_58 I, ir_123_59 I, ir_123_60 I, ir_123_61 I, ir_123_62 I, gi, w1]
        exact r1
  exact lp 30 0 h rfl (Fr_rf _ _ _) (fun j hj => absurd hj (by omega))
theorem R_becomeC {h : hp} {P : Nat} (hI : IR h) (hP : PD (h 98) B32 11 P) : ∃ g2 : hp, px_R (mm_Prod_become, 0, [(2, 99), (2, 97), (9, 0)], [], (K0, h)) = some (0, (K0, g2)) ∧ Fr [100] [] h g2 ∧ PD (g2 100) B32 11 P := by
  have lp : ∀ (k i : Nat) (g : hp), i + k = 11 → Fr [100] [] h g → (∀ j, j < i → g 100 j = (dg B32 P j : Int)) → ∃ g2 : hp, px_R (mm_Prod_become, 2, [(2, 99), (2, 97), (0, (i : Int))], [], (K0, g)) = some (0, (K0, g2)) ∧ Fr [100] [] h g2 ∧ PD (g2 100) B32 11 P := by
    intro k
    induction k with
    | zero =>
      intro i g hi F V
      have : i = 11 := hi
      subst this
      refine ⟨g, ?_, F, V⟩
      rw [eq_Prod_become_2, if_neg (by decide)]
    | succ k ih =>
      intro i g hi F V
      have hlt : ((i : Int) < 11) = True := eq_true (by omega)
      have gi : (decide ((0 : Int) ≤ (i : Int)) && decide ((i : Int) < 11)) = true := gd_ok (by omega)
      have I := IR_Fr hI F (by decide)
      have vi := (F 98 i rfl).trans (hP i (by omega))
      have w1 := px_w_s (show i < 1000000 by omega)
      obtain ⟨g2, r1, r2⟩ := ih (i + 1) (px_up g 100 i (dg B32 P i : Int)) (by omega) (Fr_up F _ rfl) (fun j hj => by
        rw [px_up_at]
        by_cases e : j = i
        · rw [if_pos e, e]
        · rw [if_neg e]
          exact V j (by omega))
      refine ⟨g2, ?_, r2⟩
      rw [eq_Prod_become_2]
      simp only [px_rd_mk, px_wr_mk, Int.reduceToNat, Int.toNat_natCast, if_true, if_false, Option.bind_some, px_up_cell, px_up_slot, px_up_eq, ne_eq, Nat.reduceEqDiff, not_false_eq_true, Int.reduceEq, Int.reduceLT, Int.reduceLE, Int.reduceNeg, decide_true, decide_false, Bool.and_true, Bool.true_and, Bool.and_false, Bool.false_and, and_self, and_true, true_and, and_false, false_and, bi_T, bi_F, not_true_eq_false, Bool.false_eq_true, kg_97, ka_98, kg_99, ka_100, hlt, ir_97_0 I, ir_99_0 I, gi, vi, w1]
      exact r1
  obtain ⟨g, r1, r2⟩ := lp 11 0 h rfl (Fr_rf _ _ _) (fun j hj => absurd hj (by omega))
  refine ⟨g, ?_, r2⟩
  rw [eq_Prod_become_0]
  exact r1
theorem R_becomeM {h : hp} {P : Nat} (hI : IR h) (hP : PD (h 157) BT 30 P) (x1 x2 x3 x4 x5 : Int) {l : Nat} (hl : l < 1000) : ∃ g2 : hp, px_R (mm_Mod_fit, 112, [(2, 123), (0, x1), (0, x2), (0, x3), (0, x4), (0, x5), (0, (l : Int)), (0, 0)], [], (K0, h)) = px_R (mm_Mod_fit, 44, [(2, 123), (0, x1), (0, x2), (0, x3), (0, x4), (0, x5), (0, ((l + 1 : Nat) : Int)), (0, 30)], [], (K0, g2)) ∧ Fr [158] [] h g2 ∧ PD (g2 158) BT 30 P := by
  have lp : ∀ (k i : Nat) (g : hp), i + k = 30 → Fr [158] [] h g → (∀ j, j < i → g 158 j = (dg BT P j : Int)) → ∃ g2 : hp, px_R (mm_Mod_fit, 112, [(2, 123), (0, x1), (0, x2), (0, x3), (0, x4), (0, x5), (0, (l : Int)), (0, (i : Int))], [], (K0, g)) = px_R (mm_Mod_fit, 44, [(2, 123), (0, x1), (0, x2), (0, x3), (0, x4), (0, x5), (0, ((l + 1 : Nat) : Int)), (0, 30)], [], (K0, g2)) ∧ Fr [158] [] h g2 ∧ PD (g2 158) BT 30 P := by
    intro k
    induction k with
    | zero =>
      intro i g hi F V
      have : i = 30 := hi
      subst this
      refine ⟨g, ?_, F, V⟩
      rw [eq_Mod_fit_112, if_neg (by decide), px_w_s (show l < 1000000 by omega)]
      rfl
    | succ k ih =>
      intro i g hi F V
      have hlt : ((i : Int) < 30) = True := eq_true (by omega)
      have gi : (decide ((0 : Int) ≤ (i : Int)) && decide ((i : Int) < 30)) = true := gd_ok (by omega)
      have I := IR_Fr hI F (by decide)
      have vi := (F 157 i rfl).trans (hP i (by omega))
      have w1 := px_w_s (show i < 1000000 by omega)
      obtain ⟨g2, r1, r2⟩ := ih (i + 1) (px_up g 158 i (dg BT P i : Int)) (by omega) (Fr_up F _ rfl) (fun j hj => by
        rw [px_up_at]
        by_cases e : j = i
        · rw [if_pos e, e]
        · rw [if_neg e]
          exact V j (by omega))
      refine ⟨g2, ?_, r2⟩
      rw [eq_Mod_fit_112]
      simp only [px_rd_mk, px_wr_mk, Int.reduceToNat, Int.toNat_natCast, if_true, if_false, Option.bind_some, px_up_cell, px_up_slot, px_up_eq, ne_eq, Nat.reduceEqDiff, not_false_eq_true, Int.reduceEq, Int.reduceLT, Int.reduceLE, Int.reduceNeg, decide_true, decide_false, Bool.and_true, Bool.true_and, Bool.and_false, Bool.false_and, and_self, and_true, true_and, and_false, false_and, bi_T, bi_F, not_true_eq_false, Bool.false_eq_true, kg_123, ka_157, ka_158, hlt, ir_123_0 I, ir_123_12 I, ir_123_13 I, ir_123_14 I, ir_123_15 I, ir_123_16 I, ir_123_17 I, ir_123_18 I, ir_123_19 I, ir_123_20 I, ir_123_21 I, ir_123_30 I, ir_123_31 I, ir_123_32 I, ir_123_33 I, ir_123_34 I, ir_123_35 I, ir_123_36 I, ir_123_37 I, ir_123_38 I, ir_123_39 I, ir_123_41 I, ir_123_42 I, ir_123_44 I, ir_123_45 I, ir_123_46 I, ir_123_50 I, ir_123_54 I, ir_123_55 I, ir_123_56 I, ir_123_57 I, ir_123_58 I, ir_123_59 I, ir_123_60 I, ir_123_61 I, ir_123_62 I, gi, vi, w1]
      exact r1
  exact lp 30 0 h rfl (Fr_rf _ _ _) (fun j hj => absurd hj (by omega))
theorem R_aboveC {h : hp} {P Q : Nat} (hI : IR h) (hP : PD (h 98) B32 11 P) (hQ : PD (h 100) B32 11 Q) (P9 : P < B32 ^ 11) (Q9 : Q < B32 ^ 11) : px_R (mm_Prod_isAbove, 0, [(2, 97), (2, 99), (9, 0)], [], (K0, h)) = some (bi (Q < P), (K0, h)) := by
  have lp : ∀ i : Nat, i ≤ 11 → P / B32 ^ i = Q / B32 ^ i → px_R (mm_Prod_isAbove, 3, [(2, 97), (2, 99), (0, (i : Int) - 1)], [], (K0, h)) = some (bi (Q < P), (K0, h)) := by
    intro i
    induction i with
    | zero =>
      intro _ e
      rw [Nat.pow_zero, Nat.div_one, Nat.div_one] at e
      have c : ¬ (Q < P) := by omega
      rw [eq_Prod_isAbove_3, if_pos (by decide), bi_f c]
    | succ i ih =>
      intro hi e
      have e1 : ((i + 1 : Nat) : Int) - 1 = (i : Int) := by omega
      have u : -2147483648 ≤ (i : Int) + -1 ∧ (i : Int) + -1 < 2147483648 := by omega
      have ue : (i : Int) + -1 = (i : Int) - 1 := by omega
      have hlt : ((i : Int) < 0) = False := eq_false (by omega)
      have gi : (decide ((0 : Int) ≤ (i : Int)) && decide ((i : Int) < 11)) = true := gd_ok (by omega)
      have p := hP i (by omega)
      have q := hQ i (by omega)
      obtain ⟨t1, t2⟩ := dg_top P Q i e
      rw [e1, eq_Prod_isAbove_3]
      by_cases c : dg B32 P i = dg B32 Q i
      · have c0 : (px_cmp (dg B32 P i : Int) (dg B32 Q i : Int) = 0) = True := eq_true (by
          unfold px_cmp
          rw [c, if_neg (Int.lt_irrefl _), if_pos rfl])
        have r := ih (by omega) (t1 c)
        simp only [px_rd_mk, px_wr_mk, Int.reduceToNat, Int.toNat_natCast, if_true, if_false, Option.bind_some, px_up_cell, px_up_slot, px_up_eq, ne_eq, Nat.reduceEqDiff, not_false_eq_true, Int.reduceEq, Int.reduceLT, Int.reduceLE, Int.reduceNeg, decide_true, decide_false, Bool.and_true, Bool.true_and, Bool.and_false, Bool.false_and, and_self, and_true, true_and, and_false, false_and, bi_T, bi_F, not_true_eq_false, Bool.false_eq_true, kg_97, ka_98, kg_99, ka_100, hlt, ir_97_0 hI, ir_99_0 hI, gi, p, q, c0, (px_w_n u).trans ue]
        exact r
      · have t3 := t2 c
        by_cases l : dg B32 Q i < dg B32 P i
        · have v : px_cmp (dg B32 P i : Int) (dg B32 Q i : Int) = 1 := by
            unfold px_cmp
            rw [if_pos (by omega)]
          rw [bi_t (t3.mp l)]
          simp only [px_rd_mk, px_wr_mk, Int.reduceToNat, Int.toNat_natCast, if_true, if_false, Option.bind_some, px_up_cell, px_up_slot, px_up_eq, ne_eq, Nat.reduceEqDiff, not_false_eq_true, Int.reduceEq, Int.reduceLT, Int.reduceLE, Int.reduceNeg, decide_true, decide_false, Bool.and_true, Bool.true_and, Bool.and_false, Bool.false_and, and_self, and_true, true_and, and_false, false_and, bi_T, bi_F, not_true_eq_false, Bool.false_eq_true, kg_97, ka_98, kg_99, ka_100, hlt, ir_97_0 hI, ir_99_0 hI, gi, p, q, v]
        · have v : px_cmp (dg B32 P i : Int) (dg B32 Q i : Int) = -1 := by
            unfold px_cmp
            rw [if_neg (by omega), if_neg (by omega)]
          rw [bi_f (fun z => l (t3.mpr z))]
          simp only [px_rd_mk, px_wr_mk, Int.reduceToNat, Int.toNat_natCast, if_true, if_false, Option.bind_some, px_up_cell, px_up_slot, px_up_eq, ne_eq, Nat.reduceEqDiff, not_false_eq_true, Int.reduceEq, Int.reduceLT, Int.reduceLE, Int.reduceNeg, decide_true, decide_false, Bool.and_true, Bool.true_and, Bool.and_false, Bool.false_and, and_self, and_true, true_and, and_false, false_and, bi_T, bi_F, not_true_eq_false, Bool.false_eq_true, kg_97, ka_98, kg_99, ka_100, hlt, ir_97_0 hI, ir_99_0 hI, gi, p, q, v]
  rw [eq_Prod_isAbove_0]
  exact lp 11 (Nat.le_refl _) (by rw [Nat.div_eq_of_lt P9, Nat.div_eq_of_lt Q9])
theorem R_aboveM {h : hp} {P Q : Nat} (hI : IR h) (hP : PD (h 157) BT 30 P) (hQ : PD (h 158) BT 30 Q) (P9 : P < BT ^ 30) (Q9 : Q < BT ^ 30) : px_R (mm_Mod_isGreater, 0, [(2, 123), (9, 0)], [], (K0, h)) = some (bi (Q < P), (K0, h)) := by
  have lp : ∀ i : Nat, i ≤ 30 → P / BT ^ i = Q / BT ^ i → px_R (mm_Mod_isGreater, 3, [(2, 123), (0, (i : Int) - 1)], [], (K0, h)) = some (bi (Q < P), (K0, h)) := by
    intro i
    induction i with
    | zero =>
      intro _ e
      rw [Nat.pow_zero, Nat.div_one, Nat.div_one] at e
      have c : ¬ (Q < P) := by omega
      rw [eq_Mod_isGreater_3, if_pos (by decide), bi_f c]
    | succ i ih =>
      intro hi e
      have e1 : ((i + 1 : Nat) : Int) - 1 = (i : Int) := by omega
      have u : -2147483648 ≤ (i : Int) + -1 ∧ (i : Int) + -1 < 2147483648 := by omega
      have ue : (i : Int) + -1 = (i : Int) - 1 := by omega
      have hlt : ((i : Int) < 0) = False := eq_false (by omega)
      have gi : (decide ((0 : Int) ≤ (i : Int)) && decide ((i : Int) < 30)) = true := gd_ok (by omega)
      have p := hP i (by omega)
      have q := hQ i (by omega)
      obtain ⟨t1, t2⟩ := dg_top P Q i e
      rw [e1, eq_Mod_isGreater_3]
      by_cases c : dg BT P i = dg BT Q i
      · have c0 : ((dg BT P i : Int) = (dg BT Q i : Int)) = True := eq_true (by rw [c])
        have r := ih (by omega) (t1 c)
        simp only [px_rd_mk, px_wr_mk, Int.reduceToNat, Int.toNat_natCast, if_true, if_false, Option.bind_some, px_up_cell, px_up_slot, px_up_eq, ne_eq, Nat.reduceEqDiff, not_false_eq_true, Int.reduceEq, Int.reduceLT, Int.reduceLE, Int.reduceNeg, decide_true, decide_false, Bool.and_true, Bool.true_and, Bool.and_false, Bool.false_and, and_self, and_true, true_and, and_false, false_and, bi_T, bi_F, not_true_eq_false, Bool.false_eq_true, kg_123, ka_157, ka_158, hlt, ir_123_0 hI, ir_123_12 hI, ir_123_13 hI, ir_123_14 hI, ir_123_15 hI, ir_123_16 hI, ir_123_17 hI, ir_123_18 hI, ir_123_19 hI, ir_123_20 hI, ir_123_21 hI, ir_123_30 hI, ir_123_31 hI, ir_123_32 hI, ir_123_33 hI, ir_123_34 hI, ir_123_35 hI, ir_123_36 hI, ir_123_37 hI, ir_123_38 hI, ir_123_39 hI, ir_123_41 hI, ir_123_42 hI, ir_123_44 hI, ir_123_45 hI, ir_123_46 hI, ir_123_50 hI, ir_123_54 hI, ir_123_55 hI, ir_123_56 hI, ir_123_57 hI, ir_123_58 hI, ir_123_59 hI, ir_123_60 hI, ir_123_61 hI, ir_123_62 hI, gi, p, q, c0, (px_w_n u).trans ue]
        exact r
      · have t3 := t2 c
        have c0 : ((dg BT P i : Int) = (dg BT Q i : Int)) = False := eq_false (by omega)
        by_cases l : dg BT Q i < dg BT P i
        · have v : ((dg BT Q i : Int) < (dg BT P i : Int)) = True := eq_true (by omega)
          rw [bi_t (t3.mp l)]
          simp only [px_rd_mk, px_wr_mk, Int.reduceToNat, Int.toNat_natCast, if_true, if_false, Option.bind_some, px_up_cell, px_up_slot, px_up_eq, ne_eq, Nat.reduceEqDiff, not_false_eq_true, Int.reduceEq, Int.reduceLT, Int.reduceLE, Int.reduceNeg, decide_true, decide_false, Bool.and_true, Bool.true_and, Bool.and_false, Bool.false_and, and_self, and_true, true_and, and_false, false_and, bi_T, bi_F, not_true_eq_false, Bool.false_eq_true, kg_123, ka_157, ka_158, hlt, ir_123_0 hI, ir_123_12 hI, ir_123_13 hI, ir_123_14 hI, ir_123_15 hI, ir_123_16 hI, ir_123_17 hI, ir_123_18 hI, ir_123_19 hI, ir_123_20 hI, ir_123_21 hI, ir_123_30 hI, ir_123_31 hI, ir_123_32 hI, ir_123_33 hI, ir_123_34 hI, ir_123_35 hI, ir_123_36 hI, ir_123_37 hI, ir_123_38 hI, ir_123_39 hI, ir_123_41 hI, ir_123_42 hI, ir_123_44 hI, ir_123_45 hI, ir_123_46 hI, ir_123_50 hI, ir_123_54 hI, ir_123_55 hI, ir_123_56 hI, ir_123_57 hI, ir_123_58 hI, ir_123_59 hI, ir_123_60 hI, ir_123_61 hI, ir_123_62 hI, gi, p, q, c0, v]
        · have v : ((dg BT Q i : Int) < (dg BT P i : Int)) = False := eq_false (by omega)
          rw [bi_f (fun z => l (t3.mpr z))]
          simp only [px_rd_mk, px_wr_mk, Int.reduceToNat, Int.toNat_natCast, if_true, if_false, Option.bind_some, px_up_cell, px_up_slot, px_up_eq, ne_eq, Nat.reduceEqDiff, not_false_eq_true, Int.reduceEq, Int.reduceLT, Int.reduceLE, Int.reduceNeg, decide_true, decide_false, Bool.and_true, Bool.true_and, Bool.and_false, Bool.false_and, and_self, and_true, true_and, and_false, false_and, bi_T, bi_F, not_true_eq_false, Bool.false_eq_true, kg_123, ka_157, ka_158, hlt, ir_123_0 hI, ir_123_12 hI, ir_123_13 hI, ir_123_14 hI, ir_123_15 hI, ir_123_16 hI, ir_123_17 hI, ir_123_18 hI, ir_123_19 hI, ir_123_20 hI, ir_123_21 hI, ir_123_30 hI, ir_123_31 hI, ir_123_32 hI, ir_123_33 hI, ir_123_34 hI, ir_123_35 hI, ir_123_36 hI, ir_123_37 hI, ir_123_38 hI, ir_123_39 hI, ir_123_41 hI, ir_123_42 hI, ir_123_44 hI, ir_123_45 hI, ir_123_46 hI, ir_123_50 hI, ir_123_54 hI, ir_123_55 hI, ir_123_56 hI, ir_123_57 hI, ir_123_58 hI, ir_123_59 hI, ir_123_60 hI, ir_123_61 hI, ir_123_62 hI, gi, p, q, c0, v]
  rw [eq_Mod_isGreater_0]
  exact lp 30 (Nat.le_refl _) (by rw [Nat.div_eq_of_lt P9, Nat.div_eq_of_lt Q9])
