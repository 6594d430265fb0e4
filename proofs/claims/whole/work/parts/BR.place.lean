/-! Reading a street: names and places. -/
def RNc (n kind q : Nat) (c d : hp) : Prop := ∀ a b : Nat, ¬ (a = 2 ∧ 2 ≤ b ∧ b ≤ 6) → ¬ (a = n + 3 + kind ∧ b = q) → d a b = c a b
def RNm (kind q : Nat) (c d : hp) : Prop := ∀ a b : Nat, ¬ (a = 123 ∧ 3 ≤ b ∧ b ≤ 11 ∧ ¬ b = 8 ∧ ¬ b = 9) → ¬ (a = 126 ∧ b = 6 * kind + q) → d a b = c a b
theorem ad6 {kind j : Nat} (hk : kind < 6) (hj : j < 6) : px_w (px_w (6 * (kind : Int)) + (j : Int)) = ((6 * kind + j : Nat) : Int) ∧ 6 * kind + j < 36 := by
  have u6 : -2147483648 ≤ 6 * (kind : Int) ∧ 6 * (kind : Int) < 2147483648 := by omega
  have uj : -2147483648 ≤ 6 * (kind : Int) + (j : Int) ∧ 6 * (kind : Int) + (j : Int) < 2147483648 := by omega
  have e : 6 * (kind : Int) + (j : Int) = ((6 * kind + j : Nat) : Int) := by omega
  refine ⟨?_, by omega⟩
  rw [px_w_n u6, px_w_n uj, e]
theorem mName_end {kind q mx p : Nat} {m1 m2 : hp} {w : Int} (I1 : IR m1) (w10 : m1 123 10 = w) (ad : px_w (px_w (6 * (kind : Int)) + (q : Int)) = (p : Int)) (gp : (decide ((0 : Int) ≤ (p : Int)) && decide ((p : Int) < 36)) = true) (r2 : px_R (mm_Mod_scan, 0, [(2, 123), (9, 0), (9, 0), (9, 0)], [], (K0, px_up m1 126 p w)) = some (0, (K0, m2))) : px_R (mm_Mod_readName, 42, [(2, 123), (0, (kind : Int)), (0, (mx : Int)), (0, (q : Int)), (0, (q : Int))], [], (K0, m1)) = some (1, (K0, m2)) := by
  have k126 : ∀ i, px_ga (K0, m1) 1 126 i = (decide (0 ≤ i) && decide (i < 36)) := fun i => by rw [ka_126]
  rw [eq_Mod_readName_42]
  simp only [px_rd_mk, px_wr_mk, Int.reduceToNat, Int.toNat_natCast, if_true, if_false, Option.bind_some, px_up_cell, px_up_slot, px_up_eq, ne_eq, Nat.reduceEqDiff, not_false_eq_true, Int.reduceEq, Int.reduceLT, Int.reduceLE, Int.reduceNeg, decide_true, decide_false, Bool.and_true, Bool.true_and, Bool.and_false, Bool.false_and, and_self, and_true, true_and, and_false, false_and, bi_T, bi_F, not_true_eq_false, Bool.false_eq_true, kg_123, k126, Int.lt_irrefl, ir_123_13 I1, ad, gp, w10, r2]
theorem mName_mid {kind q mx p j : Nat} {m1 : hp} {w v : Int} (I1 : IR m1) (w10 : m1 123 10 = w) (hlt : ((j : Int) < (q : Int)) = True) (ad : px_w (px_w (6 * (kind : Int)) + (j : Int)) = (p : Int)) (gp : (decide ((0 : Int) ≤ (p : Int)) && decide ((p : Int) < 36)) = true) (hv : m1 126 p = v) (j1 : px_w ((j : Int) + 1) = ((j + 1 : Nat) : Int)) : px_R (mm_Mod_readName, 42, [(2, 123), (0, (kind : Int)), (0, (mx : Int)), (0, (q : Int)), (0, (j : Int))], [], (K0, m1)) = if v = w then some (0, (K0, flM 3 m1)) else px_R (mm_Mod_readName, 42, [(2, 123), (0, (kind : Int)), (0, (mx : Int)), (0, (q : Int)), (0, ((j + 1 : Nat) : Int))], [], (K0, m1)) := by
  have k126 : ∀ i, px_ga (K0, m1) 1 126 i = (decide (0 ≤ i) && decide (i < 36)) := fun i => by rw [ka_126]
  rw [eq_Mod_readName_42]
  by_cases a : v = w
  · have a1 := eq_true a
    rw [if_pos a]
    simp only [px_rd_mk, px_wr_mk, Int.reduceToNat, Int.toNat_natCast, if_true, if_false, Option.bind_some, px_up_cell, px_up_slot, px_up_eq, ne_eq, Nat.reduceEqDiff, not_false_eq_true, Int.reduceEq, Int.reduceLT, Int.reduceLE, Int.reduceNeg, decide_true, decide_false, Bool.and_true, Bool.true_and, Bool.and_false, Bool.false_and, and_self, and_true, true_and, and_false, false_and, bi_T, bi_F, not_true_eq_false, Bool.false_eq_true, kg_123, k126, hlt, ir_123_13 I1, ad, gp, w10, hv, cmp_0, a1, R_fails]
  · have a1 := eq_false a
    rw [if_neg a]
    simp only [px_rd_mk, px_wr_mk, Int.reduceToNat, Int.toNat_natCast, if_true, if_false, Option.bind_some, px_up_cell, px_up_slot, px_up_eq, ne_eq, Nat.reduceEqDiff, not_false_eq_true, Int.reduceEq, Int.reduceLT, Int.reduceLE, Int.reduceNeg, decide_true, decide_false, Bool.and_true, Bool.true_and, Bool.and_false, Bool.false_and, and_self, and_true, true_and, and_false, false_and, bi_T, bi_F, not_true_eq_false, Bool.false_eq_true, kg_123, k126, hlt, ir_123_13 I1, ad, gp, w10, hv, cmp_0, a1, j1]
theorem mName_loop {kind q mx : Nat} {m1 m2 : hp} {L : Nat → Int} {w : Int} (hk : kind < 6) (hq2 : q < 6) (I1 : IR m1) (w10 : m1 123 10 = w) (V : ∀ z, z < q → m1 126 (6 * kind + z) = L z) (r2 : px_R (mm_Mod_scan, 0, [(2, 123), (9, 0), (9, 0), (9, 0)], [], (K0, px_up m1 126 (6 * kind + q) w)) = some (0, (K0, m2))) (r : Nat) : ∀ j : Nat, j + r = q → px_R (mm_Mod_readName, 42, [(2, 123), (0, (kind : Int)), (0, (mx : Int)), (0, (q : Int)), (0, (j : Int))], [], (K0, m1)) = if anf (fun z => decide (L z = w)) j r = true then some (0, (K0, flM 3 m1)) else some (1, (K0, m2)) := by
  induction r with
  | zero =>
    intro j hj
    have : j = q := hj
    subst this
    have a := ad6 hk hq2
    exact mName_end I1 w10 a.1 (gd_ok (by omega)) r2
  | succ r ih =>
    intro j hj
    have a := ad6 hk (show j < 6 by omega)
    have i1 := ih (j + 1) (by omega)
    have md := mName_mid (mx := mx) I1 w10 (show ((j : Int) < (q : Int)) = True from eq_true (by omega)) a.1 (gd_ok (by omega)) (V j (by omega)) (px_w_s (show j < 1000000 by omega))
    rw [md, anf]
    by_cases b : L j = w
    · rw [if_pos b, decide_eq_true b, Bool.true_or, if_pos rfl]
    · rw [if_neg b, decide_eq_false b, Bool.false_or, i1]
theorem jName {n : Nat} (hn : n = 4 ∨ n = 26) {T : Nat → Int} {N kind q mx i : Nat} {c m : hp} (hk : kind < 6) (hq2 : q < mx) (hm6 : mx ≤ 6) (C : TC2 T N c) (iN : i ≤ N) (c4 : c 2 4 = (i : Int)) (cq : c (n + 1) kind = (q : Int)) (M : TM T N m) (m6 : m 123 6 = (i : Int)) (mq : m 125 (9 + kind) = (q : Int)) (V : ∀ z, z < q → m 126 (6 * kind + z) = c (n + 3 + kind) z) : failS n c m (px_R (mm_Str_readName, 0, [(2, (n : Int)), (2, 2), (0, (kind : Int)), (9, 0)], [], (K0, c))) (px_R (mm_Mod_readName, 0, [(2, 123), (0, (kind : Int)), (0, (mx : Int)), (9, 0), (9, 0)], [], (K0, m))) ∨ ∃ (c' m' : hp) (i' s' e' k' : Nat), px_R (mm_Str_readName, 0, [(2, (n : Int)), (2, 2), (0, (kind : Int)), (9, 0)], [], (K0, c)) = some (0, (K0, c')) ∧ px_R (mm_Mod_readName, 0, [(2, 123), (0, (kind : Int)), (0, (mx : Int)), (9, 0), (9, 0)], [], (K0, m)) = some (1, (K0, m')) ∧ i ≤ i' ∧ i' ≤ N ∧ c' 2 4 = (i' : Int) ∧ TK T N i' s' e' k' ∧ SC T s' e' k' m' ∧ RNc n kind q c c' ∧ RNm kind q m m' ∧ m' 126 (6 * kind + q) = c' (n + 3 + kind) q := by
  obtain ⟨s, e, k, c1, t, ct, F1, n1, n2⟩ := sName hn C iN c4 (show kind < 9 by omega) cq (show q < 6 by omega)
  obtain ⟨s1, e1, k1, m1, t1, q1, sc, f1, m11, _, _⟩ := scanT M iN m6
  obtain ⟨rfl, rfl, rfl⟩ := TK_u t t1
  have le := TK_le t
  have I := M.1
  have I1 := FMt_IR I (FTk_FMt f1)
  have M1 := FMt_TM M (FTk_FMt f1)
  have u9 : -2147483648 ≤ 9 + (kind : Int) ∧ 9 + (kind : Int) < 2147483648 := by omega
  have u9e : 9 + (kind : Int) = ((9 + kind : Nat) : Int) := by omega
  have g9 : (decide ((0 : Int) ≤ ((9 + kind : Nat) : Int)) && decide (((9 + kind : Nat) : Int) < 18)) = true := gd_ok (by omega)
  have nq : ((q : Int) = (mx : Int)) = False := eq_false (by omega)
  obtain ⟨d3, d5, d6, d4, d10, d7⟩ := sc
  by_cases k2 : k = 2
  · have n3 := n2 k2
    have w10 := d10 k2
    have d3' : m1 123 3 = 1 := by rw [d3, k2]; rfl
    have start : px_R (mm_Mod_readName, 0, [(2, 123), (0, (kind : Int)), (0, (mx : Int)), (9, 0), (9, 0)], [], (K0, m)) = px_R (mm_Mod_readName, 42, [(2, 123), (0, (kind : Int)), (0, (mx : Int)), (0, (q : Int)), (0, 0)], [], (K0, m1)) := by
      rw [eq_Mod_readName_0]
      simp only [px_rd_mk, px_wr_mk, Int.reduceToNat, Int.toNat_natCast, if_true, if_false, Option.bind_some, px_up_cell, px_up_slot, px_up_eq, ne_eq, Nat.reduceEqDiff, not_false_eq_true, Int.reduceEq, Int.reduceLT, Int.reduceLE, Int.reduceNeg, decide_true, decide_false, Bool.and_true, Bool.true_and, Bool.and_false, Bool.false_and, and_self, and_true, true_and, and_false, false_and, bi_T, bi_F, not_true_eq_false, Bool.false_eq_true, kg_123, ka_125, ir_123_0 I, ir_123_12 I, ir_123_13 I, ir_123_14 I, ir_123_15 I, ir_123_16 I, ir_123_17 I, ir_123_18 I, ir_123_19 I, ir_123_20 I, ir_123_21 I, ir_123_30 I, ir_123_31 I, ir_123_32 I, ir_123_33 I, ir_123_34 I, ir_123_35 I, ir_123_36 I, ir_123_37 I, ir_123_38 I, ir_123_39 I, ir_123_41 I, ir_123_42 I, ir_123_44 I, ir_123_45 I, ir_123_46 I, ir_123_50 I, ir_123_54 I, ir_123_55 I, ir_123_56 I, ir_123_57 I, ir_123_58 I, ir_123_59 I, ir_123_60 I, ir_123_61 I, ir_123_62 I, (px_w_n u9).trans u9e, g9, mq, nq, q1, d3']
    have F2 : FMt m1 (px_up m1 126 (6 * kind + q) (wvl T s (e - s))) := FMt_up (FMt_rf _) _ (by unfold fmt2; omega)
    obtain ⟨s2, e2, k2', m2, r1, r2, r3, r4, r5, _⟩ := scanT (FMt_TM M1 F2) le.2.2.1 ((px_up_cell _ _ _ _ (by decide)).trans d6)
    have lp := mName_loop (mx := mx) (L := fun z => c (n + 3 + kind) z) hk (show q < 6 by omega) I1 w10 (fun z hz => (f1 _ _ (by omega)).trans (V z hz)) r2
    have l0 := lp q 0 (Nat.zero_add q)
    have l0 : px_R (mm_Mod_readName, 42, [(2, 123), (0, (kind : Int)), (0, (mx : Int)), (0, (q : Int)), (0, 0)], [], (K0, m1)) = _ := l0
    rw [n3, start, l0]
    by_cases a : anf (fun z => decide (c (n + 3 + kind) z = wvl T s (e - s))) 0 q = true
    · rw [if_pos a, if_pos a]
      exact Or.inl ⟨3, c1, flM 3 m1, rfl, rfl, by decide, FSt_tss F1, FMt_tr (FTk_FMt f1) (FTw_FMt (flM_F _ _)), (flM_8 _ _).1, by rw [(flM_8 _ _).2, d5, ct.2.1]⟩
    · rw [if_neg a, if_neg a]
      refine Or.inr ⟨_, m2, e, s2, e2, k2', rfl, rfl, by omega, le.2.2.1, (px_up_cell _ _ _ _ (by omega)).trans ct.2.2.1, r1, r3, fun a b h1 h2 => ?_, fun a b h1 h2 => ?_, ?_⟩
      · unfold px_up
        rw [if_neg h2]
        exact tss_o F1 a b h1
      · refine (r4 a b h1).trans ?_
        unfold px_up
        rw [if_neg h2]
        exact f1 a b h1
      · rw [r4 _ _ (by omega), px_up_eq, px_up_eq]
  · rw [n1 k2]
    have d3n : (m1 123 3 = 1) = False := eq_false (by rw [d3]; omega)
    have me : px_R (mm_Mod_readName, 0, [(2, 123), (0, (kind : Int)), (0, (mx : Int)), (9, 0), (9, 0)], [], (K0, m)) = some (0, (K0, flM 1 m1)) := by
      rw [eq_Mod_readName_0]
      simp only [px_rd_mk, px_wr_mk, Int.reduceToNat, Int.toNat_natCast, if_true, if_false, Option.bind_some, px_up_cell, px_up_slot, px_up_eq, ne_eq, Nat.reduceEqDiff, not_false_eq_true, Int.reduceEq, Int.reduceLT, Int.reduceLE, Int.reduceNeg, decide_true, decide_false, Bool.and_true, Bool.true_and, Bool.and_false, Bool.false_and, and_self, and_true, true_and, and_false, false_and, bi_T, bi_F, not_true_eq_false, Bool.false_eq_true, kg_123, ka_125, ir_123_0 I, ir_123_12 I, ir_123_13 I, ir_123_14 I, ir_123_15 I, ir_123_16 I, ir_123_17 I, ir_123_18 I, ir_123_19 I, ir_123_20 I, ir_123_21 I, ir_123_30 I, ir_123_31 I, ir_123_32 I, ir_123_33 I, ir_123_34 I, ir_123_35 I, ir_123_36 I, ir_123_37 I, ir_123_38 I, ir_123_39 I, ir_123_41 I, ir_123_42 I, ir_123_44 I, ir_123_45 I, ir_123_46 I, ir_123_50 I, ir_123_54 I, ir_123_55 I, ir_123_56 I, ir_123_57 I, ir_123_58 I, ir_123_59 I, ir_123_60 I, ir_123_61 I, ir_123_62 I, (px_w_n u9).trans u9e, g9, mq, nq, q1, d3n, R_fails]
    rw [me]
    exact Or.inl ⟨1, c1, flM 1 m1, rfl, rfl, by decide, FSt_tss F1, FMt_tr (FTk_FMt f1) (FTw_FMt (flM_F _ _)), (flM_8 _ _).1, by rw [(flM_8 _ _).2, d5, ct.2.1]⟩
