/-! best. -/
theorem R_change0 (h : hp) (x v : Int) : px_R (mm_Line_change, 0, [(2, 48), (0, 0), (0, x), (0, v), (9, 0)], [], (K0, h)) = some (h 48 0, (K0, px_up h 48 0 v)) := by
  rw [eq_Line_change_0]
  simp only [px_rd_mk, px_wr_mk, Int.reduceToNat, Int.toNat_natCast, if_true, if_false, Option.bind_some, px_up_cell, px_up_slot, px_up_eq, ne_eq, Nat.reduceEqDiff, not_false_eq_true, Int.reduceEq, Int.reduceLT, Int.reduceLE, Int.reduceNeg, decide_true, decide_false, Bool.and_true, Bool.true_and, Bool.and_false, Bool.false_and, and_self, and_true, true_and, and_false, false_and, bi_T, bi_F, not_true_eq_false, Bool.false_eq_true, kg_48]
theorem R_change1 (h : hp) (x v : Int) : px_R (mm_Line_change, 0, [(2, 48), (0, 1), (0, x), (0, v), (9, 0)], [], (K0, h)) = some (h 48 1, (K0, px_up h 48 1 v)) := by
  rw [eq_Line_change_0]
  simp only [px_rd_mk, px_wr_mk, Int.reduceToNat, Int.toNat_natCast, if_true, if_false, Option.bind_some, px_up_cell, px_up_slot, px_up_eq, ne_eq, Nat.reduceEqDiff, not_false_eq_true, Int.reduceEq, Int.reduceLT, Int.reduceLE, Int.reduceNeg, decide_true, decide_false, Bool.and_true, Bool.true_and, Bool.and_false, Bool.false_and, and_self, and_true, true_and, and_false, false_and, bi_T, bi_F, not_true_eq_false, Bool.false_eq_true, kg_48]
theorem R_change5 {h : hp} (I : IR h) {k : Nat} (k4 : k < 4) (hk : (k : Int) < h 48 4) (v : Int) : px_R (mm_Line_change, 0, [(2, 48), (0, 5), (0, (k : Int)), (0, v), (9, 0)], [], (K0, h)) = some (h 49 k, (K0, px_up h 49 k v)) := by
  have c1 : ((k : Int) < 0) = False := eq_false (by omega)
  have c2 : ((k : Int) < h 48 4) = True := eq_true hk
  have gk : (decide ((0 : Int) ≤ (k : Int)) && decide ((k : Int) < 4)) = true := gd_ok (by omega)
  rw [eq_Line_change_0]
  simp only [px_rd_mk, px_wr_mk, Int.reduceToNat, Int.toNat_natCast, if_true, if_false, Option.bind_some, px_up_cell, px_up_slot, px_up_eq, ne_eq, Nat.reduceEqDiff, not_false_eq_true, Int.reduceEq, Int.reduceLT, Int.reduceLE, Int.reduceNeg, decide_true, decide_false, Bool.and_true, Bool.true_and, Bool.and_false, Bool.false_and, and_self, and_true, true_and, and_false, false_and, bi_T, bi_F, not_true_eq_false, Bool.false_eq_true, kg_48, ka_49, ir_48_5 I, ir_48_7 I, c1, c2, gk]
def woV (W N : Nat) (L : Nat → Nat → Int) : Int := mnS (2 ^ W - 1) (rtV W N L (2 ^ W - 1)) W
theorem woV_rng {W N : Nat} (hN : N ≤ 3) (L : Nat → Nat → Int) : 0 ≤ woV W N L ∧ woV W N L ≤ 65536 := mnS_rng W fun w _ => tkS_rng hN L _ w w
theorem lvl_48 {n : Nat} (hn : n = 4 ∨ n = 26) {h g : hp} {cs : List Nat} {ss : List (Nat × Nat)} (F : Fr cs ss h g) (e : (frf 4 48 cs ss && fdj cs ss [49, 50] [(48, 3), (48, 4), (48, 6)]) = true) (s t y : Nat) : lvl n g s t y = lvl n h s t y := funext fun w => funext fun b => lvl_F hn F e s t y w b
theorem R_bestStuff {n : Nat} {h : hp} (h8 : h 1 8 = (n : Int)) (C : LC n h) {s t y : Nat} (h0 : h 48 0 = (s : Int)) (hs : (s : Int) < h (n + 1) 0) (h1 : h 48 1 = (t : Int)) (ht : (t : Int) < h (n + 1) 1) (h2 : h 48 2 = (y : Int)) (hy : y ≤ 400) {W N : Nat} (hW : h (n + 1) 2 = (W : Int)) (hN : h (n + 21) 0 = (N : Int)) (hW1 : 1 ≤ W) {K : Nat} (hK : h (n + 1) 0 = (K : Int)) : ∃ g : hp, px_R (mm_Tin_bestOf, 0, [(2, 1), (0, 0), (0, 0), (9, 0), (9, 0), (9, 0), (9, 0), (9, 0)], [], (K0, h)) = some ((bst (fun i => woV W N (lvl n h i t y)) K).2, (K0, g)) ∧ Fr xcs [(51, 0), (51, 1), (51, 5)] h g := by
  have hn := C.1
  have c2 := ST_n C.2.2.1 (k := 2) (by decide)
  have W6 : W ≤ 6 := by omega
  have N3 := C.2.2.1.2.2.2.2.1
  have cK := ST_n C.2.2.1 (k := 0) (by decide)
  have T64 := all_lt W6
  have lp := px_lp (fun z : List pv × hp => px_R (mm_Tin_bestOf, 20, z.1, [], (K0, z.2))) (fun i z => (∃ y5 : pv, z.1 = [(2, 1), (0, 0), (0, 0), (0, h 48 0), (0, (bst (fun i => woV W N (lvl n h i t y)) i).1), (0, (bst (fun i => woV W N (lvl n h i t y)) i).2), (0, (i : Int)), y5]) ∧ Fr xcs [(48, 0), (51, 0), (51, 1), (51, 5)] h z.2) K (by
    rintro i ⟨ls, g⟩ hi ⟨⟨y5, e1⟩, F⟩
    simp only at e1 F
    subst e1
    have F1 : Fr xcs [(48, 0), (51, 0), (51, 1), (51, 5)] h (px_up g 48 0 (i : Int)) := Fr_up F _ rfl
    have Cg := LC_F C F (by decide) rfl rfl
    have C1 := LC_F C F1 (by decide) rfl rfl
    have f1 := Fr_st hn F1 rfl (n + 1) (by omega) (by omega)
    have f21 := Fr_st hn F1 rfl (n + 21) (by omega) (by omega)
    have f1g := Fr_st hn F rfl (n + 1) (by omega) (by omega)
    have hlt : ((i : Int) < (K : Int)) = True := eq_true (by omega)
    have gq : g (n + 1) 0 = (K : Int) := by rw [f1g]; exact hK
    obtain ⟨v, g2, l1, l2, l3, _, _⟩ := R_learn C1 (s := i) (t := t) (y := y) rfl (by rw [f1]; omega) ((F1 48 1 rfl).trans h1) (by rw [f1]; exact ht) ((F1 48 2 rfl).trans h2) hy (W := W) (N := N) (by rw [f1]; exact hW) (by rw [f21]; exact hN)
    rw [lvl_48 hn F1 rfl] at l3
    have l2h := Fr_tr F1 l2
    have g28 : g2 1 8 = (n : Int) := (l2h 1 8 rfl).trans h8
    have aw := R_tallWords hn g28 l3.2.2.1 (W := W) (by rw [Fr_st hn l2h rfl (n + 1) (by omega) (by omega)]; exact hW) W6
    obtain ⟨v3, g3, m1, m2, m3⟩ := R_leastOf l3 (T := 2 ^ W - 1) (by omega) (e := (bst (fun i => woV W N (lvl n h i t y)) i).1)
    have ok := least_ok m3
    have F3 : Fr xcs [(48, 0), (51, 0), (51, 1), (51, 5)] h g3 := Fr_sub (Fr_tr l2h m2) rfl rfl
    have st : px_R (mm_Tin_bestOf, 20, [(2, 1), (0, 0), (0, 0), (0, h 48 0), (0, (bst (fun i => woV W N (lvl n h i t y)) i).1), (0, (bst (fun i => woV W N (lvl n h i t y)) i).2), (0, (i : Int)), y5], [], (K0, g)) = if (bst (fun i => woV W N (lvl n h i t y)) i).1 < v3 then px_R (mm_Tin_bestOf, 20, [(2, 1), (0, 0), (0, 0), (0, h 48 0), (0, v3), (0, (i : Int)), (0, ((i + 1 : Nat) : Int)), (0, v3)], [], (K0, g3)) else px_R (mm_Tin_bestOf, 20, [(2, 1), (0, 0), (0, 0), (0, h 48 0), (0, (bst (fun i => woV W N (lvl n h i t y)) i).1), (0, (bst (fun i => woV W N (lvl n h i t y)) i).2), (0, ((i + 1 : Nat) : Int)), (0, v3)], [], (K0, g3)) := by
      rw [eq_Tin_bestOf_20]
      simp only [px_rd_mk, px_wr_mk, Int.reduceToNat, Int.toNat_natCast, if_true, if_false, Option.bind_some, px_up_cell, px_up_slot, px_up_eq, ne_eq, Nat.reduceEqDiff, not_false_eq_true, Int.reduceEq, Int.reduceLT, Int.reduceLE, Int.reduceNeg, decide_true, decide_false, Bool.and_true, Bool.true_and, Bool.and_false, Bool.false_and, and_self, and_true, true_and, and_false, false_and, bi_T, bi_F, not_true_eq_false, Bool.false_eq_true, kg_1, kg_48, kg_51, (F 1 8 rfl).trans h8, sgo hn, sr1 hn Cg.2.1, sga1 hn, gq, hlt, ir_1_0 Cg.2.1, ir_1_1 Cg.2.1, ir_1_2 Cg.2.1, ir_1_3 Cg.2.1, ir_1_4 Cg.2.1, ir_1_5 Cg.2.1, ir_1_6 Cg.2.1, ir_1_7 Cg.2.1, R_change0, l1, aw, ir_1_0 l3.2.2.1, ir_1_1 l3.2.2.1, ir_1_2 l3.2.2.1, ir_1_3 l3.2.2.1, ir_1_4 l3.2.2.1, ir_1_5 l3.2.2.1, ir_1_6 l3.2.2.1, ir_1_7 l3.2.2.1, m1, px_w_s (show i < 1000000 by omega)]
    by_cases c : (bst (fun i => woV W N (lvl n h i t y)) i).1 < v3
    · have ev : v3 = woV W N (lvl n h i t y) := ok.2 c
      have c5 : (bst (fun i => woV W N (lvl n h i t y)) i).1 < woV W N (lvl n h i t y) := ok.1.mp c
      have eb : bst (fun i => woV W N (lvl n h i t y)) (i + 1) = (v3, (i : Int)) := by
        rw [bst]
        rw [if_pos c5]
        exact congrArg (fun z => (z, (i : Int))) ev.symm
      refine ⟨([(2, 1), (0, 0), (0, 0), (0, h 48 0), (0, v3), (0, (i : Int)), (0, ((i + 1 : Nat) : Int)), (0, v3)], g3), ?_, ⟨_, by rw [eb]⟩, F3⟩
      show px_R (mm_Tin_bestOf, 20, _, [], (K0, g)) = _
      rw [st, if_pos c]
    · have nc : ¬ (bst (fun i => woV W N (lvl n h i t y)) i).1 < woV W N (lvl n h i t y) := fun z => c (ok.1.mpr z)
      have eb : bst (fun i => woV W N (lvl n h i t y)) (i + 1) = bst (fun i => woV W N (lvl n h i t y)) i := by
        rw [bst]
        rw [if_neg nc]
      refine ⟨([(2, 1), (0, 0), (0, 0), (0, h 48 0), (0, (bst (fun i => woV W N (lvl n h i t y)) i).1), (0, (bst (fun i => woV W N (lvl n h i t y)) i).2), (0, ((i + 1 : Nat) : Int)), (0, v3)], g3), ?_, ⟨_, by rw [eb]⟩, F3⟩
      show px_R (mm_Tin_bestOf, 20, _, [], (K0, g)) = _
      rw [st, if_neg c]) K 0
  obtain ⟨⟨ls, g⟩, f1, ⟨y5, f2⟩, F⟩ := lp ([(2, 1), (0, 0), (0, 0), (0, h 48 0), (0, -1), (0, -1), (0, 0), (9, 0)], px_up h 48 0 0) (Nat.zero_add K) ⟨⟨_, rfl⟩, Fr_up (Fr_rf _ _ _) _ rfl⟩
  simp only at f1 f2 F
  subst f2
  have Cg := LC_F C F (by decide) rfl rfl
  have gq : g (n + 1) 0 = (K : Int) := by rw [Fr_st hn F rfl (n + 1) (by omega) (by omega)]; exact hK
  have hlt : ((K : Int) < (K : Int)) = False := eq_false (by omega)
  have Fend : Fr xcs [(48, 0), (51, 0), (51, 1), (51, 5)] h (px_up g 48 0 (h 48 0)) := Fr_up F _ rfl
  refine ⟨px_up g 48 0 (h 48 0), ?_, Fr_del Fend (px_up_eq _ _ _ _)⟩
  rw [eq_Tin_bestOf_0]
  simp only [px_rd_mk, px_wr_mk, Int.reduceToNat, Int.toNat_natCast, if_true, if_false, Option.bind_some, px_up_cell, px_up_slot, px_up_eq, ne_eq, Nat.reduceEqDiff, not_false_eq_true, Int.reduceEq, Int.reduceLT, Int.reduceLE, Int.reduceNeg, decide_true, decide_false, Bool.and_true, Bool.true_and, Bool.and_false, Bool.false_and, and_self, and_true, true_and, and_false, false_and, bi_T, bi_F, not_true_eq_false, Bool.false_eq_true, kg_1, kg_48, ir_1_0 C.2.1, ir_1_1 C.2.1, ir_1_2 C.2.1, ir_1_3 C.2.1, ir_1_4 C.2.1, ir_1_5 C.2.1, ir_1_6 C.2.1, ir_1_7 C.2.1, R_change0]
  rw [f1, eq_Tin_bestOf_20]
  simp only [px_rd_mk, px_wr_mk, Int.reduceToNat, Int.toNat_natCast, if_true, if_false, Option.bind_some, px_up_cell, px_up_slot, px_up_eq, ne_eq, Nat.reduceEqDiff, not_false_eq_true, Int.reduceEq, Int.reduceLT, Int.reduceLE, Int.reduceNeg, decide_true, decide_false, Bool.and_true, Bool.true_and, Bool.and_false, Bool.false_and, and_self, and_true, true_and, and_false, false_and, bi_T, bi_F, not_true_eq_false, Bool.false_eq_true, kg_1, kg_48, (F 1 8 rfl).trans h8, sgo hn, sr1 hn Cg.2.1, sga1 hn, gq, hlt, ir_1_0 Cg.2.1, ir_1_1 Cg.2.1, ir_1_2 Cg.2.1, ir_1_3 Cg.2.1, ir_1_4 Cg.2.1, ir_1_5 Cg.2.1, ir_1_6 Cg.2.1, ir_1_7 Cg.2.1, R_change0]
theorem R_mbestStuff {n : Nat} {h : hp} (C : LC n h) {s t y : Nat} (h0 : h 123 24 = (s : Int)) (hs : (s : Int) < h (n + 1) 0) (h1 : h 123 25 = (t : Int)) (ht : (t : Int) < h (n + 1) 1) (h2 : h 123 26 = (y : Int)) (hy : y ≤ 400) {W N : Nat} (hW : h (n + 1) 2 = (W : Int)) (hN : h (n + 21) 0 = (N : Int)) (hW1 : 1 ≤ W) {K : Nat} (hK : h (n + 1) 0 = (K : Int)) : ∃ g : hp, px_R (mm_Mod_best, 40, [(2, 123), (0, 0), (0, -1), (0, 0), (0, 0), (9, 0)], [], (K0, h)) = some ((bst (fun i => woV W N (lvl n h i t y)) K).2, (K0, g)) ∧ Fr [137, 138, 139] [] h g := by
  have hn := C.1
  have c2 := ST_n C.2.2.1 (k := 2) (by decide)
  have W6 : W ≤ 6 := by omega
  have N3 := C.2.2.1.2.2.2.2.1
  have cK := ST_n C.2.2.1 (k := 0) (by decide)
  have T64 := all_lt W6
  have lp := px_lp (fun z : List pv × hp => px_R (mm_Mod_best, 40, z.1, [], (K0, z.2))) (fun i z => (∃ y5 : pv, z.1 = [(2, 123), (0, 0), (0, (bst (fun i => woV W N (lvl n h i t y)) i).2), (0, if i = 0 then 0 else (bst (fun i => woV W N (lvl n h i t y)) i).1), (0, (i : Int)), y5]) ∧ Fr [137, 138, 139] [] h z.2) K (by
    rintro i ⟨ls, g⟩ hi ⟨⟨y5, e1⟩, F⟩
    simp only at e1 F
    subst e1
    have Cg := LC_F C F (by decide) rfl rfl
    have f1 := Fr_st hn F rfl (n + 1) (by omega) (by omega)
    have f21 := Fr_st hn F rfl (n + 21) (by omega) (by omega)
    have hlt : ((i : Int) < (K : Int)) = True := eq_true (by omega)
    have gq : g 125 0 = (K : Int) := (F 125 0 rfl).trans (cK.1.trans hK)
    obtain ⟨k1, m1, G1, M1⟩ := R_makeMC (LC_LD Cg) (s := i) (t := t) (y := y) (by rw [f1]; omega) (by rw [f1]; exact ht) hy (W := W) (N := N) (by rw [f1]; exact hW) (by rw [f21]; exact hN)
    rw [lvl_48 hn F rfl] at M1
    have inA := (fx_all ⟨W, by omega⟩).2 ⟨0, by omega⟩ hW1
    obtain ⟨k2, m2, G2⟩ := R_worst M1 (T := 2 ^ W - 1) (by omega) (a2 := 0) hW1 inA
    have F3 : Fr [137, 138, 139] [] h k2 := Fr_sub (Fr_tr (Fr_tr F G1) G2) rfl rfl
    have m2 : px_R (mm_Mod_worst, 0, [(2, 123), (0, ((2 ^ W - 1 : Nat) : Int)), (9, 0), (9, 0), (9, 0)], [], (K0, k1)) = some (woV W N (lvl n h i t y), (K0, k2)) := m2
    have aw := R_mallWords M1.2.2.1 M1.2.2.2.1 W6
    have wr := woV_rng (W := W) (show N ≤ 3 by omega) (lvl n h i t y)
    have st : px_R (mm_Mod_best, 40, [(2, 123), (0, 0), (0, (bst (fun i => woV W N (lvl n h i t y)) i).2), (0, if i = 0 then 0 else (bst (fun i => woV W N (lvl n h i t y)) i).1), (0, (i : Int)), y5], [], (K0, g)) = if (bst (fun i => woV W N (lvl n h i t y)) i).2 = -1 then px_R (mm_Mod_best, 40, [(2, 123), (0, 0), (0, (i : Int)), (0, woV W N (lvl n h i t y)), (0, ((i + 1 : Nat) : Int)), (0, woV W N (lvl n h i t y))], [], (K0, k2)) else if (if i = 0 then 0 else (bst (fun i => woV W N (lvl n h i t y)) i).1) < woV W N (lvl n h i t y) then px_R (mm_Mod_best, 40, [(2, 123), (0, 0), (0, (i : Int)), (0, woV W N (lvl n h i t y)), (0, ((i + 1 : Nat) : Int)), (0, woV W N (lvl n h i t y))], [], (K0, k2)) else px_R (mm_Mod_best, 40, [(2, 123), (0, 0), (0, (bst (fun i => woV W N (lvl n h i t y)) i).2), (0, if i = 0 then 0 else (bst (fun i => woV W N (lvl n h i t y)) i).1), (0, ((i + 1 : Nat) : Int)), (0, woV W N (lvl n h i t y))], [], (K0, k2)) := by
      rw [eq_Mod_best_40]
      simp only [px_rd_mk, px_wr_mk, Int.reduceToNat, Int.toNat_natCast, if_true, if_false, Option.bind_some, px_up_cell, px_up_slot, px_up_eq, ne_eq, Nat.reduceEqDiff, not_false_eq_true, Int.reduceEq, Int.reduceLT, Int.reduceLE, Int.reduceNeg, decide_true, decide_false, Bool.and_true, Bool.true_and, Bool.and_false, Bool.false_and, and_self, and_true, true_and, and_false, false_and, bi_T, bi_F, not_true_eq_false, Bool.false_eq_true, kg_123, ka_125, ir_123_0 Cg.2.1, ir_123_12 Cg.2.1, ir_123_13 Cg.2.1, ir_123_14 Cg.2.1, ir_123_15 Cg.2.1, ir_123_16 Cg.2.1, ir_123_17 Cg.2.1, ir_123_18 Cg.2.1, ir_123_19 Cg.2.1, ir_123_20 Cg.2.1, ir_123_21 Cg.2.1, ir_123_30 Cg.2.1, ir_123_31 Cg.2.1, ir_123_32 Cg.2.1, ir_123_33 Cg.2.1, ir_123_34 Cg.2.1, ir_123_35 Cg.2.1, ir_123_36 Cg.2.1, ir_123_37 Cg.2.1, ir_123_38 Cg.2.1, ir_123_39 Cg.2.1, ir_123_41 Cg.2.1, ir_123_42 Cg.2.1, ir_123_44 Cg.2.1, ir_123_45 Cg.2.1, ir_123_46 Cg.2.1, ir_123_50 Cg.2.1, ir_123_54 Cg.2.1, ir_123_55 Cg.2.1, ir_123_56 Cg.2.1, ir_123_57 Cg.2.1, ir_123_58 Cg.2.1, ir_123_59 Cg.2.1, ir_123_60 Cg.2.1, ir_123_61 Cg.2.1, ir_123_62 Cg.2.1, gq, hlt]
      rw [eq_Mod_best_79]
      simp only [px_rd_mk, px_wr_mk, Int.reduceToNat, Int.toNat_natCast, if_true, if_false, Option.bind_some, px_up_cell, px_up_slot, px_up_eq, ne_eq, Nat.reduceEqDiff, not_false_eq_true, Int.reduceEq, Int.reduceLT, Int.reduceLE, Int.reduceNeg, decide_true, decide_false, Bool.and_true, Bool.true_and, Bool.and_false, Bool.false_and, and_self, and_true, true_and, and_false, false_and, bi_T, bi_F, not_true_eq_false, Bool.false_eq_true, kg_123, (F 123 24 rfl).trans h0, (F 123 25 rfl).trans h1, (F 123 26 rfl).trans h2, m1, aw, m2, px_w_s (show i < 1000000 by omega)]
    by_cases z : i = 0
    · subst z
      have eb : bst (fun i => woV W N (lvl n h i t y)) (0 + 1) = (woV W N (lvl n h 0 t y), ((0 : Nat) : Int)) := by
        show (if (-1 : Int) < woV W N (lvl n h 0 t y) then _ else _) = _
        rw [if_pos (by omega)]
      refine ⟨([(2, 123), (0, 0), (0, ((0 : Nat) : Int)), (0, woV W N (lvl n h 0 t y)), (0, ((0 + 1 : Nat) : Int)), (0, woV W N (lvl n h 0 t y))], k2), ?_, ⟨(0, woV W N (lvl n h 0 t y)), by rw [eb]; rfl⟩, F3⟩
      show px_R (mm_Mod_best, 40, _, [], (K0, g)) = _
      rw [st, if_pos (show (bst (fun i => woV W N (lvl n h i t y)) 0).2 = -1 from rfl)]
    · have b2 : 0 ≤ (bst (fun i => woV W N (lvl n h i t y)) i).2 := by
        have := bst_0 (f := fun i => woV W N (lvl n h i t y)) (woV_rng (W := W) (show N ≤ 3 by omega) _).1 (i - 1)
        rw [show i - 1 + 1 = i by omega] at this
        exact this
      rw [if_neg (show ¬ (bst (fun i => woV W N (lvl n h i t y)) i).2 = -1 by omega), if_neg z] at st
      by_cases c : (bst (fun i => woV W N (lvl n h i t y)) i).1 < woV W N (lvl n h i t y)
      · have eb : bst (fun i => woV W N (lvl n h i t y)) (i + 1) = (woV W N (lvl n h i t y), (i : Int)) := by
          rw [bst]
          rw [if_pos c]
        rw [if_pos c] at st
        refine ⟨([(2, 123), (0, 0), (0, (i : Int)), (0, woV W N (lvl n h i t y)), (0, ((i + 1 : Nat) : Int)), (0, woV W N (lvl n h i t y))], k2), ?_, ⟨_, by rw [eb, if_neg (Nat.succ_ne_zero i)]⟩, F3⟩
        show px_R (mm_Mod_best, 40, [(2, 123), (0, 0), (0, (bst (fun i => woV W N (lvl n h i t y)) i).2), (0, if i = 0 then 0 else (bst (fun i => woV W N (lvl n h i t y)) i).1), (0, (i : Int)), y5], [], (K0, g)) = _
        rw [if_neg z]
        exact st
      · have eb : bst (fun i => woV W N (lvl n h i t y)) (i + 1) = bst (fun i => woV W N (lvl n h i t y)) i := by
          rw [bst]
          rw [if_neg c]
        rw [if_neg c] at st
        refine ⟨([(2, 123), (0, 0), (0, (bst (fun i => woV W N (lvl n h i t y)) i).2), (0, (bst (fun i => woV W N (lvl n h i t y)) i).1), (0, ((i + 1 : Nat) : Int)), (0, woV W N (lvl n h i t y))], k2), ?_, ⟨_, by rw [eb, if_neg (Nat.succ_ne_zero i)]⟩, F3⟩
        show px_R (mm_Mod_best, 40, [(2, 123), (0, 0), (0, (bst (fun i => woV W N (lvl n h i t y)) i).2), (0, if i = 0 then 0 else (bst (fun i => woV W N (lvl n h i t y)) i).1), (0, (i : Int)), y5], [], (K0, g)) = _
        rw [if_neg z]
        exact st) K 0
  obtain ⟨⟨ls, g⟩, f1, ⟨y5, f2⟩, F⟩ := lp ([(2, 123), (0, 0), (0, -1), (0, 0), (0, 0), (9, 0)], h) (Nat.zero_add K) ⟨⟨(9, 0), rfl⟩, Fr_rf _ _ _⟩
  simp only at f1 f2 F
  subst f2
  refine ⟨g, ?_, F⟩
  have Cg := LC_F C F (by decide) rfl rfl
  have gq : g 125 0 = (K : Int) := (F 125 0 rfl).trans (cK.1.trans hK)
  have hlt : ((K : Int) < (K : Int)) = False := eq_false (by omega)
  rw [f1, eq_Mod_best_40]
  simp only [px_rd_mk, px_wr_mk, Int.reduceToNat, Int.toNat_natCast, if_true, if_false, Option.bind_some, px_up_cell, px_up_slot, px_up_eq, ne_eq, Nat.reduceEqDiff, not_false_eq_true, Int.reduceEq, Int.reduceLT, Int.reduceLE, Int.reduceNeg, decide_true, decide_false, Bool.and_true, Bool.true_and, Bool.and_false, Bool.false_and, and_self, and_true, true_and, and_false, false_and, bi_T, bi_F, not_true_eq_false, Bool.false_eq_true, kg_123, ka_125, ir_123_0 Cg.2.1, ir_123_12 Cg.2.1, ir_123_13 Cg.2.1, ir_123_14 Cg.2.1, ir_123_15 Cg.2.1, ir_123_16 Cg.2.1, ir_123_17 Cg.2.1, ir_123_18 Cg.2.1, ir_123_19 Cg.2.1, ir_123_20 Cg.2.1, ir_123_21 Cg.2.1, ir_123_30 Cg.2.1, ir_123_31 Cg.2.1, ir_123_32 Cg.2.1, ir_123_33 Cg.2.1, ir_123_34 Cg.2.1, ir_123_35 Cg.2.1, ir_123_36 Cg.2.1, ir_123_37 Cg.2.1, ir_123_38 Cg.2.1, ir_123_39 Cg.2.1, ir_123_41 Cg.2.1, ir_123_42 Cg.2.1, ir_123_44 Cg.2.1, ir_123_45 Cg.2.1, ir_123_46 Cg.2.1, ir_123_50 Cg.2.1, ir_123_54 Cg.2.1, ir_123_55 Cg.2.1, ir_123_56 Cg.2.1, ir_123_57 Cg.2.1, ir_123_58 Cg.2.1, ir_123_59 Cg.2.1, ir_123_60 Cg.2.1, ir_123_61 Cg.2.1, ir_123_62 Cg.2.1, gq, hlt]
theorem R_bestTin {n : Nat} {h : hp} (h8 : h 1 8 = (n : Int)) (C : LC n h) {s t y : Nat} (h0 : h 48 0 = (s : Int)) (hs : (s : Int) < h (n + 1) 0) (h1 : h 48 1 = (t : Int)) (ht : (t : Int) < h (n + 1) 1) (h2 : h 48 2 = (y : Int)) (hy : y ≤ 400) {W N : Nat} (hW : h (n + 1) 2 = (W : Int)) (hN : h (n + 21) 0 = (N : Int)) (hW1 : 1 ≤ W) {K : Nat} (hK : h (n + 1) 1 = (K : Int)) : ∃ g : hp, px_R (mm_Tin_bestOf, 0, [(2, 1), (0, 1), (0, 0), (9, 0), (9, 0), (9, 0), (9, 0), (9, 0)], [], (K0, h)) = some ((bst (fun i => woV W N (lvl n h s i y)) K).2, (K0, g)) ∧ Fr xcs [(51, 0), (51, 1), (51, 5)] h g := by
  have hn := C.1
  have c2 := ST_n C.2.2.1 (k := 2) (by decide)
  have W6 : W ≤ 6 := by omega
  have N3 := C.2.2.1.2.2.2.2.1
  have cK := ST_n C.2.2.1 (k := 1) (by decide)
  have T64 := all_lt W6
  have lp := px_lp (fun z : List pv × hp => px_R (mm_Tin_bestOf, 20, z.1, [], (K0, z.2))) (fun i z => (∃ y5 : pv, z.1 = [(2, 1), (0, 1), (0, 0), (0, h 48 1), (0, (bst (fun i => woV W N (lvl n h s i y)) i).1), (0, (bst (fun i => woV W N (lvl n h s i y)) i).2), (0, (i : Int)), y5]) ∧ Fr xcs [(48, 1), (51, 0), (51, 1), (51, 5)] h z.2) K (by
    rintro i ⟨ls, g⟩ hi ⟨⟨y5, e1⟩, F⟩
    simp only at e1 F
    subst e1
    have F1 : Fr xcs [(48, 1), (51, 0), (51, 1), (51, 5)] h (px_up g 48 1 (i : Int)) := Fr_up F _ rfl
    have Cg := LC_F C F (by decide) rfl rfl
    have C1 := LC_F C F1 (by decide) rfl rfl
    have f1 := Fr_st hn F1 rfl (n + 1) (by omega) (by omega)
    have f21 := Fr_st hn F1 rfl (n + 21) (by omega) (by omega)
    have f1g := Fr_st hn F rfl (n + 1) (by omega) (by omega)
    have hlt : ((i : Int) < (K : Int)) = True := eq_true (by omega)
    have gq : g (n + 1) 1 = (K : Int) := by rw [f1g]; exact hK
    obtain ⟨v, g2, l1, l2, l3, _, _⟩ := R_learn C1 (s := s) (t := i) (y := y) ((F1 48 0 rfl).trans h0) (by rw [f1]; exact hs) rfl (by rw [f1]; omega) ((F1 48 2 rfl).trans h2) hy (W := W) (N := N) (by rw [f1]; exact hW) (by rw [f21]; exact hN)
    rw [lvl_48 hn F1 rfl] at l3
    have l2h := Fr_tr F1 l2
    have g28 : g2 1 8 = (n : Int) := (l2h 1 8 rfl).trans h8
    have aw := R_tallWords hn g28 l3.2.2.1 (W := W) (by rw [Fr_st hn l2h rfl (n + 1) (by omega) (by omega)]; exact hW) W6
    obtain ⟨v3, g3, m1, m2, m3⟩ := R_leastOf l3 (T := 2 ^ W - 1) (by omega) (e := (bst (fun i => woV W N (lvl n h s i y)) i).1)
    have ok := least_ok m3
    have F3 : Fr xcs [(48, 1), (51, 0), (51, 1), (51, 5)] h g3 := Fr_sub (Fr_tr l2h m2) rfl rfl
    have st : px_R (mm_Tin_bestOf, 20, [(2, 1), (0, 1), (0, 0), (0, h 48 1), (0, (bst (fun i => woV W N (lvl n h s i y)) i).1), (0, (bst (fun i => woV W N (lvl n h s i y)) i).2), (0, (i : Int)), y5], [], (K0, g)) = if (bst (fun i => woV W N (lvl n h s i y)) i).1 < v3 then px_R (mm_Tin_bestOf, 20, [(2, 1), (0, 1), (0, 0), (0, h 48 1), (0, v3), (0, (i : Int)), (0, ((i + 1 : Nat) : Int)), (0, v3)], [], (K0, g3)) else px_R (mm_Tin_bestOf, 20, [(2, 1), (0, 1), (0, 0), (0, h 48 1), (0, (bst (fun i => woV W N (lvl n h s i y)) i).1), (0, (bst (fun i => woV W N (lvl n h s i y)) i).2), (0, ((i + 1 : Nat) : Int)), (0, v3)], [], (K0, g3)) := by
      rw [eq_Tin_bestOf_20]
      simp only [px_rd_mk, px_wr_mk, Int.reduceToNat, Int.toNat_natCast, if_true, if_false, Option.bind_some, px_up_cell, px_up_slot, px_up_eq, ne_eq, Nat.reduceEqDiff, not_false_eq_true, Int.reduceEq, Int.reduceLT, Int.reduceLE, Int.reduceNeg, decide_true, decide_false, Bool.and_true, Bool.true_and, Bool.and_false, Bool.false_and, and_self, and_true, true_and, and_false, false_and, bi_T, bi_F, not_true_eq_false, Bool.false_eq_true, kg_1, kg_48, kg_51, (F 1 8 rfl).trans h8, sgo hn, sr1 hn Cg.2.1, sga1 hn, gq, hlt, ir_1_0 Cg.2.1, ir_1_1 Cg.2.1, ir_1_2 Cg.2.1, ir_1_3 Cg.2.1, ir_1_4 Cg.2.1, ir_1_5 Cg.2.1, ir_1_6 Cg.2.1, ir_1_7 Cg.2.1, R_change1, l1, aw, ir_1_0 l3.2.2.1, ir_1_1 l3.2.2.1, ir_1_2 l3.2.2.1, ir_1_3 l3.2.2.1, ir_1_4 l3.2.2.1, ir_1_5 l3.2.2.1, ir_1_6 l3.2.2.1, ir_1_7 l3.2.2.1, m1, px_w_s (show i < 1000000 by omega)]
    by_cases c : (bst (fun i => woV W N (lvl n h s i y)) i).1 < v3
    · have ev : v3 = woV W N (lvl n h s i y) := ok.2 c
      have c5 : (bst (fun i => woV W N (lvl n h s i y)) i).1 < woV W N (lvl n h s i y) := ok.1.mp c
      have eb : bst (fun i => woV W N (lvl n h s i y)) (i + 1) = (v3, (i : Int)) := by
        rw [bst]
        rw [if_pos c5]
        exact congrArg (fun z => (z, (i : Int))) ev.symm
      refine ⟨([(2, 1), (0, 1), (0, 0), (0, h 48 1), (0, v3), (0, (i : Int)), (0, ((i + 1 : Nat) : Int)), (0, v3)], g3), ?_, ⟨_, by rw [eb]⟩, F3⟩
      show px_R (mm_Tin_bestOf, 20, _, [], (K0, g)) = _
      rw [st, if_pos c]
    · have nc : ¬ (bst (fun i => woV W N (lvl n h s i y)) i).1 < woV W N (lvl n h s i y) := fun z => c (ok.1.mpr z)
      have eb : bst (fun i => woV W N (lvl n h s i y)) (i + 1) = bst (fun i => woV W N (lvl n h s i y)) i := by
        rw [bst]
        rw [if_neg nc]
      refine ⟨([(2, 1), (0, 1), (0, 0), (0, h 48 1), (0, (bst (fun i => woV W N (lvl n h s i y)) i).1), (0, (bst (fun i => woV W N (lvl n h s i y)) i).2), (0, ((i + 1 : Nat) : Int)), (0, v3)], g3), ?_, ⟨_, by rw [eb]⟩, F3⟩
      show px_R (mm_Tin_bestOf, 20, _, [], (K0, g)) = _
      rw [st, if_neg c]) K 0
  obtain ⟨⟨ls, g⟩, f1, ⟨y5, f2⟩, F⟩ := lp ([(2, 1), (0, 1), (0, 0), (0, h 48 1), (0, -1), (0, -1), (0, 0), (9, 0)], px_up h 48 1 0) (Nat.zero_add K) ⟨⟨_, rfl⟩, Fr_up (Fr_rf _ _ _) _ rfl⟩
  simp only at f1 f2 F
  subst f2
  have Cg := LC_F C F (by decide) rfl rfl
  have gq : g (n + 1) 1 = (K : Int) := by rw [Fr_st hn F rfl (n + 1) (by omega) (by omega)]; exact hK
  have hlt : ((K : Int) < (K : Int)) = False := eq_false (by omega)
  have Fend : Fr xcs [(48, 1), (51, 0), (51, 1), (51, 5)] h (px_up g 48 1 (h 48 1)) := Fr_up F _ rfl
  refine ⟨px_up g 48 1 (h 48 1), ?_, Fr_del Fend (px_up_eq _ _ _ _)⟩
  rw [eq_Tin_bestOf_0]
  simp only [px_rd_mk, px_wr_mk, Int.reduceToNat, Int.toNat_natCast, if_true, if_false, Option.bind_some, px_up_cell, px_up_slot, px_up_eq, ne_eq, Nat.reduceEqDiff, not_false_eq_true, Int.reduceEq, Int.reduceLT, Int.reduceLE, Int.reduceNeg, decide_true, decide_false, Bool.and_true, Bool.true_and, Bool.and_false, Bool.false_and, and_self, and_true, true_and, and_false, false_and, bi_T, bi_F, not_true_eq_false, Bool.false_eq_true, kg_1, kg_48, ir_1_0 C.2.1, ir_1_1 C.2.1, ir_1_2 C.2.1, ir_1_3 C.2.1, ir_1_4 C.2.1, ir_1_5 C.2.1, ir_1_6 C.2.1, ir_1_7 C.2.1, R_change1]
  rw [f1, eq_Tin_bestOf_20]
  simp only [px_rd_mk, px_wr_mk, Int.reduceToNat, Int.toNat_natCast, if_true, if_false, Option.bind_some, px_up_cell, px_up_slot, px_up_eq, ne_eq, Nat.reduceEqDiff, not_false_eq_true, Int.reduceEq, Int.reduceLT, Int.reduceLE, Int.reduceNeg, decide_true, decide_false, Bool.and_true, Bool.true_and, Bool.and_false, Bool.false_and, and_self, and_true, true_and, and_false, false_and, bi_T, bi_F, not_true_eq_false, Bool.false_eq_true, kg_1, kg_48, (F 1 8 rfl).trans h8, sgo hn, sr1 hn Cg.2.1, sga1 hn, gq, hlt, ir_1_0 Cg.2.1, ir_1_1 Cg.2.1, ir_1_2 Cg.2.1, ir_1_3 Cg.2.1, ir_1_4 Cg.2.1, ir_1_5 Cg.2.1, ir_1_6 Cg.2.1, ir_1_7 Cg.2.1, R_change1]
theorem R_mbestTin {n : Nat} {h : hp} (C : LC n h) {s t y : Nat} (h0 : h 123 24 = (s : Int)) (hs : (s : Int) < h (n + 1) 0) (h1 : h 123 25 = (t : Int)) (ht : (t : Int) < h (n + 1) 1) (h2 : h 123 26 = (y : Int)) (hy : y ≤ 400) {W N : Nat} (hW : h (n + 1) 2 = (W : Int)) (hN : h (n + 21) 0 = (N : Int)) (hW1 : 1 ≤ W) {K : Nat} (hK : h (n + 1) 1 = (K : Int)) : ∃ g : hp, px_R (mm_Mod_best, 40, [(2, 123), (0, 1), (0, -1), (0, 0), (0, 0), (9, 0)], [], (K0, h)) = some ((bst (fun i => woV W N (lvl n h s i y)) K).2, (K0, g)) ∧ Fr [137, 138, 139] [] h g := by
  have hn := C.1
  have c2 := ST_n C.2.2.1 (k := 2) (by decide)
  have W6 : W ≤ 6 := by omega
  have N3 := C.2.2.1.2.2.2.2.1
  have cK := ST_n C.2.2.1 (k := 1) (by decide)
  have T64 := all_lt W6
  have lp := px_lp (fun z : List pv × hp => px_R (mm_Mod_best, 40, z.1, [], (K0, z.2))) (fun i z => (∃ y5 : pv, z.1 = [(2, 123), (0, 1), (0, (bst (fun i => woV W N (lvl n h s i y)) i).2), (0, if i = 0 then 0 else (bst (fun i => woV W N (lvl n h s i y)) i).1), (0, (i : Int)), y5]) ∧ Fr [137, 138, 139] [] h z.2) K (by
    rintro i ⟨ls, g⟩ hi ⟨⟨y5, e1⟩, F⟩
    simp only at e1 F
    subst e1
    have Cg := LC_F C F (by decide) rfl rfl
    have f1 := Fr_st hn F rfl (n + 1) (by omega) (by omega)
    have f21 := Fr_st hn F rfl (n + 21) (by omega) (by omega)
    have hlt : ((i : Int) < (K : Int)) = True := eq_true (by omega)
    have gq : g 125 1 = (K : Int) := (F 125 1 rfl).trans (cK.1.trans hK)
    obtain ⟨k1, m1, G1, M1⟩ := R_makeMC (LC_LD Cg) (s := s) (t := i) (y := y) (by rw [f1]; exact hs) (by rw [f1]; omega) hy (W := W) (N := N) (by rw [f1]; exact hW) (by rw [f21]; exact hN)
    rw [lvl_48 hn F rfl] at M1
    have inA := (fx_all ⟨W, by omega⟩).2 ⟨0, by omega⟩ hW1
    obtain ⟨k2, m2, G2⟩ := R_worst M1 (T := 2 ^ W - 1) (by omega) (a2 := 0) hW1 inA
    have F3 : Fr [137, 138, 139] [] h k2 := Fr_sub (Fr_tr (Fr_tr F G1) G2) rfl rfl
    have m2 : px_R (mm_Mod_worst, 0, [(2, 123), (0, ((2 ^ W - 1 : Nat) : Int)), (9, 0), (9, 0), (9, 0)], [], (K0, k1)) = some (woV W N (lvl n h s i y), (K0, k2)) := m2
    have aw := R_mallWords M1.2.2.1 M1.2.2.2.1 W6
    have wr := woV_rng (W := W) (show N ≤ 3 by omega) (lvl n h s i y)
    have st : px_R (mm_Mod_best, 40, [(2, 123), (0, 1), (0, (bst (fun i => woV W N (lvl n h s i y)) i).2), (0, if i = 0 then 0 else (bst (fun i => woV W N (lvl n h s i y)) i).1), (0, (i : Int)), y5], [], (K0, g)) = if (bst (fun i => woV W N (lvl n h s i y)) i).2 = -1 then px_R (mm_Mod_best, 40, [(2, 123), (0, 1), (0, (i : Int)), (0, woV W N (lvl n h s i y)), (0, ((i + 1 : Nat) : Int)), (0, woV W N (lvl n h s i y))], [], (K0, k2)) else if (if i = 0 then 0 else (bst (fun i => woV W N (lvl n h s i y)) i).1) < woV W N (lvl n h s i y) then px_R (mm_Mod_best, 40, [(2, 123), (0, 1), (0, (i : Int)), (0, woV W N (lvl n h s i y)), (0, ((i + 1 : Nat) : Int)), (0, woV W N (lvl n h s i y))], [], (K0, k2)) else px_R (mm_Mod_best, 40, [(2, 123), (0, 1), (0, (bst (fun i => woV W N (lvl n h s i y)) i).2), (0, if i = 0 then 0 else (bst (fun i => woV W N (lvl n h s i y)) i).1), (0, ((i + 1 : Nat) : Int)), (0, woV W N (lvl n h s i y))], [], (K0, k2)) := by
      rw [eq_Mod_best_40]
      simp only [px_rd_mk, px_wr_mk, Int.reduceToNat, Int.toNat_natCast, if_true, if_false, Option.bind_some, px_up_cell, px_up_slot, px_up_eq, ne_eq, Nat.reduceEqDiff, not_false_eq_true, Int.reduceEq, Int.reduceLT, Int.reduceLE, Int.reduceNeg, decide_true, decide_false, Bool.and_true, Bool.true_and, Bool.and_false, Bool.false_and, and_self, and_true, true_and, and_false, false_and, bi_T, bi_F, not_true_eq_false, Bool.false_eq_true, kg_123, ka_125, ir_123_0 Cg.2.1, ir_123_12 Cg.2.1, ir_123_13 Cg.2.1, ir_123_14 Cg.2.1, ir_123_15 Cg.2.1, ir_123_16 Cg.2.1, ir_123_17 Cg.2.1, ir_123_18 Cg.2.1, ir_123_19 Cg.2.1, ir_123_20 Cg.2.1, ir_123_21 Cg.2.1, ir_123_30 Cg.2.1, ir_123_31 Cg.2.1, ir_123_32 Cg.2.1, ir_123_33 Cg.2.1, ir_123_34 Cg.2.1, ir_123_35 Cg.2.1, ir_123_36 Cg.2.1, ir_123_37 Cg.2.1, ir_123_38 Cg.2.1, ir_123_39 Cg.2.1, ir_123_41 Cg.2.1, ir_123_42 Cg.2.1, ir_123_44 Cg.2.1, ir_123_45 Cg.2.1, ir_123_46 Cg.2.1, ir_123_50 Cg.2.1, ir_123_54 Cg.2.1, ir_123_55 Cg.2.1, ir_123_56 Cg.2.1, ir_123_57 Cg.2.1, ir_123_58 Cg.2.1, ir_123_59 Cg.2.1, ir_123_60 Cg.2.1, ir_123_61 Cg.2.1, ir_123_62 Cg.2.1, gq, hlt]
      rw [eq_Mod_best_79]
      simp only [px_rd_mk, px_wr_mk, Int.reduceToNat, Int.toNat_natCast, if_true, if_false, Option.bind_some, px_up_cell, px_up_slot, px_up_eq, ne_eq, Nat.reduceEqDiff, not_false_eq_true, Int.reduceEq, Int.reduceLT, Int.reduceLE, Int.reduceNeg, decide_true, decide_false, Bool.and_true, Bool.true_and, Bool.and_false, Bool.false_and, and_self, and_true, true_and, and_false, false_and, bi_T, bi_F, not_true_eq_false, Bool.false_eq_true, kg_123, (F 123 24 rfl).trans h0, (F 123 25 rfl).trans h1, (F 123 26 rfl).trans h2, m1, aw, m2, px_w_s (show i < 1000000 by omega)]
    by_cases z : i = 0
    · subst z
      have eb : bst (fun i => woV W N (lvl n h s i y)) (0 + 1) = (woV W N (lvl n h s 0 y), ((0 : Nat) : Int)) := by
        show (if (-1 : Int) < woV W N (lvl n h s 0 y) then _ else _) = _
        rw [if_pos (by omega)]
      refine ⟨([(2, 123), (0, 1), (0, ((0 : Nat) : Int)), (0, woV W N (lvl n h s 0 y)), (0, ((0 + 1 : Nat) : Int)), (0, woV W N (lvl n h s 0 y))], k2), ?_, ⟨(0, woV W N (lvl n h s 0 y)), by rw [eb]; rfl⟩, F3⟩
      show px_R (mm_Mod_best, 40, _, [], (K0, g)) = _
      rw [st, if_pos (show (bst (fun i => woV W N (lvl n h s i y)) 0).2 = -1 from rfl)]
    · have b2 : 0 ≤ (bst (fun i => woV W N (lvl n h s i y)) i).2 := by
        have := bst_0 (f := fun i => woV W N (lvl n h s i y)) (woV_rng (W := W) (show N ≤ 3 by omega) _).1 (i - 1)
        rw [show i - 1 + 1 = i by omega] at this
        exact this
      rw [if_neg (show ¬ (bst (fun i => woV W N (lvl n h s i y)) i).2 = -1 by omega), if_neg z] at st
      by_cases c : (bst (fun i => woV W N (lvl n h s i y)) i).1 < woV W N (lvl n h s i y)
      · have eb : bst (fun i => woV W N (lvl n h s i y)) (i + 1) = (woV W N (lvl n h s i y), (i : Int)) := by
          rw [bst]
          rw [if_pos c]
        rw [if_pos c] at st
        refine ⟨([(2, 123), (0, 1), (0, (i : Int)), (0, woV W N (lvl n h s i y)), (0, ((i + 1 : Nat) : Int)), (0, woV W N (lvl n h s i y))], k2), ?_, ⟨_, by rw [eb, if_neg (Nat.succ_ne_zero i)]⟩, F3⟩
        show px_R (mm_Mod_best, 40, [(2, 123), (0, 1), (0, (bst (fun i => woV W N (lvl n h s i y)) i).2), (0, if i = 0 then 0 else (bst (fun i => woV W N (lvl n h s i y)) i).1), (0, (i : Int)), y5], [], (K0, g)) = _
        rw [if_neg z]
        exact st
      · have eb : bst (fun i => woV W N (lvl n h s i y)) (i + 1) = bst (fun i => woV W N (lvl n h s i y)) i := by
          rw [bst]
          rw [if_neg c]
        rw [if_neg c] at st
        refine ⟨([(2, 123), (0, 1), (0, (bst (fun i => woV W N (lvl n h s i y)) i).2), (0, (bst (fun i => woV W N (lvl n h s i y)) i).1), (0, ((i + 1 : Nat) : Int)), (0, woV W N (lvl n h s i y))], k2), ?_, ⟨_, by rw [eb, if_neg (Nat.succ_ne_zero i)]⟩, F3⟩
        show px_R (mm_Mod_best, 40, [(2, 123), (0, 1), (0, (bst (fun i => woV W N (lvl n h s i y)) i).2), (0, if i = 0 then 0 else (bst (fun i => woV W N (lvl n h s i y)) i).1), (0, (i : Int)), y5], [], (K0, g)) = _
        rw [if_neg z]
        exact st) K 0
  obtain ⟨⟨ls, g⟩, f1, ⟨y5, f2⟩, F⟩ := lp ([(2, 123), (0, 1), (0, -1), (0, 0), (0, 0), (9, 0)], h) (Nat.zero_add K) ⟨⟨(9, 0), rfl⟩, Fr_rf _ _ _⟩
  simp only at f1 f2 F
  subst f2
  refine ⟨g, ?_, F⟩
  have Cg := LC_F C F (by decide) rfl rfl
  have gq : g 125 1 = (K : Int) := (F 125 1 rfl).trans (cK.1.trans hK)
  have hlt : ((K : Int) < (K : Int)) = False := eq_false (by omega)
  rw [f1, eq_Mod_best_40]
  simp only [px_rd_mk, px_wr_mk, Int.reduceToNat, Int.toNat_natCast, if_true, if_false, Option.bind_some, px_up_cell, px_up_slot, px_up_eq, ne_eq, Nat.reduceEqDiff, not_false_eq_true, Int.reduceEq, Int.reduceLT, Int.reduceLE, Int.reduceNeg, decide_true, decide_false, Bool.and_true, Bool.true_and, Bool.and_false, Bool.false_and, and_self, and_true, true_and, and_false, false_and, bi_T, bi_F, not_true_eq_false, Bool.false_eq_true, kg_123, ka_125, ir_123_0 Cg.2.1, ir_123_12 Cg.2.1, ir_123_13 Cg.2.1, ir_123_14 Cg.2.1, ir_123_15 Cg.2.1, ir_123_16 Cg.2.1, ir_123_17 Cg.2.1, ir_123_18 Cg.2.1, ir_123_19 Cg.2.1, ir_123_20 Cg.2.1, ir_123_21 Cg.2.1, ir_123_30 Cg.2.1, ir_123_31 Cg.2.1, ir_123_32 Cg.2.1, ir_123_33 Cg.2.1, ir_123_34 Cg.2.1, ir_123_35 Cg.2.1, ir_123_36 Cg.2.1, ir_123_37 Cg.2.1, ir_123_38 Cg.2.1, ir_123_39 Cg.2.1, ir_123_41 Cg.2.1, ir_123_42 Cg.2.1, ir_123_44 Cg.2.1, ir_123_45 Cg.2.1, ir_123_46 Cg.2.1, ir_123_50 Cg.2.1, ir_123_54 Cg.2.1, ir_123_55 Cg.2.1, ir_123_56 Cg.2.1, ir_123_57 Cg.2.1, ir_123_58 Cg.2.1, ir_123_59 Cg.2.1, ir_123_60 Cg.2.1, ir_123_61 Cg.2.1, ir_123_62 Cg.2.1, gq, hlt]
theorem C_best {h : hp} (C : CI h) (x : Int) : AL h mm_Tin_best mm_Mod_best [(2, 1), (0, x)] [(2, 123), (0, x), (9, 0), (9, 0), (9, 0), (9, 0)] := by
  have C2 := C
  obtain ⟨n, ⟨hn, h8, h9⟩, hI, hT, hK, hS, hL, hR, hC, hKs, hW, hB⟩ := C2
  by_cases hx : 0 ≤ x ∧ x ≤ 1
  · by_cases hc : h (n + 1) 0 = 0 ∨ h (n + 1) 1 = 0
    · have hc2 : ¬ (0 < h (n + 1) 0 ∧ 0 < h (n + 1) 1) := by omega
      refine AL_same C (-4) ?_ ?_
      · rw [eq_Tin_best_0, R_Tin_within, bi_t hx]
        simp only [px_rd_mk, px_wr_mk, Int.reduceToNat, Int.toNat_natCast, if_true, if_false, Option.bind_some, px_up_cell, px_up_slot, px_up_eq, ne_eq, Nat.reduceEqDiff, not_false_eq_true, Int.reduceEq, Int.reduceLT, Int.reduceLE, Int.reduceNeg, decide_true, decide_false, Bool.and_true, Bool.true_and, Bool.and_false, Bool.false_and, and_self, and_true, true_and, and_false, false_and, bi_T, bi_F, not_true_eq_false, Bool.false_eq_true, kg_1, R_lineLacks hn h8 hI, bi_t hc]
      · rw [eq_Mod_best_0, R_Mod_in, bi_t hx]
        simp only [px_rd_mk, px_wr_mk, Int.reduceToNat, Int.toNat_natCast, if_true, if_false, Option.bind_some, px_up_cell, px_up_slot, px_up_eq, ne_eq, Nat.reduceEqDiff, not_false_eq_true, Int.reduceEq, Int.reduceLT, Int.reduceLE, Int.reduceNeg, decide_true, decide_false, Bool.and_true, Bool.true_and, Bool.and_false, Bool.false_and, and_self, and_true, true_and, and_false, false_and, bi_T, bi_F, not_true_eq_false, Bool.false_eq_true, kg_123, R_hasLine hI hS, bi_f hc2]
    · have c0 := ST_n hS (k := 0) (by decide)
      have c1 := ST_n hS (k := 1) (by decide)
      have c2 := ST_n hS (k := 2) (by decide)
      have hc2 : 0 < h (n + 1) 0 ∧ 0 < h (n + 1) 1 := by omega
      by_cases hw0 : h (n + 1) 2 = 0
      · refine AL_same C (-1) ?_ ?_
        · rw [eq_Tin_best_0, R_Tin_within, bi_t hx]
          simp only [px_rd_mk, px_wr_mk, Int.reduceToNat, Int.toNat_natCast, if_true, if_false, Option.bind_some, px_up_cell, px_up_slot, px_up_eq, ne_eq, Nat.reduceEqDiff, not_false_eq_true, Int.reduceEq, Int.reduceLT, Int.reduceLE, Int.reduceNeg, decide_true, decide_false, Bool.and_true, Bool.true_and, Bool.and_false, Bool.false_and, and_self, and_true, true_and, and_false, false_and, bi_T, bi_F, not_true_eq_false, Bool.false_eq_true, kg_1, R_lineLacks hn h8 hI, bi_f hc, h8, sgo hn, sr1 hn hI, sga1 hn, hw0]
        · rw [eq_Mod_best_0, R_Mod_in, bi_t hx]
          simp only [px_rd_mk, px_wr_mk, Int.reduceToNat, Int.toNat_natCast, if_true, if_false, Option.bind_some, px_up_cell, px_up_slot, px_up_eq, ne_eq, Nat.reduceEqDiff, not_false_eq_true, Int.reduceEq, Int.reduceLT, Int.reduceLE, Int.reduceNeg, decide_true, decide_false, Bool.and_true, Bool.true_and, Bool.and_false, Bool.false_and, and_self, and_true, true_and, and_false, false_and, bi_T, bi_F, not_true_eq_false, Bool.false_eq_true, kg_123, ka_125, R_hasLine hI hS, bi_t hc2, ir_123_0 hI, ir_123_12 hI, ir_123_13 hI, ir_123_14 hI, ir_123_15 hI, ir_123_16 hI, ir_123_17 hI, ir_123_18 hI, ir_123_19 hI, ir_123_20 hI, ir_123_21 hI, ir_123_30 hI, ir_123_31 hI, ir_123_32 hI, ir_123_33 hI, ir_123_34 hI, ir_123_35 hI, ir_123_36 hI, ir_123_37 hI, ir_123_38 hI, ir_123_39 hI, ir_123_41 hI, ir_123_42 hI, ir_123_44 hI, ir_123_45 hI, ir_123_46 hI, ir_123_50 hI, ir_123_54 hI, ir_123_55 hI, ir_123_56 hI, ir_123_57 hI, ir_123_58 hI, ir_123_59 hI, ir_123_60 hI, ir_123_61 hI, ir_123_62 hI, c2.1, hw0]
      · obtain ⟨W, hW2⟩ := Int.eq_ofNat_of_zero_le c2.2.1
        have c8 := hS.2.2.2.2.1
        obtain ⟨N, hN2⟩ := Int.eq_ofNat_of_zero_le c8.2.1
        obtain ⟨s, s1, s2, s3⟩ := LI_s hL hc2.1
        obtain ⟨t, t1, t2, t3⟩ := LI_t hL hc2.2
        obtain ⟨yy, y1, y2, y3, y4⟩ := LI_y hL
        have W1 : 1 ≤ W := by omega
        have LC0 : LC n h := ⟨hn, hI, hS, LI_LB hL⟩
        have hx2 : x = 0 ∨ x = 1 := by omega
        have core : ∀ (v : Int) (g k : hp), Fr xcs [(51, 0), (51, 1), (51, 5)] h g → Fr [137, 138, 139] [] g k → CI k := fun v g k F1 F2 => by
          have F : Fr (xcs ++ [137, 138, 139]) [(51, 0), (51, 1), (51, 5)] h k := Fr_sub (Fr_tr F1 F2) rfl rfl
          exact ⟨n, SP_F F rfl ⟨hn, h8, h9⟩, IR_Fr hI F (by decide), TP_F F rfl hT, FK_F F rfl hK, ST_F hn F rfl hS, LI_F hn F rfl hL, RW_F F rfl hR, CR_F F rfl hC, KS_F F rfl hKs, WI_F hn F rfl hW, BK_F hn F rfl hB⟩
        rcases hx2 with rfl | rfl
        · obtain ⟨K, hK⟩ := Int.eq_ofNat_of_zero_le c0.2.1
          obtain ⟨g, e1, F1⟩ := R_bestStuff h8 LC0 s1 s3 t1 t3 y1 y3 hW2 hN2 W1 hK
          have LCg := LC_F LC0 F1 (by decide) rfl rfl
          have f1 := Fr_st hn F1 rfl (n + 1) (by omega) (by omega)
          have f21 := Fr_st hn F1 rfl (n + 21) (by omega) (by omega)
          obtain ⟨k, m1, G1⟩ := R_mbestStuff LCg (s := s) (t := t) (y := yy) (W := W) (N := N) (K := K) ((F1 123 24 rfl).trans s2) (by rw [f1]; exact s3) ((F1 123 25 rfl).trans t2) (by rw [f1]; exact t3) ((F1 123 26 rfl).trans y2) y3 (by rw [f1]; exact hW2) (by rw [f21]; exact hN2) W1 (by rw [f1]; exact hK)
          rw [show (fun i => woV W N (lvl n g i t yy)) = fun i => woV W N (lvl n h i t yy) from funext fun i => by rw [lvl_48 hn F1 rfl]] at m1
          have hLg := R_hasLine LCg.2.1 LCg.2.2.1
          rw [f1] at hLg
          have w0 : g 125 2 = h (n + 1) 2 := (F1 125 2 rfl).trans c2.1
          refine ⟨(bst (fun i => woV W N (lvl n h i t yy)) K).2, g, k, ?_, ?_, core 0 g k F1 G1⟩
          · rw [eq_Tin_best_0, R_Tin_within, bi_t hx]
            simp only [px_rd_mk, px_wr_mk, Int.reduceToNat, Int.toNat_natCast, if_true, if_false, Option.bind_some, px_up_cell, px_up_slot, px_up_eq, ne_eq, Nat.reduceEqDiff, not_false_eq_true, Int.reduceEq, Int.reduceLT, Int.reduceLE, Int.reduceNeg, decide_true, decide_false, Bool.and_true, Bool.true_and, Bool.and_false, Bool.false_and, and_self, and_true, true_and, and_false, false_and, bi_T, bi_F, not_true_eq_false, Bool.false_eq_true, kg_1, R_lineLacks hn h8 hI, bi_f hc, h8, sgo hn, sr1 hn hI, sga1 hn, hw0, e1]
          · rw [eq_Mod_best_0, R_Mod_in, bi_t hx]
            simp only [px_rd_mk, px_wr_mk, Int.reduceToNat, Int.toNat_natCast, if_true, if_false, Option.bind_some, px_up_cell, px_up_slot, px_up_eq, ne_eq, Nat.reduceEqDiff, not_false_eq_true, Int.reduceEq, Int.reduceLT, Int.reduceLE, Int.reduceNeg, decide_true, decide_false, Bool.and_true, Bool.true_and, Bool.and_false, Bool.false_and, and_self, and_true, true_and, and_false, false_and, bi_T, bi_F, not_true_eq_false, Bool.false_eq_true, kg_123, ka_125, hLg, bi_t hc2, ir_123_0 LCg.2.1, ir_123_12 LCg.2.1, ir_123_13 LCg.2.1, ir_123_14 LCg.2.1, ir_123_15 LCg.2.1, ir_123_16 LCg.2.1, ir_123_17 LCg.2.1, ir_123_18 LCg.2.1, ir_123_19 LCg.2.1, ir_123_20 LCg.2.1, ir_123_21 LCg.2.1, ir_123_30 LCg.2.1, ir_123_31 LCg.2.1, ir_123_32 LCg.2.1, ir_123_33 LCg.2.1, ir_123_34 LCg.2.1, ir_123_35 LCg.2.1, ir_123_36 LCg.2.1, ir_123_37 LCg.2.1, ir_123_38 LCg.2.1, ir_123_39 LCg.2.1, ir_123_41 LCg.2.1, ir_123_42 LCg.2.1, ir_123_44 LCg.2.1, ir_123_45 LCg.2.1, ir_123_46 LCg.2.1, ir_123_50 LCg.2.1, ir_123_54 LCg.2.1, ir_123_55 LCg.2.1, ir_123_56 LCg.2.1, ir_123_57 LCg.2.1, ir_123_58 LCg.2.1, ir_123_59 LCg.2.1, ir_123_60 LCg.2.1, ir_123_61 LCg.2.1, ir_123_62 LCg.2.1, w0, hw0]
            exact m1
        · obtain ⟨K, hK⟩ := Int.eq_ofNat_of_zero_le c1.2.1
          obtain ⟨g, e1, F1⟩ := R_bestTin h8 LC0 s1 s3 t1 t3 y1 y3 hW2 hN2 W1 hK
          have LCg := LC_F LC0 F1 (by decide) rfl rfl
          have f1 := Fr_st hn F1 rfl (n + 1) (by omega) (by omega)
          have f21 := Fr_st hn F1 rfl (n + 21) (by omega) (by omega)
          obtain ⟨k, m1, G1⟩ := R_mbestTin LCg (s := s) (t := t) (y := yy) (W := W) (N := N) (K := K) ((F1 123 24 rfl).trans s2) (by rw [f1]; exact s3) ((F1 123 25 rfl).trans t2) (by rw [f1]; exact t3) ((F1 123 26 rfl).trans y2) y3 (by rw [f1]; exact hW2) (by rw [f21]; exact hN2) W1 (by rw [f1]; exact hK)
          rw [show (fun i => woV W N (lvl n g s i yy)) = fun i => woV W N (lvl n h s i yy) from funext fun i => by rw [lvl_48 hn F1 rfl]] at m1
          have hLg := R_hasLine LCg.2.1 LCg.2.2.1
          rw [f1] at hLg
          have w0 : g 125 2 = h (n + 1) 2 := (F1 125 2 rfl).trans c2.1
          refine ⟨(bst (fun i => woV W N (lvl n h s i yy)) K).2, g, k, ?_, ?_, core 0 g k F1 G1⟩
          · rw [eq_Tin_best_0, R_Tin_within, bi_t hx]
            simp only [px_rd_mk, px_wr_mk, Int.reduceToNat, Int.toNat_natCast, if_true, if_false, Option.bind_some, px_up_cell, px_up_slot, px_up_eq, ne_eq, Nat.reduceEqDiff, not_false_eq_true, Int.reduceEq, Int.reduceLT, Int.reduceLE, Int.reduceNeg, decide_true, decide_false, Bool.and_true, Bool.true_and, Bool.and_false, Bool.false_and, and_self, and_true, true_and, and_false, false_and, bi_T, bi_F, not_true_eq_false, Bool.false_eq_true, kg_1, R_lineLacks hn h8 hI, bi_f hc, h8, sgo hn, sr1 hn hI, sga1 hn, hw0, e1]
          · rw [eq_Mod_best_0, R_Mod_in, bi_t hx]
            simp only [px_rd_mk, px_wr_mk, Int.reduceToNat, Int.toNat_natCast, if_true, if_false, Option.bind_some, px_up_cell, px_up_slot, px_up_eq, ne_eq, Nat.reduceEqDiff, not_false_eq_true, Int.reduceEq, Int.reduceLT, Int.reduceLE, Int.reduceNeg, decide_true, decide_false, Bool.and_true, Bool.true_and, Bool.and_false, Bool.false_and, and_self, and_true, true_and, and_false, false_and, bi_T, bi_F, not_true_eq_false, Bool.false_eq_true, kg_123, ka_125, hLg, bi_t hc2, ir_123_0 LCg.2.1, ir_123_12 LCg.2.1, ir_123_13 LCg.2.1, ir_123_14 LCg.2.1, ir_123_15 LCg.2.1, ir_123_16 LCg.2.1, ir_123_17 LCg.2.1, ir_123_18 LCg.2.1, ir_123_19 LCg.2.1, ir_123_20 LCg.2.1, ir_123_21 LCg.2.1, ir_123_30 LCg.2.1, ir_123_31 LCg.2.1, ir_123_32 LCg.2.1, ir_123_33 LCg.2.1, ir_123_34 LCg.2.1, ir_123_35 LCg.2.1, ir_123_36 LCg.2.1, ir_123_37 LCg.2.1, ir_123_38 LCg.2.1, ir_123_39 LCg.2.1, ir_123_41 LCg.2.1, ir_123_42 LCg.2.1, ir_123_44 LCg.2.1, ir_123_45 LCg.2.1, ir_123_46 LCg.2.1, ir_123_50 LCg.2.1, ir_123_54 LCg.2.1, ir_123_55 LCg.2.1, ir_123_56 LCg.2.1, ir_123_57 LCg.2.1, ir_123_58 LCg.2.1, ir_123_59 LCg.2.1, ir_123_60 LCg.2.1, ir_123_61 LCg.2.1, ir_123_62 LCg.2.1, w0, hw0]
            exact m1
  · refine AL_same C (-2) ?_ ?_
    · rw [eq_Tin_best_0, R_Tin_within, bi_f hx]
      simp only [px_rd_mk, px_wr_mk, Int.reduceToNat, Int.toNat_natCast, if_true, if_false, Option.bind_some, px_up_cell, px_up_slot, px_up_eq, ne_eq, Nat.reduceEqDiff, not_false_eq_true, Int.reduceEq, Int.reduceLT, Int.reduceLE, Int.reduceNeg, decide_true, decide_false, Bool.and_true, Bool.true_and, Bool.and_false, Bool.false_and, and_self, and_true, true_and, and_false, false_and, bi_T, bi_F, not_true_eq_false, Bool.false_eq_true]
    · rw [eq_Mod_best_0, R_Mod_in, bi_f hx]
      simp only [px_rd_mk, px_wr_mk, Int.reduceToNat, Int.toNat_natCast, if_true, if_false, Option.bind_some, px_up_cell, px_up_slot, px_up_eq, ne_eq, Nat.reduceEqDiff, not_false_eq_true, Int.reduceEq, Int.reduceLT, Int.reduceLE, Int.reduceNeg, decide_true, decide_false, Bool.and_true, Bool.true_and, Bool.and_false, Bool.false_and, and_self, and_true, true_and, and_false, false_and, bi_T, bi_F, not_true_eq_false, Bool.false_eq_true]
