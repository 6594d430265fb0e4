/-! The least string: both loops. -/
theorem search_loop {n H W m : Nat} {Y : Nat → Int} (hY : ∀ p, p < nP H → -1 ≤ Y p ∧ Y p ≤ 141) (hW2 : W < 1024) (hm : m ≤ 4) (H5 : H ≤ 5) (k : Nat) : ∀ (S : Nat), S + k = 2 ^ nP H → ∀ (y7 : pv) (h : hp), WC H Y h → h 79 0 = (W : Int) → LSt H W m Y S (h 79 1) (h 79 2) → ∃ g : hp, px_R (mm_Wish_search, 117, [(2, 79), (2, (n : Int)), (0, (m : Int)), (0, (H : Int)), (0, (nP H : Int)), (0, (brm Y (nP H) : Int)), (0, (S : Int)), y7], [], (K0, h)) = some (0, (K0, g)) ∧ Fr [82] [(79, 1), (79, 2)] h g ∧ LSt H W m Y (2 ^ nP H) (g 79 1) (g 79 2) := by
  have n10 := (fx_pn ⟨H, by omega⟩).1
  simp only at n10
  have two : 2 ^ nP H ≤ 2 ^ 10 := Nat.pow_le_pow_right (by decide) n10
  have sh := shl_g (show nP H < 31 by omega)
  have bl := brm_lt Y (nP H)
  induction k with
  | zero =>
    intro S hS y7 h C hW L
    have : S = 2 ^ nP H := hS
    subst this
    exact ⟨h, by rw [eq_Wish_search_117, sh, if_neg (Int.lt_irrefl _)], Fr_rf _ _ _, L⟩
  | succ k ih =>
    intro S hS y7 h C hW L
    have hlt : ((S : Int) < ((2 ^ nP H : Nat) : Int)) = True := eq_true (by omega)
    have S10 : S < 1024 := by omega
    have an := and_n (a := S) (b := brm Y (nP H)) (by omega) (by omega)
    have ba := brm_and (S := S) hY
    by_cases c : S &&& brm Y (nP H) = 0
    · have an1 : (px_and (S : Int) (brm Y (nP H) : Int) = 0) = True := eq_true (by rw [an, c]; rfl)
      have free := ba.mp c
      have nn := yvS_nn (nP H) free
      have yr := R_wyards C hY S10
      have st161 : ∀ (x7 : Int), ∃ (v : Int) (g : hp), px_R (mm_Wish_search, 161, [(2, 79), (2, (n : Int)), (0, (m : Int)), (0, (H : Int)), (0, (nP H : Int)), (0, (brm Y (nP H) : Int)), (0, (S : Int)), (0, x7)], [], (K0, h)) = px_R (mm_Wish_search, 117, [(2, 79), (2, (n : Int)), (0, (m : Int)), (0, (H : Int)), (0, (nP H : Int)), (0, (brm Y (nP H) : Int)), (0, ((S + 1 : Nat) : Int)), (0, x7)], [], (K0, if v = 0 then g else px_up (px_up g 79 1 x7) 79 2 (S : Int))) ∧ Fr [82] [] h g ∧ ((v = 1 ∧ grS H W S m) ∨ (v = 0 ∧ ¬ grS H W S m)) := by
        intro x7
        obtain ⟨v, g, g1, g2, g3⟩ := R_grants C hW hW2 (S := S) (m := m) S10 hm
        refine ⟨v, g, ?_, g2, g3⟩
        rw [eq_Wish_search_161]
        simp only [px_rd_mk, px_wr_mk, Int.reduceToNat, Int.toNat_natCast, if_true, if_false, Option.bind_some, px_up_cell, px_up_slot, px_up_eq, ne_eq, Nat.reduceEqDiff, not_false_eq_true, Int.reduceEq, Int.reduceLT, Int.reduceLE, Int.reduceNeg, decide_true, decide_false, Bool.and_true, Bool.true_and, Bool.and_false, Bool.false_and, and_self, and_true, true_and, and_false, false_and, bi_T, bi_F, not_true_eq_false, Bool.false_eq_true, kg_79, g1, px_w_s (show S < 1000000 by omega)]
        by_cases v0 : v = 0
        · rw [if_pos v0, if_pos v0]
        · rw [if_neg v0, if_neg v0]
      by_cases better : h 79 1 = -1 ∨ yvS Y S (nP H) < h 79 1
      · obtain ⟨v, g, g1, g2, g3⟩ := st161 (yvS Y S (nP H))
        have to161 : px_R (mm_Wish_search, 117, [(2, 79), (2, (n : Int)), (0, (m : Int)), (0, (H : Int)), (0, (nP H : Int)), (0, (brm Y (nP H) : Int)), (0, (S : Int)), y7], [], (K0, h)) = px_R (mm_Wish_search, 161, [(2, 79), (2, (n : Int)), (0, (m : Int)), (0, (H : Int)), (0, (nP H : Int)), (0, (brm Y (nP H) : Int)), (0, (S : Int)), (0, yvS Y S (nP H))], [], (K0, h)) := by
          rw [eq_Wish_search_117]
          by_cases e : h 79 1 = -1
          · have e1 := eq_true e
            simp only [px_rd_mk, px_wr_mk, Int.reduceToNat, Int.toNat_natCast, if_true, if_false, Option.bind_some, px_up_cell, px_up_slot, px_up_eq, ne_eq, Nat.reduceEqDiff, not_false_eq_true, Int.reduceEq, Int.reduceLT, Int.reduceLE, Int.reduceNeg, decide_true, decide_false, Bool.and_true, Bool.true_and, Bool.and_false, Bool.false_and, and_self, and_true, true_and, and_false, false_and, bi_T, bi_F, not_true_eq_false, Bool.false_eq_true, kg_79, sh, hlt, an1, yr, e1]
          · have e1 := eq_false e
            have e2 := eq_true (better.resolve_left e)
            simp only [px_rd_mk, px_wr_mk, Int.reduceToNat, Int.toNat_natCast, if_true, if_false, Option.bind_some, px_up_cell, px_up_slot, px_up_eq, ne_eq, Nat.reduceEqDiff, not_false_eq_true, Int.reduceEq, Int.reduceLT, Int.reduceLE, Int.reduceNeg, decide_true, decide_false, Bool.and_true, Bool.true_and, Bool.and_false, Bool.false_and, and_self, and_true, true_and, and_false, false_and, bi_T, bi_F, not_true_eq_false, Bool.false_eq_true, kg_79, sh, hlt, an1, yr, e1, e2]
        have Cg : ∀ {j : hp}, Fr [82] [(79, 1), (79, 2)] h j → WC H Y j := fun F => WC_F C F rfl (fun I => IR_Fr I F (by decide))
        rcases g3 with ⟨rfl, g3⟩ | ⟨rfl, g3⟩
        · rw [if_neg (by decide)] at g1
          have F : Fr [82] [(79, 1), (79, 2)] h (px_up (px_up g 79 1 (yvS Y S (nP H))) 79 2 (S : Int)) := Fr_up (Fr_up (Fr_sub g2 rfl rfl) _ rfl) _ rfl
          obtain ⟨j, j1, j2, j3⟩ := ih (S + 1) (by omega) (0, yvS Y S (nP H)) _ (Cg F) ((F 79 0 rfl).trans hW) (by
            simp only [px_up_cell, px_up_slot, px_up_eq, ne_eq, Nat.reduceEqDiff, not_false_eq_true]
            refine LSt_up L ⟨free, g3⟩ ?_
            rcases better with e | e
            · left
              rcases L with ⟨_, l2, _⟩ | ⟨T, l1, l2, l3, l4, _⟩
              · exact l2
              · have := yvS_nn (nP H) l4.1
                omega
            · exact Or.inr e)
          exact ⟨j, to161.trans (g1.trans j1), Fr_sub (Fr_tr F j2) rfl rfl, j3⟩
        · rw [if_pos rfl] at g1
          have F : Fr [82] [(79, 1), (79, 2)] h g := Fr_sub g2 rfl rfl
          obtain ⟨j, j1, j2, j3⟩ := ih (S + 1) (by omega) (0, yvS Y S (nP H)) g (Cg F) ((F 79 0 rfl).trans hW) (by
            rw [g2 79 1 rfl, g2 79 2 rfl]
            exact LSt_no L (fun z => g3 z.2))
          exact ⟨j, to161.trans (g1.trans j1), Fr_sub (Fr_tr F j2) rfl rfl, j3⟩
      · have e1 : (h 79 1 = -1) = False := eq_false (fun z => better (Or.inl z))
        have e2 : (yvS Y S (nP H) < h 79 1) = False := eq_false (fun z => better (Or.inr z))
        have e3 : ¬ h 79 2 = -1 := by
          rcases L with ⟨l1, l2, _⟩ | ⟨T, l1, l2, _⟩
          · exact absurd (Or.inl l1) better
          · omega
        have e4 : h 79 1 ≤ yvS Y S (nP H) := by
          have : ¬ (yvS Y S (nP H) < h 79 1) := fun z => better (Or.inr z)
          omega
        obtain ⟨j, j1, j2, j3⟩ := ih (S + 1) (by omega) (0, yvS Y S (nP H)) h C hW (LSt_ge L e3 e4)
        refine ⟨j, ?_, j2, j3⟩
        rw [eq_Wish_search_117]
        simp only [px_rd_mk, px_wr_mk, Int.reduceToNat, Int.toNat_natCast, if_true, if_false, Option.bind_some, px_up_cell, px_up_slot, px_up_eq, ne_eq, Nat.reduceEqDiff, not_false_eq_true, Int.reduceEq, Int.reduceLT, Int.reduceLE, Int.reduceNeg, decide_true, decide_false, Bool.and_true, Bool.true_and, Bool.and_false, Bool.false_and, and_self, and_true, true_and, and_false, false_and, bi_T, bi_F, not_true_eq_false, Bool.false_eq_true, kg_79, sh, hlt, an1, yr, e1, e2, px_w_s (show S < 1000000 by omega)]
        exact j1
    · have an1 : (px_and (S : Int) (brm Y (nP H) : Int) = 0) = False := eq_false (by rw [an]; omega)
      obtain ⟨j, j1, j2, j3⟩ := ih (S + 1) (by omega) y7 h C hW (LSt_no L (fun z => c (ba.mpr z.1)))
      refine ⟨j, ?_, j2, j3⟩
      rw [eq_Wish_search_117]
      simp only [px_rd_mk, px_wr_mk, Int.reduceToNat, Int.toNat_natCast, if_true, if_false, Option.bind_some, px_up_cell, px_up_slot, px_up_eq, ne_eq, Nat.reduceEqDiff, not_false_eq_true, Int.reduceEq, Int.reduceLT, Int.reduceLE, Int.reduceNeg, decide_true, decide_false, Bool.and_true, Bool.true_and, Bool.and_false, Bool.false_and, and_self, and_true, true_and, and_false, false_and, bi_T, bi_F, not_true_eq_false, Bool.false_eq_true, kg_79, sh, hlt, an1, px_w_s (show S < 1000000 by omega)]
      exact j1
theorem R_search {n : Nat} (hn : n = 4 ∨ n = 26) {h : hp} (hI : IR h) (hS : ST n h) {H W m : Nat} (hH : h (n + 1) 3 = (H : Int)) (H5 : H ≤ 5) (hW : h 79 0 = (W : Int)) (hW2 : W < 1024) (hm : m ≤ 4) : ∃ g : hp, px_R (mm_Wish_search, 0, [(2, 79), (2, (n : Int)), (0, (m : Int)), (9, 0), (9, 0), (9, 0), (9, 0), (9, 0)], [], (K0, h)) = some (0, (K0, g)) ∧ Fr [80, 81, 82] [(79, 1), (79, 2)] h g ∧ LSt H W m (yV n H h) (2 ^ nP H) (g 79 1) (g 79 2) := by
  obtain ⟨g, y7, g1, g2, g3, g4, g5⟩ := search_fill hn hI hS hH H5 (m : Int)
  obtain ⟨j, j1, j2, j3⟩ := search_loop (n := n) (H := H) (W := W) (m := m) (Y := yV n H h) (fun p hp => apV_rng _ _ _ _) hW2 hm H5 (2 ^ nP H) 0 (Nat.zero_add _) y7 g g3 ((g2 79 0 rfl).trans hW) (by
    rw [g4, g5]
    exact Or.inl ⟨rfl, rfl, fun T hT => absurd hT (by omega)⟩)
  exact ⟨j, g1.trans j1, Fr_sub (Fr_tr g2 j2) rfl rfl, j3⟩
/-! The reference: its strings. -/
def MS (H : Nat) (Y : Nat → Int) (h : hp) : Prop := H ≤ 5 ∧ IR h ∧ h 123 43 = (nP H : Int) ∧ ∀ p, p < nP H → h 147 p = (pA H p : Int) ∧ h 148 p = (pB H p : Int) ∧ h 149 p = Y p
theorem R_makeStrings {n : Nat} (hn : n = 4 ∨ n = 26) {h : hp} (hI : IR h) (hS : ST n h) {H : Nat} (hH : h (n + 1) 3 = (H : Int)) (H5 : H ≤ 5) : ∃ g : hp, px_R (mm_Mod_makeStrings, 0, [(2, 123), (9, 0), (9, 0)], [], (K0, h)) = some (0, (K0, g)) ∧ Fr [147, 148, 149] [(123, 43)] h g ∧ MS H (yV n H h) g := by
  have n10 := (fx_pn ⟨H, by omega⟩).1
  have nx := fun a (ha : a < 5) => (fx_pn ⟨H, by omega⟩).2.1 ⟨a, ha⟩
  have n0 := (fx_pn ⟨H, by omega⟩).2.2
  simp only at n10 nx n0
  have c3 := ST_n hS (k := 3) (by decide)
  have H3 : ∀ {g : hp}, Fr [147, 148, 149] [(123, 43)] h g → g 125 3 = (H : Int) := fun F => by rw [F 125 3 rfl, c3.1]; exact hH
  have inner : ∀ k a b : Nat, b + k = H → a < b → a < H → ∀ g : hp, Fr [147, 148, 149] [(123, 43)] h g → g 123 43 = (prI H a b : Int) → (∀ p, p < prI H a b → g 147 p = (pA H p : Int) ∧ g 148 p = (pB H p : Int) ∧ g 149 p = yV n H h p) → ∃ j : hp, px_R (mm_Mod_makeStrings, 21, [(2, 123), (0, (a : Int)), (0, (b : Int))], [], (K0, g)) = px_R (mm_Mod_makeStrings, 7, [(2, 123), (0, ((a + 1 : Nat) : Int)), (0, (H : Int))], [], (K0, j)) ∧ Fr [147, 148, 149] [(123, 43)] h j ∧ j 123 43 = (prI H a H : Int) ∧ ∀ p, p < prI H a H → j 147 p = (pA H p : Int) ∧ j 148 p = (pB H p : Int) ∧ j 149 p = yV n H h p := by
    intro k
    induction k with
    | zero =>
      intro a b hb hab haH g F N V
      have : b = H := hb
      subst this
      have gI := IR_Fr hI F (by decide)
      refine ⟨g, ?_, F, N, V⟩
      rw [eq_Mod_makeStrings_21]
      simp only [px_rd_mk, px_wr_mk, Int.reduceToNat, Int.toNat_natCast, if_true, if_false, Option.bind_some, px_up_cell, px_up_slot, px_up_eq, ne_eq, Nat.reduceEqDiff, not_false_eq_true, Int.reduceEq, Int.reduceLT, Int.reduceLE, Int.reduceNeg, decide_true, decide_false, Bool.and_true, Bool.true_and, Bool.and_false, Bool.false_and, and_self, and_true, true_and, and_false, false_and, bi_T, bi_F, not_true_eq_false, Bool.false_eq_true, kg_123, ka_125, ir_123_0 gI, ir_123_12 gI, ir_123_13 gI, ir_123_14 gI, ir_123_15 gI, ir_123_16 gI, ir_123_17 gI, ir_123_18 gI, ir_123_19 gI, ir_123_20 gI, ir_123_21 gI, ir_123_30 gI, ir_123_31 gI, ir_123_32 gI, ir_123_33 gI, ir_123_34 gI, ir_123_35 gI, ir_123_36 gI, ir_123_37 gI, ir_123_38 gI, ir_123_39 gI, ir_123_41 gI, ir_123_42 gI, ir_123_44 gI, ir_123_45 gI, ir_123_46 gI, ir_123_50 gI, ir_123_54 gI, ir_123_55 gI, ir_123_56 gI, ir_123_57 gI, ir_123_58 gI, ir_123_59 gI, ir_123_60 gI, ir_123_61 gI, ir_123_62 gI, H3 F, Int.lt_irrefl, px_w_s (show a < 1000000 by omega)]
    | succ k ih =>
      intro a b hb hab haH g F N V
      have pp := fx_pp ⟨H, by omega⟩ ⟨b, by omega⟩ ⟨a, by omega⟩ (show b < H by omega) hab
      simp only at pp
      obtain ⟨pp1, pp2, pp3⟩ := pp
      have p10 : prI H a b < 10 := by omega
      have F1 : Fr [147, 148, 149] [(123, 43)] h (px_up (px_up g 147 (prI H a b) (a : Int)) 148 (prI H a b) (b : Int)) := Fr_up (Fr_up F _ rfl) _ rfl
      have gI := IR_Fr hI F (by decide)
      have gI1 := IR_Fr hI F1 (by decide)
      have gS1 := ST_F hn F1 rfl hS
      have gH1 : (px_up (px_up g 147 (prI H a b) (a : Int)) 148 (prI H a b) (b : Int)) (n + 1) 3 = (H : Int) := by rw [Fr_st hn F1 rfl (n + 1) (by omega) (by omega)]; exact hH
      have c4 := ST_n gS1 (k := 4) (by decide)
      obtain ⟨P, hP⟩ := Int.eq_ofNat_of_zero_le c4.2.1
      have hP2 : ((px_up (px_up g 147 (prI H a b) (a : Int)) 148 (prI H a b) (b : Int)) (n + 1) 4).toNat = P := by omega
      have ib := barred_loop gI1 gS1 (a := a) (b := b) (by omega) (by omega) hP P 0 (Nat.zero_add P) (9, 0) (9, 0) (9, 0) (9, 0)
      have yo := R_yardsOf gI1 gS1 (a := a) (b := b) (by omega) (by omega)
      have eY : yV n H h (prI H a b) = apV n (px_up (px_up g 147 (prI H a b) (a : Int)) 148 (prI H a b) (b : Int)) a b := by
        rw [apV_F hn F1 rfl]
        unfold yV pA pB
        rw [pp1]
      have eAB : pA H (prI H a b) = a ∧ pB H (prI H a b) = b := by
        unfold pA pB
        rw [pp1]
        exact ⟨rfl, rfl⟩
      unfold apV at eY
      rw [hP2] at eY
      have hlt : ((b : Int) < (H : Int)) = True := eq_true (by omega)
      have gp : (decide ((0 : Int) ≤ (prI H a b : Int)) && decide ((prI H a b : Int) < 10)) = true := gd_ok (by omega)
      obtain ⟨j, j1, j2, j3, j4⟩ := ih a (b + 1) (by omega) (by omega) haH (px_up (px_up (px_up (px_up g 147 (prI H a b) (a : Int)) 148 (prI H a b) (b : Int)) 149 (prI H a b) (yV n H h (prI H a b))) 123 43 ((prI H a b + 1 : Nat) : Int)) (Fr_up (Fr_up F1 _ rfl) _ rfl) (by rw [px_up_eq, pp3]) (fun p hp => by
        simp only [px_up_cell, px_up_slot, px_up_eq, ne_eq, Nat.reduceEqDiff, not_false_eq_true, px_up_at]
        by_cases e : p = prI H a b
        · rw [if_pos e, if_pos e, if_pos e, e, eAB.1, eAB.2]
          exact ⟨rfl, rfl, rfl⟩
        · rw [if_neg e, if_neg e, if_neg e]
          exact V p (by omega))
      refine ⟨j, ?_, j2, j3, j4⟩
      have ib0 : px_R (mm_Mod_isBarred, 0, [(2, 123), (0, (a : Int)), (0, (b : Int)), (9, 0), (9, 0), (9, 0), (9, 0), (9, 0)], [], (K0, px_up (px_up g 147 (prI H a b) (a : Int)) 148 (prI H a b) (b : Int))) = some (if anf (brd n (px_up (px_up g 147 (prI H a b) (a : Int)) 148 (prI H a b) (b : Int)) a b) 0 P = true then 1 else 0, (K0, px_up (px_up g 147 (prI H a b) (a : Int)) 148 (prI H a b) (b : Int))) := by
        rw [eq_Mod_isBarred_0]
        exact ib
      rw [eq_Mod_makeStrings_21]
      by_cases c : anf (brd n (px_up (px_up g 147 (prI H a b) (a : Int)) 148 (prI H a b) (b : Int)) a b) 0 P = true
      · rw [if_pos c] at eY ib0
        rw [eY] at j1
        simp only [px_rd_mk, px_wr_mk, Int.reduceToNat, Int.toNat_natCast, if_true, if_false, Option.bind_some, px_up_cell, px_up_slot, px_up_eq, ne_eq, Nat.reduceEqDiff, not_false_eq_true, Int.reduceEq, Int.reduceLT, Int.reduceLE, Int.reduceNeg, decide_true, decide_false, Bool.and_true, Bool.true_and, Bool.and_false, Bool.false_and, and_self, and_true, true_and, and_false, false_and, bi_T, bi_F, not_true_eq_false, Bool.false_eq_true, kg_123, ka_125, ka_147, ka_148, ka_149, ir_123_0 gI, ir_123_12 gI, ir_123_13 gI, ir_123_14 gI, ir_123_15 gI, ir_123_16 gI, ir_123_17 gI, ir_123_18 gI, ir_123_19 gI, ir_123_20 gI, ir_123_21 gI, ir_123_30 gI, ir_123_31 gI, ir_123_32 gI, ir_123_33 gI, ir_123_34 gI, ir_123_35 gI, ir_123_36 gI, ir_123_37 gI, ir_123_38 gI, ir_123_39 gI, ir_123_41 gI, ir_123_42 gI, ir_123_44 gI, ir_123_45 gI, ir_123_46 gI, ir_123_50 gI, ir_123_54 gI, ir_123_55 gI, ir_123_56 gI, ir_123_57 gI, ir_123_58 gI, ir_123_59 gI, ir_123_60 gI, ir_123_61 gI, ir_123_62 gI, H3 F, hlt, N, gp, ib0, px_w_s (show a < 1000000 by omega), px_w_s (show b < 1000000 by omega), px_w_s (show prI H a b < 1000000 by omega)]
        exact j1
      · rw [if_neg c] at eY ib0
        rw [eY] at j1
        simp only [px_rd_mk, px_wr_mk, Int.reduceToNat, Int.toNat_natCast, if_true, if_false, Option.bind_some, px_up_cell, px_up_slot, px_up_eq, ne_eq, Nat.reduceEqDiff, not_false_eq_true, Int.reduceEq, Int.reduceLT, Int.reduceLE, Int.reduceNeg, decide_true, decide_false, Bool.and_true, Bool.true_and, Bool.and_false, Bool.false_and, and_self, and_true, true_and, and_false, false_and, bi_T, bi_F, not_true_eq_false, Bool.false_eq_true, kg_123, ka_125, ka_147, ka_148, ka_149, ir_123_0 gI, ir_123_12 gI, ir_123_13 gI, ir_123_14 gI, ir_123_15 gI, ir_123_16 gI, ir_123_17 gI, ir_123_18 gI, ir_123_19 gI, ir_123_20 gI, ir_123_21 gI, ir_123_30 gI, ir_123_31 gI, ir_123_32 gI, ir_123_33 gI, ir_123_34 gI, ir_123_35 gI, ir_123_36 gI, ir_123_37 gI, ir_123_38 gI, ir_123_39 gI, ir_123_41 gI, ir_123_42 gI, ir_123_44 gI, ir_123_45 gI, ir_123_46 gI, ir_123_50 gI, ir_123_54 gI, ir_123_55 gI, ir_123_56 gI, ir_123_57 gI, ir_123_58 gI, ir_123_59 gI, ir_123_60 gI, ir_123_61 gI, ir_123_62 gI, H3 F, hlt, N, gp, ib0, yo, px_w_s (show a < 1000000 by omega), px_w_s (show b < 1000000 by omega), px_w_s (show prI H a b < 1000000 by omega)]
        exact j1
  have outer : ∀ k a : Nat, a + k = H → ∀ P : Nat, P = (if a < H then prI H a (a + 1) else nP H) → ∀ (y2 : pv) (g : hp), Fr [147, 148, 149] [(123, 43)] h g → g 123 43 = (P : Int) → (∀ p, p < P → g 147 p = (pA H p : Int) ∧ g 148 p = (pB H p : Int) ∧ g 149 p = yV n H h p) → ∃ j : hp, px_R (mm_Mod_makeStrings, 7, [(2, 123), (0, (a : Int)), y2], [], (K0, g)) = some (0, (K0, j)) ∧ Fr [147, 148, 149] [(123, 43)] h j ∧ j 123 43 = (nP H : Int) ∧ ∀ p, p < nP H → j 147 p = (pA H p : Int) ∧ j 148 p = (pB H p : Int) ∧ j 149 p = yV n H h p := by
    intro k
    induction k with
    | zero =>
      intro a ha P hP y2 g F N V
      have : a = H := ha
      subst this
      rw [if_neg (Nat.lt_irrefl _)] at hP
      subst hP
      have gI := IR_Fr hI F (by decide)
      refine ⟨g, ?_, F, N, V⟩
      rw [eq_Mod_makeStrings_7]
      simp only [px_rd_mk, px_wr_mk, Int.reduceToNat, Int.toNat_natCast, if_true, if_false, Option.bind_some, px_up_cell, px_up_slot, px_up_eq, ne_eq, Nat.reduceEqDiff, not_false_eq_true, Int.reduceEq, Int.reduceLT, Int.reduceLE, Int.reduceNeg, decide_true, decide_false, Bool.and_true, Bool.true_and, Bool.and_false, Bool.false_and, and_self, and_true, true_and, and_false, false_and, bi_T, bi_F, not_true_eq_false, Bool.false_eq_true, kg_123, ka_125, ir_123_0 gI, ir_123_12 gI, ir_123_13 gI, ir_123_14 gI, ir_123_15 gI, ir_123_16 gI, ir_123_17 gI, ir_123_18 gI, ir_123_19 gI, ir_123_20 gI, ir_123_21 gI, ir_123_30 gI, ir_123_31 gI, ir_123_32 gI, ir_123_33 gI, ir_123_34 gI, ir_123_35 gI, ir_123_36 gI, ir_123_37 gI, ir_123_38 gI, ir_123_39 gI, ir_123_41 gI, ir_123_42 gI, ir_123_44 gI, ir_123_45 gI, ir_123_46 gI, ir_123_50 gI, ir_123_54 gI, ir_123_55 gI, ir_123_56 gI, ir_123_57 gI, ir_123_58 gI, ir_123_59 gI, ir_123_60 gI, ir_123_61 gI, ir_123_62 gI, H3 F, Int.lt_irrefl]
    | succ k ih =>
      intro a ha P hP y2 g F N V
      have haH : a < H := by omega
      rw [if_pos haH] at hP
      subst hP
      have gI := IR_Fr hI F (by decide)
      obtain ⟨j, j1, j2, j3, j4⟩ := inner k a (a + 1) (by omega) (by omega) haH g F N V
      have nn := nx a (by omega) haH
      obtain ⟨j', r1, r2, r3⟩ := ih (a + 1) (by omega) (prI H a H) nn (0, (H : Int)) j j2 j3 j4
      have hlt : ((a : Int) < (H : Int)) = True := eq_true (by omega)
      refine ⟨j', ?_, r2, r3⟩
      rw [eq_Mod_makeStrings_7]
      simp only [px_rd_mk, px_wr_mk, Int.reduceToNat, Int.toNat_natCast, if_true, if_false, Option.bind_some, px_up_cell, px_up_slot, px_up_eq, ne_eq, Nat.reduceEqDiff, not_false_eq_true, Int.reduceEq, Int.reduceLT, Int.reduceLE, Int.reduceNeg, decide_true, decide_false, Bool.and_true, Bool.true_and, Bool.and_false, Bool.false_and, and_self, and_true, true_and, and_false, false_and, bi_T, bi_F, not_true_eq_false, Bool.false_eq_true, kg_123, ka_125, ir_123_0 gI, ir_123_12 gI, ir_123_13 gI, ir_123_14 gI, ir_123_15 gI, ir_123_16 gI, ir_123_17 gI, ir_123_18 gI, ir_123_19 gI, ir_123_20 gI, ir_123_21 gI, ir_123_30 gI, ir_123_31 gI, ir_123_32 gI, ir_123_33 gI, ir_123_34 gI, ir_123_35 gI, ir_123_36 gI, ir_123_37 gI, ir_123_38 gI, ir_123_39 gI, ir_123_41 gI, ir_123_42 gI, ir_123_44 gI, ir_123_45 gI, ir_123_46 gI, ir_123_50 gI, ir_123_54 gI, ir_123_55 gI, ir_123_56 gI, ir_123_57 gI, ir_123_58 gI, ir_123_59 gI, ir_123_60 gI, ir_123_61 gI, ir_123_62 gI, H3 F, hlt, px_w_s (show a < 1000000 by omega)]
      exact j1.trans r1
  have F0 : Fr [147, 148, 149] [(123, 43)] h (px_up h 123 43 0) := Fr_up (Fr_rf _ _ _) _ rfl
  obtain ⟨j, r1, r2, r3, r4⟩ := outer H 0 (Nat.zero_add H) 0 (by
    by_cases c : 0 < H
    · rw [if_pos c, n0 c]
    · have : H = 0 := by omega
      subst this
      rfl) (9, 0) (px_up h 123 43 0) F0 (px_up_eq _ _ _ _) (fun p hp => absurd hp (by omega))
  refine ⟨j, ?_, r2, H5, IR_Fr hI r2 (by decide), r3, r4⟩
  rw [eq_Mod_makeStrings_0]
  simp only [px_rd_mk, px_wr_mk, Int.reduceToNat, Int.toNat_natCast, if_true, if_false, Option.bind_some, px_up_cell, px_up_slot, px_up_eq, ne_eq, Nat.reduceEqDiff, not_false_eq_true, Int.reduceEq, Int.reduceLT, Int.reduceLE, Int.reduceNeg, decide_true, decide_false, Bool.and_true, Bool.true_and, Bool.and_false, Bool.false_and, and_self, and_true, true_and, and_false, false_and, bi_T, bi_F, not_true_eq_false, Bool.false_eq_true, kg_123]
  exact r1
