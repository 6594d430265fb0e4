/-! The least string: the class's search. -/
theorem yrd_rng (sq : Int) : ∀ k i : Nat, i + k = 141 → 0 ≤ yrd sq i k ∧ yrd sq i k ≤ 141
  | 0, i, e => by unfold yrd; omega
  | k + 1, i, e => by
    have := yrd_rng sq k (i + 1) (by omega)
    unfold yrd
    split <;> omega
theorem apV_rng (n : Nat) (h : hp) (a b : Nat) : -1 ≤ apV n h a b ∧ apV n h a b ≤ 141 := by
  have := yrd_rng (sqV n h a b) 141 0 rfl
  unfold apV
  split <;> omega
theorem apV_F {n : Nat} (hn : n = 4 ∨ n = 26) {cs : List Nat} {ss : List (Nat × Nat)} {h g : hp} (F : Fr cs ss h g) (e : frf 4 48 cs ss = true) (a b : Nat) : apV n g a b = apV n h a b := by
  have e1 := Fr_st hn F e (n + 1) (by omega) (by omega)
  have e16 := Fr_st hn F e (n + 16) (by omega) (by omega)
  have e17 := Fr_st hn F e (n + 17) (by omega) (by omega)
  have eb : brd n g a b = brd n h a b := by
    funext p
    unfold brd
    rw [e16, e17]
  unfold apV sqV
  rw [eb, e1, e16]
def brm (Y : Nat → Int) : Nat → Nat
  | 0 => 0
  | p + 1 => brm Y p ||| (if Y p = -1 then 2 ^ p else 0)
theorem brm_lt (Y : Nat → Int) : ∀ p : Nat, brm Y p < 2 ^ p
  | 0 => by rw [brm]; decide
  | p + 1 => by
    rw [brm]
    refine Nat.or_lt_two_pow (Nat.lt_of_lt_of_le (brm_lt Y p) (Nat.pow_le_pow_right (by decide) (by omega))) ?_
    split
    · exact Nat.pow_lt_pow_right (by decide) (by omega)
    · exact Nat.two_pow_pos _
theorem brm_tb (Y : Nat → Int) (q : Nat) : ∀ p : Nat, (brm Y p).testBit q = true ↔ q < p ∧ Y q = -1
  | 0 => by
    rw [brm, Nat.zero_testBit]
    simp
  | p + 1 => by
    rw [brm, Nat.testBit_or, Bool.or_eq_true, brm_tb Y q p]
    constructor
    · rintro (z | z)
      · exact ⟨by omega, z.2⟩
      · by_cases c : Y p = -1
        · rw [if_pos c, Nat.testBit_two_pow] at z
          have : p = q := of_decide_eq_true z
          subst this
          exact ⟨by omega, c⟩
        · rw [if_neg c, Nat.zero_testBit] at z
          cases z
    · rintro ⟨z1, z2⟩
      by_cases c : q = p
      · subst c
        right
        rw [if_pos z2, Nat.testBit_two_pow]
        simp
      · exact Or.inl ⟨by omega, z2⟩
theorem brm_and {Y : Nat → Int} {S P : Nat} (hY : ∀ p, p < P → -1 ≤ Y p ∧ Y p ≤ 141) : (S &&& brm Y P = 0) ↔ ∀ p, p < P → inS S p = true → 0 ≤ Y p := by
  constructor
  · intro z p hp hi
    have e : (S &&& brm Y P).testBit p = false := by rw [z, Nat.zero_testBit]
    rw [Nat.testBit_and, ← inS_tb, hi, Bool.true_and] at e
    have := hY p hp
    by_cases c : Y p = -1
    · have b := (brm_tb Y p P).mpr ⟨hp, c⟩
      rw [e] at b
      cases b
    · omega
  · intro z
    refine Nat.eq_of_testBit_eq fun i => ?_
    rw [Nat.zero_testBit, Nat.testBit_and, Bool.eq_false_iff]
    intro q
    rw [Bool.and_eq_true, ← inS_tb] at q
    have b := (brm_tb Y i P).mp q.2
    have := z i b.1 q.1
    omega
theorem yvS_nn {Y : Nat → Int} {S : Nat} : ∀ p : Nat, (∀ q, q < p → inS S q = true → 0 ≤ Y q) → 0 ≤ yvS Y S p
  | 0, _ => by unfold yvS; omega
  | p + 1, h => by
    have := yvS_nn (Y := Y) (S := S) p fun q hq => h q (by omega)
    have := h p (by omega)
    rw [yvS]
    split
    · have := h p (by omega) (by assumption)
      omega
    · omega
/-- yards of the strings of a street's houses -/
def yV (n H : Nat) (h : hp) (p : Nat) : Int := apV n h (pA H p) (pB H p)
theorem WC_F {H : Nat} {Y : Nat → Int} {h g : hp} {cs : List Nat} {ss : List (Nat × Nat)} (C : WC H Y h) (F : Fr cs ss h g) (e : fdj cs ss [80, 81] [] = true) (e2 : IR h → IR g) : WC H Y g := by
  have c := Fr_dj F e
  refine ⟨C.1, e2 C.2.1, fun p hp => ?_⟩
  rw [c 80 p rfl, c 81 p rfl]
  exact C.2.2 p hp
theorem search_fill {n : Nat} (hn : n = 4 ∨ n = 26) {h : hp} (hI : IR h) (hS : ST n h) {H : Nat} (hH : h (n + 1) 3 = (H : Int)) (H5 : H ≤ 5) (m : Int) : ∃ (g : hp) (y7 : pv), px_R (mm_Wish_search, 0, [(2, 79), (2, (n : Int)), (0, m), (9, 0), (9, 0), (9, 0), (9, 0), (9, 0)], [], (K0, h)) = px_R (mm_Wish_search, 117, [(2, 79), (2, (n : Int)), (0, m), (0, (H : Int)), (0, (nP H : Int)), (0, (brm (yV n H h) (nP H) : Int)), (0, 0), y7], [], (K0, g)) ∧ Fr [80, 81] [(79, 1), (79, 2)] h g ∧ WC H (yV n H h) g ∧ g 79 1 = -1 ∧ g 79 2 = -1 := by
  have n10 := (fx_pn ⟨H, by omega⟩).1
  have nx := fun a (ha : a < 5) => (fx_pn ⟨H, by omega⟩).2.1 ⟨a, ha⟩
  have n0 := (fx_pn ⟨H, by omega⟩).2.2
  simp only at n10 nx n0
  have inner : ∀ k a b : Nat, b + k = H → a < b → a < H → ∀ g : hp, Fr [80, 81] [] h g → (∀ p, p < prI H a b → g 80 p = yV n H h p ∧ g 81 p = ((2 ^ pA H p ||| 2 ^ pB H p : Nat) : Int)) → ∃ j : hp, px_R (mm_Wish_search, 28, [(2, 79), (2, (n : Int)), (0, m), (0, (H : Int)), (0, (prI H a b : Int)), (0, (brm (yV n H h) (prI H a b) : Int)), (0, (a : Int)), (0, (b : Int))], [], (K0, g)) = px_R (mm_Wish_search, 16, [(2, 79), (2, (n : Int)), (0, m), (0, (H : Int)), (0, (prI H a H : Int)), (0, (brm (yV n H h) (prI H a H) : Int)), (0, ((a + 1 : Nat) : Int)), (0, (H : Int))], [], (K0, j)) ∧ Fr [80, 81] [] h j ∧ ∀ p, p < prI H a H → j 80 p = yV n H h p ∧ j 81 p = ((2 ^ pA H p ||| 2 ^ pB H p : Nat) : Int) := by
    intro k
    induction k with
    | zero =>
      intro a b hb hab haH g F V
      have : b = H := hb
      subst this
      exact ⟨g, by rw [eq_Wish_search_28, if_neg (Int.lt_irrefl _), px_w_s (by omega)], F, V⟩
    | succ k ih =>
      intro a b hb hab haH g F V
      have pp := fx_pp ⟨H, by omega⟩ ⟨b, by omega⟩ ⟨a, by omega⟩ (show b < H by omega) hab
      simp only at pp
      obtain ⟨pp1, pp2, pp3⟩ := pp
      have p10 : prI H a b < 10 := by omega
      have gI := IR_Fr hI F (by decide)
      have gS := ST_F hn F rfl hS
      have gH : g (n + 1) 3 = (H : Int) := by rw [Fr_st hn F rfl (n + 1) (by omega) (by omega)]; exact hH
      have ap := R_apart hn gI gS (a := a) (b := b) (by omega) (by omega)
      have eY : apV n g a b = yV n H h (prI H a b) := by
        rw [apV_F hn F rfl]
        unfold yV pA pB
        rw [pp1]
      rw [eY] at ap
      have eAB : pA H (prI H a b) = a ∧ pB H (prI H a b) = b := by
        unfold pA pB
        rw [pp1]
        exact ⟨rfl, rfl⟩
      have o1 := (fx_ors ⟨b, by omega⟩ ⟨a, by omega⟩ hab).1
      simp only at o1
      have hlt : ((b : Int) < (H : Int)) = True := eq_true (by omega)
      have gp : (decide ((0 : Int) ≤ (prI H a b : Int)) && decide ((prI H a b : Int) < 10)) = true := gd_ok (by omega)
      have bl := brm_lt (yV n H h) (prI H a b)
      have b2 : 2 ^ prI H a b ≤ 2 ^ 9 := Nat.pow_le_pow_right (by decide) (by omega)
      have bs : brm (yV n H h) (prI H a b + 1) = brm (yV n H h) (prI H a b) ||| (if yV n H h (prI H a b) = -1 then 2 ^ prI H a b else 0) := rfl
      obtain ⟨j, j1, j2, j3⟩ := ih a (b + 1) (by omega) (by omega) haH (px_up (px_up g 80 (prI H a b) (yV n H h (prI H a b))) 81 (prI H a b) ((2 ^ a ||| 2 ^ b : Nat) : Int)) (Fr_up (Fr_up F _ rfl) _ rfl) (fun p hp => by
        simp only [px_up_cell, px_up_slot, px_up_eq, ne_eq, Nat.reduceEqDiff, not_false_eq_true, px_up_at]
        by_cases e : p = prI H a b
        · rw [if_pos e, if_pos e, e, eAB.1, eAB.2]
          exact ⟨rfl, rfl⟩
        · rw [if_neg e, if_neg e]
          exact V p (by omega))
      refine ⟨j, ?_, j2, j3⟩
      rw [← pp3, bs] at j1
      by_cases c : yV n H h (prI H a b) = -1
      · rw [if_pos c] at j1
        have oo := or_n (a := brm (yV n H h) (prI H a b)) (b := 2 ^ prI H a b) (by omega) (by omega)
        have cT := eq_true c
        rw [eq_Wish_search_28]
        simp only [px_rd_mk, px_wr_mk, Int.reduceToNat, Int.toNat_natCast, if_true, if_false, Option.bind_some, px_up_cell, px_up_slot, px_up_eq, ne_eq, Nat.reduceEqDiff, not_false_eq_true, Int.reduceEq, Int.reduceLT, Int.reduceLE, Int.reduceNeg, decide_true, decide_false, Bool.and_true, Bool.true_and, Bool.and_false, Bool.false_and, and_self, and_true, true_and, and_false, false_and, bi_T, bi_F, not_true_eq_false, Bool.false_eq_true, kg_79, ka_80, ka_81, hlt, ap, ir_79_3 gI, ir_79_4 gI, ir_79_5 gI, gp, shl_g (show a < 31 by omega), shl_g (show b < 31 by omega), shl_g (show prI H a b < 31 by omega), o1, oo, cT, px_w_s (show b < 1000000 by omega), px_w_s (show prI H a b < 1000000 by omega)]
        exact j1
      · rw [if_neg c] at j1
        have oo := or_n (a := brm (yV n H h) (prI H a b)) (b := 0) (by omega) (by omega)
        have oo : px_or (brm (yV n H h) (prI H a b) : Int) 0 = _ := oo
        have cF := eq_false c
        rw [eq_Wish_search_28]
        simp only [px_rd_mk, px_wr_mk, Int.reduceToNat, Int.toNat_natCast, if_true, if_false, Option.bind_some, px_up_cell, px_up_slot, px_up_eq, ne_eq, Nat.reduceEqDiff, not_false_eq_true, Int.reduceEq, Int.reduceLT, Int.reduceLE, Int.reduceNeg, decide_true, decide_false, Bool.and_true, Bool.true_and, Bool.and_false, Bool.false_and, and_self, and_true, true_and, and_false, false_and, bi_T, bi_F, not_true_eq_false, Bool.false_eq_true, kg_79, ka_80, ka_81, hlt, ap, ir_79_3 gI, ir_79_4 gI, ir_79_5 gI, gp, shl_g (show a < 31 by omega), shl_g (show b < 31 by omega), shl_g (show prI H a b < 31 by omega), o1, oo, cF, px_w_s (show b < 1000000 by omega), px_w_s (show prI H a b < 1000000 by omega)]
        exact j1
  have outer : ∀ k a : Nat, a + k = H → ∀ P : Nat, P = (if a < H then prI H a (a + 1) else nP H) → ∀ (y7 : pv) (g : hp), Fr [80, 81] [] h g → (∀ p, p < P → g 80 p = yV n H h p ∧ g 81 p = ((2 ^ pA H p ||| 2 ^ pB H p : Nat) : Int)) → ∃ (j : hp) (z7 : pv), px_R (mm_Wish_search, 16, [(2, 79), (2, (n : Int)), (0, m), (0, (H : Int)), (0, (P : Int)), (0, (brm (yV n H h) P : Int)), (0, (a : Int)), y7], [], (K0, g)) = px_R (mm_Wish_search, 117, [(2, 79), (2, (n : Int)), (0, m), (0, (H : Int)), (0, (nP H : Int)), (0, (brm (yV n H h) (nP H) : Int)), (0, 0), z7], [], (K0, px_up (px_up j 79 1 (-1)) 79 2 (-1))) ∧ Fr [80, 81] [] h j ∧ ∀ p, p < nP H → j 80 p = yV n H h p ∧ j 81 p = ((2 ^ pA H p ||| 2 ^ pB H p : Nat) : Int) := by
    intro k
    induction k with
    | zero =>
      intro a ha P hP y7 g F V
      have : a = H := ha
      subst this
      rw [if_neg (Nat.lt_irrefl _)] at hP
      subst hP
      refine ⟨g, y7, ?_, F, V⟩
      rw [eq_Wish_search_16, if_neg (Int.lt_irrefl _)]
      simp only [px_rd_mk, px_wr_mk, Int.reduceToNat, Int.toNat_natCast, if_true, if_false, Option.bind_some, px_up_cell, px_up_slot, px_up_eq, ne_eq, Nat.reduceEqDiff, not_false_eq_true, Int.reduceEq, Int.reduceLT, Int.reduceLE, Int.reduceNeg, decide_true, decide_false, Bool.and_true, Bool.true_and, Bool.and_false, Bool.false_and, and_self, and_true, true_and, and_false, false_and, bi_T, bi_F, not_true_eq_false, Bool.false_eq_true, kg_79]
    | succ k ih =>
      intro a ha P hP y7 g F V
      have haH : a < H := by omega
      rw [if_pos haH] at hP
      subst hP
      obtain ⟨j, j1, j2, j3⟩ := inner k a (a + 1) (by omega) (by omega) haH g F V
      have nn := nx a (by omega) haH
      obtain ⟨j', z7, r1, r2, r3⟩ := ih (a + 1) (by omega) (prI H a H) nn (0, (H : Int)) j j2 j3
      refine ⟨j', z7, ?_, r2, r3⟩
      rw [eq_Wish_search_16, if_pos (by omega), px_w_s (by omega)]
      exact j1.trans r1
  obtain ⟨j, z7, r1, r2, r3⟩ := outer H 0 (Nat.zero_add H) 0 (by
    by_cases c : 0 < H
    · rw [if_pos c, n0 c]
    · have : H = 0 := by omega
      subst this
      rfl) (9, 0) h (Fr_rf _ _ _) (fun p hp => absurd hp (by omega))
  refine ⟨px_up (px_up j 79 1 (-1)) 79 2 (-1), z7, ?_, Fr_up (Fr_up (Fr_sub r2 rfl rfl) _ rfl) _ rfl, ⟨H5, IR_Fr hI (Fr_up (Fr_up (Fr_sub (cs2 := [80, 81]) (ss2 := [(79, 1), (79, 2)]) r2 rfl rfl) _ rfl) _ rfl) (by decide), fun p hp => ?_⟩, ?_, ?_⟩
  · rw [eq_Wish_search_0]
    simp only [px_rd_mk, px_wr_mk, Int.reduceToNat, Int.toNat_natCast, if_true, if_false, Option.bind_some, px_up_cell, px_up_slot, px_up_eq, ne_eq, Nat.reduceEqDiff, not_false_eq_true, Int.reduceEq, Int.reduceLT, Int.reduceLE, Int.reduceNeg, decide_true, decide_false, Bool.and_true, Bool.true_and, Bool.and_false, Bool.false_and, and_self, and_true, true_and, and_false, false_and, bi_T, bi_F, not_true_eq_false, Bool.false_eq_true, kg_79, sgo hn, sr1 hn hI, sga1 hn, hH]
    exact r1
  · simp only [px_up_cell, px_up_slot, px_up_eq, ne_eq, Nat.reduceEqDiff, not_false_eq_true]
    exact r3 p hp
  · simp only [px_up_cell, px_up_slot, px_up_eq, ne_eq, Nat.reduceEqDiff, not_false_eq_true]
  · simp only [px_up_cell, px_up_slot, px_up_eq, ne_eq, Nat.reduceEqDiff, not_false_eq_true]
