/-! The reference settles what it read. -/
theorem comes_125 (h0 : hp) (k : Nat) : ∀ (i : Nat) (h : hp), i + k = 9 → (∀ a b : Nat, ¬ (a = 125 ∧ b < i) → h a b = h0 a b) → (∀ z, z < i → h 125 z = h0 125 (9 + z)) → ∃ g : hp, px_R (mm_Mod_comes, 2, [(2, 125), (0, 9), (0, (i : Int))], [], (K0, h)) = some (0, (K0, g)) ∧ (∀ a b : Nat, ¬ (a = 125 ∧ b < 9) → g a b = h0 a b) ∧ ∀ z, z < 9 → g 125 z = h0 125 (9 + z) := by
  induction k with
  | zero =>
    intro i h hi F V
    have : i = 9 := hi
    subst this
    exact ⟨h, by rw [eq_Mod_comes_2, if_neg (by decide)], F, V⟩
  | succ k ih =>
    intro i h hi F V
    have hlt : ((i : Int) < 9) = True := eq_true (by omega)
    have u : -2147483648 ≤ 9 + (i : Int) ∧ 9 + (i : Int) < 2147483648 := by omega
    have ue : 9 + (i : Int) = ((9 + i : Nat) : Int) := by omega
    have g1 : px_ga (K0, h) 0 125 (i : Int) = true := by
      rw [ka_125]
      exact gd_ok (by omega)
    have g2 : px_ga (K0, h) 0 125 ((9 + i : Nat) : Int) = true := by
      rw [ka_125]
      exact gd_ok (by omega)
    have hv : h 125 (9 + i) = h0 125 (9 + i) := F _ _ (by omega)
    obtain ⟨g, r1, r2, r3⟩ := ih (i + 1) (px_up h 125 i (h0 125 (9 + i))) (by omega) (fun a b hab => by
      unfold px_up
      rw [if_neg (by omega)]
      exact F a b (by omega)) (fun z hz => by
      rw [px_up_at]
      by_cases e : z = i
      · rw [if_pos e, e]
      · rw [if_neg e]
        exact V z (by omega))
    refine ⟨g, ?_, r2, r3⟩
    rw [eq_Mod_comes_2]
    simp only [px_rd_mk, px_wr_mk, Int.reduceToNat, Int.toNat_natCast, if_true, if_false, Option.bind_some, px_up_cell, px_up_slot, px_up_eq, ne_eq, Nat.reduceEqDiff, not_false_eq_true, Int.reduceEq, Int.reduceLT, Int.reduceLE, Int.reduceNeg, decide_true, decide_false, Bool.and_true, Bool.true_and, Bool.and_false, Bool.false_and, and_self, and_true, true_and, and_false, false_and, bi_T, bi_F, not_true_eq_false, Bool.false_eq_true, hlt, g1, g2, (px_w_n u).trans ue, hv, px_w_s (show i < 1000000 by omega)]
    exact r1
theorem comes_127 (h0 : hp) (k : Nat) : ∀ (i : Nat) (h : hp), i + k = 20 → (∀ a b : Nat, ¬ (a = 127 ∧ b < i) → h a b = h0 a b) → (∀ z, z < i → h 127 z = h0 127 (20 + z)) → ∃ g : hp, px_R (mm_Mod_comes, 2, [(2, 127), (0, 20), (0, (i : Int))], [], (K0, h)) = some (0, (K0, g)) ∧ (∀ a b : Nat, ¬ (a = 127 ∧ b < 20) → g a b = h0 a b) ∧ ∀ z, z < 20 → g 127 z = h0 127 (20 + z) := by
  induction k with
  | zero =>
    intro i h hi F V
    have : i = 20 := hi
    subst this
    exact ⟨h, by rw [eq_Mod_comes_2, if_neg (by decide)], F, V⟩
  | succ k ih =>
    intro i h hi F V
    have hlt : ((i : Int) < 20) = True := eq_true (by omega)
    have u : -2147483648 ≤ 20 + (i : Int) ∧ 20 + (i : Int) < 2147483648 := by omega
    have ue : 20 + (i : Int) = ((20 + i : Nat) : Int) := by omega
    have g1 : px_ga (K0, h) 0 127 (i : Int) = true := by
      rw [ka_127]
      exact gd_ok (by omega)
    have g2 : px_ga (K0, h) 0 127 ((20 + i : Nat) : Int) = true := by
      rw [ka_127]
      exact gd_ok (by omega)
    have hv : h 127 (20 + i) = h0 127 (20 + i) := F _ _ (by omega)
    obtain ⟨g, r1, r2, r3⟩ := ih (i + 1) (px_up h 127 i (h0 127 (20 + i))) (by omega) (fun a b hab => by
      unfold px_up
      rw [if_neg (by omega)]
      exact F a b (by omega)) (fun z hz => by
      rw [px_up_at]
      by_cases e : z = i
      · rw [if_pos e, e]
      · rw [if_neg e]
        exact V z (by omega))
    refine ⟨g, ?_, r2, r3⟩
    rw [eq_Mod_comes_2]
    simp only [px_rd_mk, px_wr_mk, Int.reduceToNat, Int.toNat_natCast, if_true, if_false, Option.bind_some, px_up_cell, px_up_slot, px_up_eq, ne_eq, Nat.reduceEqDiff, not_false_eq_true, Int.reduceEq, Int.reduceLT, Int.reduceLE, Int.reduceNeg, decide_true, decide_false, Bool.and_true, Bool.true_and, Bool.and_false, Bool.false_and, and_self, and_true, true_and, and_false, false_and, bi_T, bi_F, not_true_eq_false, Bool.false_eq_true, hlt, g1, g2, (px_w_n u).trans ue, hv, px_w_s (show i < 1000000 by omega)]
    exact r1
theorem comes_128 (h0 : hp) (k : Nat) : ∀ (i : Nat) (h : hp), i + k = 16 → (∀ a b : Nat, ¬ (a = 128 ∧ b < i) → h a b = h0 a b) → (∀ z, z < i → h 128 z = h0 128 (16 + z)) → ∃ g : hp, px_R (mm_Mod_comes, 2, [(2, 128), (0, 16), (0, (i : Int))], [], (K0, h)) = some (0, (K0, g)) ∧ (∀ a b : Nat, ¬ (a = 128 ∧ b < 16) → g a b = h0 a b) ∧ ∀ z, z < 16 → g 128 z = h0 128 (16 + z) := by
  induction k with
  | zero =>
    intro i h hi F V
    have : i = 16 := hi
    subst this
    exact ⟨h, by rw [eq_Mod_comes_2, if_neg (by decide)], F, V⟩
  | succ k ih =>
    intro i h hi F V
    have hlt : ((i : Int) < 16) = True := eq_true (by omega)
    have u : -2147483648 ≤ 16 + (i : Int) ∧ 16 + (i : Int) < 2147483648 := by omega
    have ue : 16 + (i : Int) = ((16 + i : Nat) : Int) := by omega
    have g1 : px_ga (K0, h) 0 128 (i : Int) = true := by
      rw [ka_128]
      exact gd_ok (by omega)
    have g2 : px_ga (K0, h) 0 128 ((16 + i : Nat) : Int) = true := by
      rw [ka_128]
      exact gd_ok (by omega)
    have hv : h 128 (16 + i) = h0 128 (16 + i) := F _ _ (by omega)
    obtain ⟨g, r1, r2, r3⟩ := ih (i + 1) (px_up h 128 i (h0 128 (16 + i))) (by omega) (fun a b hab => by
      unfold px_up
      rw [if_neg (by omega)]
      exact F a b (by omega)) (fun z hz => by
      rw [px_up_at]
      by_cases e : z = i
      · rw [if_pos e, e]
      · rw [if_neg e]
        exact V z (by omega))
    refine ⟨g, ?_, r2, r3⟩
    rw [eq_Mod_comes_2]
    simp only [px_rd_mk, px_wr_mk, Int.reduceToNat, Int.toNat_natCast, if_true, if_false, Option.bind_some, px_up_cell, px_up_slot, px_up_eq, ne_eq, Nat.reduceEqDiff, not_false_eq_true, Int.reduceEq, Int.reduceLT, Int.reduceLE, Int.reduceNeg, decide_true, decide_false, Bool.and_true, Bool.true_and, Bool.and_false, Bool.false_and, and_self, and_true, true_and, and_false, false_and, bi_T, bi_F, not_true_eq_false, Bool.false_eq_true, hlt, g1, g2, (px_w_n u).trans ue, hv, px_w_s (show i < 1000000 by omega)]
    exact r1
theorem comes_129 (h0 : hp) (k : Nat) : ∀ (i : Nat) (h : hp), i + k = 24 → (∀ a b : Nat, ¬ (a = 129 ∧ b < i) → h a b = h0 a b) → (∀ z, z < i → h 129 z = h0 129 (24 + z)) → ∃ g : hp, px_R (mm_Mod_comes, 2, [(2, 129), (0, 24), (0, (i : Int))], [], (K0, h)) = some (0, (K0, g)) ∧ (∀ a b : Nat, ¬ (a = 129 ∧ b < 24) → g a b = h0 a b) ∧ ∀ z, z < 24 → g 129 z = h0 129 (24 + z) := by
  induction k with
  | zero =>
    intro i h hi F V
    have : i = 24 := hi
    subst this
    exact ⟨h, by rw [eq_Mod_comes_2, if_neg (by decide)], F, V⟩
  | succ k ih =>
    intro i h hi F V
    have hlt : ((i : Int) < 24) = True := eq_true (by omega)
    have u : -2147483648 ≤ 24 + (i : Int) ∧ 24 + (i : Int) < 2147483648 := by omega
    have ue : 24 + (i : Int) = ((24 + i : Nat) : Int) := by omega
    have g1 : px_ga (K0, h) 0 129 (i : Int) = true := by
      rw [ka_129]
      exact gd_ok (by omega)
    have g2 : px_ga (K0, h) 0 129 ((24 + i : Nat) : Int) = true := by
      rw [ka_129]
      exact gd_ok (by omega)
    have hv : h 129 (24 + i) = h0 129 (24 + i) := F _ _ (by omega)
    obtain ⟨g, r1, r2, r3⟩ := ih (i + 1) (px_up h 129 i (h0 129 (24 + i))) (by omega) (fun a b hab => by
      unfold px_up
      rw [if_neg (by omega)]
      exact F a b (by omega)) (fun z hz => by
      rw [px_up_at]
      by_cases e : z = i
      · rw [if_pos e, e]
      · rw [if_neg e]
        exact V z (by omega))
    refine ⟨g, ?_, r2, r3⟩
    rw [eq_Mod_comes_2]
    simp only [px_rd_mk, px_wr_mk, Int.reduceToNat, Int.toNat_natCast, if_true, if_false, Option.bind_some, px_up_cell, px_up_slot, px_up_eq, ne_eq, Nat.reduceEqDiff, not_false_eq_true, Int.reduceEq, Int.reduceLT, Int.reduceLE, Int.reduceNeg, decide_true, decide_false, Bool.and_true, Bool.true_and, Bool.and_false, Bool.false_and, and_self, and_true, true_and, and_false, false_and, bi_T, bi_F, not_true_eq_false, Bool.false_eq_true, hlt, g1, g2, (px_w_n u).trans ue, hv, px_w_s (show i < 1000000 by omega)]
    exact r1
theorem comes_130 (h0 : hp) (k : Nat) : ∀ (i : Nat) (h : hp), i + k = 5 → (∀ a b : Nat, ¬ (a = 130 ∧ b < i) → h a b = h0 a b) → (∀ z, z < i → h 130 z = h0 130 (5 + z)) → ∃ g : hp, px_R (mm_Mod_comes, 2, [(2, 130), (0, 5), (0, (i : Int))], [], (K0, h)) = some (0, (K0, g)) ∧ (∀ a b : Nat, ¬ (a = 130 ∧ b < 5) → g a b = h0 a b) ∧ ∀ z, z < 5 → g 130 z = h0 130 (5 + z) := by
  induction k with
  | zero =>
    intro i h hi F V
    have : i = 5 := hi
    subst this
    exact ⟨h, by rw [eq_Mod_comes_2, if_neg (by decide)], F, V⟩
  | succ k ih =>
    intro i h hi F V
    have hlt : ((i : Int) < 5) = True := eq_true (by omega)
    have u : -2147483648 ≤ 5 + (i : Int) ∧ 5 + (i : Int) < 2147483648 := by omega
    have ue : 5 + (i : Int) = ((5 + i : Nat) : Int) := by omega
    have g1 : px_ga (K0, h) 0 130 (i : Int) = true := by
      rw [ka_130]
      exact gd_ok (by omega)
    have g2 : px_ga (K0, h) 0 130 ((5 + i : Nat) : Int) = true := by
      rw [ka_130]
      exact gd_ok (by omega)
    have hv : h 130 (5 + i) = h0 130 (5 + i) := F _ _ (by omega)
    obtain ⟨g, r1, r2, r3⟩ := ih (i + 1) (px_up h 130 i (h0 130 (5 + i))) (by omega) (fun a b hab => by
      unfold px_up
      rw [if_neg (by omega)]
      exact F a b (by omega)) (fun z hz => by
      rw [px_up_at]
      by_cases e : z = i
      · rw [if_pos e, e]
      · rw [if_neg e]
        exact V z (by omega))
    refine ⟨g, ?_, r2, r3⟩
    rw [eq_Mod_comes_2]
    simp only [px_rd_mk, px_wr_mk, Int.reduceToNat, Int.toNat_natCast, if_true, if_false, Option.bind_some, px_up_cell, px_up_slot, px_up_eq, ne_eq, Nat.reduceEqDiff, not_false_eq_true, Int.reduceEq, Int.reduceLT, Int.reduceLE, Int.reduceNeg, decide_true, decide_false, Bool.and_true, Bool.true_and, Bool.and_false, Bool.false_and, and_self, and_true, true_and, and_false, false_and, bi_T, bi_F, not_true_eq_false, Bool.false_eq_true, hlt, g1, g2, (px_w_n u).trans ue, hv, px_w_s (show i < 1000000 by omega)]
    exact r1
theorem comes_131 (h0 : hp) (k : Nat) : ∀ (i : Nat) (h : hp), i + k = 5 → (∀ a b : Nat, ¬ (a = 131 ∧ b < i) → h a b = h0 a b) → (∀ z, z < i → h 131 z = h0 131 (5 + z)) → ∃ g : hp, px_R (mm_Mod_comes, 2, [(2, 131), (0, 5), (0, (i : Int))], [], (K0, h)) = some (0, (K0, g)) ∧ (∀ a b : Nat, ¬ (a = 131 ∧ b < 5) → g a b = h0 a b) ∧ ∀ z, z < 5 → g 131 z = h0 131 (5 + z) := by
  induction k with
  | zero =>
    intro i h hi F V
    have : i = 5 := hi
    subst this
    exact ⟨h, by rw [eq_Mod_comes_2, if_neg (by decide)], F, V⟩
  | succ k ih =>
    intro i h hi F V
    have hlt : ((i : Int) < 5) = True := eq_true (by omega)
    have u : -2147483648 ≤ 5 + (i : Int) ∧ 5 + (i : Int) < 2147483648 := by omega
    have ue : 5 + (i : Int) = ((5 + i : Nat) : Int) := by omega
    have g1 : px_ga (K0, h) 0 131 (i : Int) = true := by
      rw [ka_131]
      exact gd_ok (by omega)
    have g2 : px_ga (K0, h) 0 131 ((5 + i : Nat) : Int) = true := by
      rw [ka_131]
      exact gd_ok (by omega)
    have hv : h 131 (5 + i) = h0 131 (5 + i) := F _ _ (by omega)
    obtain ⟨g, r1, r2, r3⟩ := ih (i + 1) (px_up h 131 i (h0 131 (5 + i))) (by omega) (fun a b hab => by
      unfold px_up
      rw [if_neg (by omega)]
      exact F a b (by omega)) (fun z hz => by
      rw [px_up_at]
      by_cases e : z = i
      · rw [if_pos e, e]
      · rw [if_neg e]
        exact V z (by omega))
    refine ⟨g, ?_, r2, r3⟩
    rw [eq_Mod_comes_2]
    simp only [px_rd_mk, px_wr_mk, Int.reduceToNat, Int.toNat_natCast, if_true, if_false, Option.bind_some, px_up_cell, px_up_slot, px_up_eq, ne_eq, Nat.reduceEqDiff, not_false_eq_true, Int.reduceEq, Int.reduceLT, Int.reduceLE, Int.reduceNeg, decide_true, decide_false, Bool.and_true, Bool.true_and, Bool.and_false, Bool.false_and, and_self, and_true, true_and, and_false, false_and, bi_T, bi_F, not_true_eq_false, Bool.false_eq_true, hlt, g1, g2, (px_w_n u).trans ue, hv, px_w_s (show i < 1000000 by omega)]
    exact r1
theorem comes_132 (h0 : hp) (k : Nat) : ∀ (i : Nat) (h : hp), i + k = 4 → (∀ a b : Nat, ¬ (a = 132 ∧ b < i) → h a b = h0 a b) → (∀ z, z < i → h 132 z = h0 132 (4 + z)) → ∃ g : hp, px_R (mm_Mod_comes, 2, [(2, 132), (0, 4), (0, (i : Int))], [], (K0, h)) = some (0, (K0, g)) ∧ (∀ a b : Nat, ¬ (a = 132 ∧ b < 4) → g a b = h0 a b) ∧ ∀ z, z < 4 → g 132 z = h0 132 (4 + z) := by
  induction k with
  | zero =>
    intro i h hi F V
    have : i = 4 := hi
    subst this
    exact ⟨h, by rw [eq_Mod_comes_2, if_neg (by decide)], F, V⟩
  | succ k ih =>
    intro i h hi F V
    have hlt : ((i : Int) < 4) = True := eq_true (by omega)
    have u : -2147483648 ≤ 4 + (i : Int) ∧ 4 + (i : Int) < 2147483648 := by omega
    have ue : 4 + (i : Int) = ((4 + i : Nat) : Int) := by omega
    have g1 : px_ga (K0, h) 0 132 (i : Int) = true := by
      rw [ka_132]
      exact gd_ok (by omega)
    have g2 : px_ga (K0, h) 0 132 ((4 + i : Nat) : Int) = true := by
      rw [ka_132]
      exact gd_ok (by omega)
    have hv : h 132 (4 + i) = h0 132 (4 + i) := F _ _ (by omega)
    obtain ⟨g, r1, r2, r3⟩ := ih (i + 1) (px_up h 132 i (h0 132 (4 + i))) (by omega) (fun a b hab => by
      unfold px_up
      rw [if_neg (by omega)]
      exact F a b (by omega)) (fun z hz => by
      rw [px_up_at]
      by_cases e : z = i
      · rw [if_pos e, e]
      · rw [if_neg e]
        exact V z (by omega))
    refine ⟨g, ?_, r2, r3⟩
    rw [eq_Mod_comes_2]
    simp only [px_rd_mk, px_wr_mk, Int.reduceToNat, Int.toNat_natCast, if_true, if_false, Option.bind_some, px_up_cell, px_up_slot, px_up_eq, ne_eq, Nat.reduceEqDiff, not_false_eq_true, Int.reduceEq, Int.reduceLT, Int.reduceLE, Int.reduceNeg, decide_true, decide_false, Bool.and_true, Bool.true_and, Bool.and_false, Bool.false_and, and_self, and_true, true_and, and_false, false_and, bi_T, bi_F, not_true_eq_false, Bool.false_eq_true, hlt, g1, g2, (px_w_n u).trans ue, hv, px_w_s (show i < 1000000 by omega)]
    exact r1
theorem comes_133 (h0 : hp) (k : Nat) : ∀ (i : Nat) (h : hp), i + k = 4 → (∀ a b : Nat, ¬ (a = 133 ∧ b < i) → h a b = h0 a b) → (∀ z, z < i → h 133 z = h0 133 (4 + z)) → ∃ g : hp, px_R (mm_Mod_comes, 2, [(2, 133), (0, 4), (0, (i : Int))], [], (K0, h)) = some (0, (K0, g)) ∧ (∀ a b : Nat, ¬ (a = 133 ∧ b < 4) → g a b = h0 a b) ∧ ∀ z, z < 4 → g 133 z = h0 133 (4 + z) := by
  induction k with
  | zero =>
    intro i h hi F V
    have : i = 4 := hi
    subst this
    exact ⟨h, by rw [eq_Mod_comes_2, if_neg (by decide)], F, V⟩
  | succ k ih =>
    intro i h hi F V
    have hlt : ((i : Int) < 4) = True := eq_true (by omega)
    have u : -2147483648 ≤ 4 + (i : Int) ∧ 4 + (i : Int) < 2147483648 := by omega
    have ue : 4 + (i : Int) = ((4 + i : Nat) : Int) := by omega
    have g1 : px_ga (K0, h) 0 133 (i : Int) = true := by
      rw [ka_133]
      exact gd_ok (by omega)
    have g2 : px_ga (K0, h) 0 133 ((4 + i : Nat) : Int) = true := by
      rw [ka_133]
      exact gd_ok (by omega)
    have hv : h 133 (4 + i) = h0 133 (4 + i) := F _ _ (by omega)
    obtain ⟨g, r1, r2, r3⟩ := ih (i + 1) (px_up h 133 i (h0 133 (4 + i))) (by omega) (fun a b hab => by
      unfold px_up
      rw [if_neg (by omega)]
      exact F a b (by omega)) (fun z hz => by
      rw [px_up_at]
      by_cases e : z = i
      · rw [if_pos e, e]
      · rw [if_neg e]
        exact V z (by omega))
    refine ⟨g, ?_, r2, r3⟩
    rw [eq_Mod_comes_2]
    simp only [px_rd_mk, px_wr_mk, Int.reduceToNat, Int.toNat_natCast, if_true, if_false, Option.bind_some, px_up_cell, px_up_slot, px_up_eq, ne_eq, Nat.reduceEqDiff, not_false_eq_true, Int.reduceEq, Int.reduceLT, Int.reduceLE, Int.reduceNeg, decide_true, decide_false, Bool.and_true, Bool.true_and, Bool.and_false, Bool.false_and, and_self, and_true, true_and, and_false, false_and, bi_T, bi_F, not_true_eq_false, Bool.false_eq_true, hlt, g1, g2, (px_w_n u).trans ue, hv, px_w_s (show i < 1000000 by omega)]
    exact r1
theorem comes_134 (h0 : hp) (k : Nat) : ∀ (i : Nat) (h : hp), i + k = 20 → (∀ a b : Nat, ¬ (a = 134 ∧ b < i) → h a b = h0 a b) → (∀ z, z < i → h 134 z = h0 134 (20 + z)) → ∃ g : hp, px_R (mm_Mod_comes, 2, [(2, 134), (0, 20), (0, (i : Int))], [], (K0, h)) = some (0, (K0, g)) ∧ (∀ a b : Nat, ¬ (a = 134 ∧ b < 20) → g a b = h0 a b) ∧ ∀ z, z < 20 → g 134 z = h0 134 (20 + z) := by
  induction k with
  | zero =>
    intro i h hi F V
    have : i = 20 := hi
    subst this
    exact ⟨h, by rw [eq_Mod_comes_2, if_neg (by decide)], F, V⟩
  | succ k ih =>
    intro i h hi F V
    have hlt : ((i : Int) < 20) = True := eq_true (by omega)
    have u : -2147483648 ≤ 20 + (i : Int) ∧ 20 + (i : Int) < 2147483648 := by omega
    have ue : 20 + (i : Int) = ((20 + i : Nat) : Int) := by omega
    have g1 : px_ga (K0, h) 0 134 (i : Int) = true := by
      rw [ka_134]
      exact gd_ok (by omega)
    have g2 : px_ga (K0, h) 0 134 ((20 + i : Nat) : Int) = true := by
      rw [ka_134]
      exact gd_ok (by omega)
    have hv : h 134 (20 + i) = h0 134 (20 + i) := F _ _ (by omega)
    obtain ⟨g, r1, r2, r3⟩ := ih (i + 1) (px_up h 134 i (h0 134 (20 + i))) (by omega) (fun a b hab => by
      unfold px_up
      rw [if_neg (by omega)]
      exact F a b (by omega)) (fun z hz => by
      rw [px_up_at]
      by_cases e : z = i
      · rw [if_pos e, e]
      · rw [if_neg e]
        exact V z (by omega))
    refine ⟨g, ?_, r2, r3⟩
    rw [eq_Mod_comes_2]
    simp only [px_rd_mk, px_wr_mk, Int.reduceToNat, Int.toNat_natCast, if_true, if_false, Option.bind_some, px_up_cell, px_up_slot, px_up_eq, ne_eq, Nat.reduceEqDiff, not_false_eq_true, Int.reduceEq, Int.reduceLT, Int.reduceLE, Int.reduceNeg, decide_true, decide_false, Bool.and_true, Bool.true_and, Bool.and_false, Bool.false_and, and_self, and_true, true_and, and_false, false_and, bi_T, bi_F, not_true_eq_false, Bool.false_eq_true, hlt, g1, g2, (px_w_n u).trans ue, hv, px_w_s (show i < 1000000 by omega)]
    exact r1
