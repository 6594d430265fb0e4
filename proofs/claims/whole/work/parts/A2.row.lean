/-! Rows of cells. -/
def layh (h : hp) (i : Nat) : hp := fun a b => if i ≤ b ∧ b < 40 then (if a = 102 ∨ a = 103 ∨ a = 105 then 0 else if a = 104 then 100 else h a b) else h a b
theorem lay_loop {K : List (Nat × Nat)} (hg : ∀ h, px_go (K, h) 101 4 = true) (h2 : ∀ h i, px_ga (K, h) 0 102 i = (decide (0 ≤ i) && decide (i < 40))) (h3 : ∀ h i, px_ga (K, h) 0 103 i = (decide (0 ≤ i) && decide (i < 40))) (h4 : ∀ h i, px_ga (K, h) 0 104 i = (decide (0 ≤ i) && decide (i < 40))) (h5 : ∀ h i, px_ga (K, h) 0 105 i = (decide (0 ≤ i) && decide (i < 40))) (x1 : Int) : ∀ (n i : Nat) (h : hp), i + n = 40 → h 101 4 = 102 → h 101 5 = 103 → h 101 6 = 104 → h 101 7 = 105 → px_R (mm_Row_lay, 22, [(2, 101), (0, x1), (0, (i : Int))], [], (K, h)) = some (0, (K, layh h i))
  | 0, i, h, hi, _, _, _, _ => by
    have : i = 40 := by omega
    subst this
    rw [eq_Row_lay_22, if_neg (by decide)]
    congr 3
    funext a b
    unfold layh
    rw [if_neg (by omega)]
  | n + 1, i, h, hi, r4, r5, r6, r7 => by
    have hb : (decide ((0 : Int) ≤ (i : Int)) && decide ((i : Int) < 40)) = true := by simp; omega
    rw [eq_Row_lay_22, if_pos (by omega)]
    simp only [px_rd_mk, px_wr_mk, hg, Int.reduceToNat, Int.toNat_natCast, r4, r5, r6, r7, h2, h3, h4, h5, hb, if_true, px_up_cell, ne_eq, Nat.reduceEqDiff, not_false_eq_true]
    rw [eq_Row_lay_57, px_w_id (by omega) (by omega)]
    have ih := lay_loop hg h2 h3 h4 h5 x1 n (i + 1) (px_up (px_up (px_up (px_up h 102 i 0) 103 i 0) 104 i 100) 105 i 0) (by omega) r4 r5 r6 r7
    rw [show ((i + 1 : Nat) : Int) = (i : Int) + 1 by omega] at ih
    rw [ih]
    congr 3
    funext a b
    unfold layh px_up
    by_cases hb1 : b = i
    · subst hb1
      by_cases a1 : a = 102
      · subst a1; simp; omega
      · by_cases a2 : a = 103
        · subst a2; simp; omega
        · by_cases a3 : a = 104
          · subst a3; simp; omega
          · by_cases a4 : a = 105
            · subst a4; simp; omega
            · simp [a1, a2, a3, a4]
    · by_cases hb2 : i + 1 ≤ b ∧ b < 40
      · have hb3 : i ≤ b ∧ b < 40 := by omega
        simp [hb1, hb2, hb3]
      · have hb3 : ¬ (i ≤ b ∧ b < 40) := by omega
        rw [if_neg hb2, if_neg hb3]
        simp [hb1]
/-- the row of the class, laid anew -/
def laid (h : hp) (n : Int) : hp := fun a b => if a = 101 ∧ b < 4 then (if b = 0 then n else 0) else layh h 0 a b
theorem R_Row_lay {K : List (Nat × Nat)} (hg : ∀ h, px_go (K, h) 101 4 = true) (h2 : ∀ h i, px_ga (K, h) 0 102 i = (decide (0 ≤ i) && decide (i < 40))) (h3 : ∀ h i, px_ga (K, h) 0 103 i = (decide (0 ≤ i) && decide (i < 40))) (h4 : ∀ h i, px_ga (K, h) 0 104 i = (decide (0 ≤ i) && decide (i < 40))) (h5 : ∀ h i, px_ga (K, h) 0 105 i = (decide (0 ≤ i) && decide (i < 40))) (n : Int) (h : hp) (r4 : h 101 4 = 102) (r5 : h 101 5 = 103) (r6 : h 101 6 = 104) (r7 : h 101 7 = 105) : px_R (mm_Row_lay, 0, [(2, 101), (0, n), (9, 0)], [], (K, h)) = some (0, (K, laid h n)) := by
  rw [eq_Row_lay_0]
  simp only [px_rd_mk, px_wr_mk, hg, Int.reduceToNat, if_true]
  rw [eq_Row_lay_20]
  have e := lay_loop hg h2 h3 h4 h5 n 40 0 (px_up (px_up (px_up (px_up h 101 0 n) 101 1 0) 101 2 0) 101 3 0) (by omega) r4 r5 r6 r7
  rw [show ((0 : Nat) : Int) = 0 from rfl] at e
  rw [e]
  congr 3
  funext a b
  unfold laid layh px_up
  by_cases a1 : a = 101
  · subst a1
    by_cases b0 : b = 0
    · subst b0; simp
    · by_cases b1 : b = 1
      · subst b1; simp
      · by_cases b2 : b = 2
        · subst b2; simp
        · by_cases b3 : b = 3
          · subst b3; simp
          · have : ¬ b < 4 := by omega
            simp [b0, b1, b2, b3, this]
  · simp [a1]
