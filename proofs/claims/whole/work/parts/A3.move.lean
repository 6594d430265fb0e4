/-! One tick of the class's row. -/
def prt (v q : Int) : Int := Int.tdiv (v * q) 100
theorem prt_100 {v q : Int} (hv : -999999 ≤ v ∧ v ≤ 999999) (hq : 0 ≤ q) : -(999999 * q) ≤ 100 * prt v q ∧ 100 * prt v q ≤ 999999 * q := by
  have h1 : v * q ≤ 999999 * q := Int.mul_le_mul_of_nonneg_right hv.2 hq
  have h2 : -999999 * q ≤ v * q := Int.mul_le_mul_of_nonneg_right hv.1 hq
  unfold prt
  generalize v * q = z at *
  rcases Int.le_total 0 z with h | h
  · rw [Int.tdiv_eq_ediv_of_nonneg h]; omega
  · have e : z = -(-z) := by omega
    rw [e, Int.neg_tdiv, Int.tdiv_eq_ediv_of_nonneg (by omega)]; omega
theorem prt_rng {v q : Int} (hv : -999999 ≤ v ∧ v ≤ 999999) (hq : 0 ≤ q ∧ q ≤ 100) : -999999 ≤ prt v q ∧ prt v q ≤ 999999 := by
  have := prt_100 hv hq.1
  omega
def tNx (h : hp) (b : Nat) : Int := clp (-999999) 999999 (prt (h 102 b) (h 104 b) + prt (h 103 b) (h 105 b))
def tBf (h : hp) (b : Nat) : Int := clp (-999999) 999999 (prt (h 103 b) (h 104 b) + prt (h 102 b) (h 105 b))
/-- what holds of the class's row -/
def RW (h : hp) : Prop := (2 ≤ h 101 0 ∧ h 101 0 ≤ 40) ∧ ∀ i : Nat, i < 40 → (-999999 ≤ h 102 i ∧ h 102 i ≤ 999999) ∧ (-999999 ≤ h 103 i ∧ h 103 i ≤ 999999) ∧ 0 ≤ h 104 i ∧ 0 ≤ h 105 i ∧ h 104 i + h 105 i ≤ 100
def movh (h : hp) (i : Nat) : hp := fun a b => if a = 102 then (if b < i then (if b = 0 then 0 else tNx h (b - 1)) else h a b) else if a = 103 then (if b + 1 < i then tBf h (b + 1) else h a b) else if a = 101 ∧ b = 2 then (if 0 < i then px_wl (h 101 2 + tBf h 0) else h a b) else h a b
theorem movh_2 (h : hp) {i b : Nat} (hb : i ≤ b) : movh h i 102 b = h 102 b := by
  unfold movh
  rw [if_pos rfl, if_neg (by omega)]
theorem movh_3 (h : hp) {i b : Nat} (hb : i ≤ b + 1) : movh h i 103 b = h 103 b := by
  unfold movh
  rw [if_neg (by decide), if_pos rfl, if_neg (by omega)]
theorem movh_o (h : hp) (i : Nat) {a b : Nat} (h1 : a ≠ 102) (h2 : a ≠ 103) (h3 : ¬ (a = 101 ∧ b = 2)) : movh h i a b = h a b := by
  unfold movh
  rw [if_neg h1, if_neg h2, if_neg h3]
theorem movh_0 (h : hp) : movh h 0 = h := by
  funext a b
  unfold movh
  simp
theorem movh_s0 (h : hp) : px_up (px_up h 101 2 (px_wl (h 101 2 + tBf h 0))) 102 0 0 = movh h 1 := by
  funext a b
  unfold movh px_up
  by_cases a1 : a = 101
  · subst a1
    by_cases b1 : b = 2
    · subst b1; simp
    · simp [b1]
  · by_cases a2 : a = 102
    · subst a2
      by_cases b1 : b = 0
      · subst b1; simp
      · have : ¬ b < 1 := by omega
        simp [b1]
    · by_cases a3 : a = 103
      · subst a3; simp
      · simp [a1, a2, a3]
theorem movh_s (h : hp) {i : Nat} (hi : 0 < i) : px_up (px_up (movh h i) 103 (i - 1) (tBf h i)) 102 i (tNx h (i - 1)) = movh h (i + 1) := by
  funext a b
  unfold px_up
  by_cases a2 : a = 102
  · subst a2
    unfold movh
    by_cases b1 : b = i
    · subst b1
      have : ¬ b = 0 := by omega
      simp [this]
    · by_cases b2 : b < i
      · have : b < i + 1 := by omega
        simp [b1, b2, this]
      · have : ¬ b < i + 1 := by omega
        simp [b1, b2, this]
  · by_cases a3 : a = 103
    · subst a3
      unfold movh
      by_cases b1 : b = i - 1
      · have e : b + 1 = i := by omega
        have e2 : b + 1 < i + 1 := by omega
        simp [b1, show i - 1 + 1 = i by omega]
      · by_cases b2 : b + 1 < i
        · have : b < i := by omega
          simp [b1, b2, this]
        · have : ¬ b < i := by omega
          simp [b1, b2, this]
    · rw [if_neg (by omega), if_neg (by omega)]
      unfold movh
      rw [if_neg a2, if_neg a2, if_neg a3, if_neg a3, if_pos hi, if_pos (Nat.succ_pos i)]
def movd (h : hp) (N : Nat) : hp := px_up (px_up (px_up (movh h N) 103 (N - 1) 0) 101 3 (px_wl (h 101 3 + tNx h (N - 1)))) 101 1 (px_w (h 101 1 + 1))
set_option maxRecDepth 20000 in
theorem move_end {h : hp} (hI : IR h) (H : RW h) {N i : Nat} (hN : h 101 0 = (N : Int)) (hi : i = N) (y3 y4 : pv) : px_R (mm_Row_move, 4, [(2, 101), (0, if i = 0 then 0 else tNx h (i - 1)), (0, (i : Int)), y3, y4], [], (K0, movh h i)) = some (0, (K0, movd h N)) := by
  have hN2 : 2 ≤ N ∧ N ≤ 40 := by have := H.1; omega
  have q0 : movh h i 101 0 = (N : Int) := (movh_o h i (by decide) (by decide) (by decide)).trans hN
  have q1 : movh h i 101 1 = h 101 1 := movh_o h i (by decide) (by decide) (by decide)
  have q3 : movh h i 101 3 = h 101 3 := movh_o h i (by decide) (by decide) (by decide)
  have q4 : movh h i 101 4 = 102 := (movh_o h i (by decide) (by decide) (by decide)).trans (ir_101_4 hI)
  have q5 : movh h i 101 5 = 103 := (movh_o h i (by decide) (by decide) (by decide)).trans (ir_101_5 hI)
  have q6 : movh h i 101 6 = 104 := (movh_o h i (by decide) (by decide) (by decide)).trans (ir_101_6 hI)
  have q7 : movh h i 101 7 = 105 := (movh_o h i (by decide) (by decide) (by decide)).trans (ir_101_7 hI)
  rw [eq_Row_move_4]
  subst hi
  have e1 : px_w ((i : Int) - 1) = ((i - 1 : Nat) : Int) := by rw [px_w_id (by omega) (by omega)]; omega
  have e2 : ¬ i = 0 := by omega
  have e3 : (decide ((0 : Int) ≤ ((i - 1 : Nat) : Int)) && decide (((i - 1 : Nat) : Int) < 40)) = true := by simp; omega
  simp only [px_rd_mk, px_wr_mk, kg_101, Int.reduceToNat, Int.toNat_natCast, q0, q1, q3, q5, ka_103, e1, e2, e3, if_true, if_false, Int.lt_irrefl, px_up_cell, px_up_slot, ne_eq, Nat.reduceEqDiff, not_false_eq_true]
  rfl
set_option maxRecDepth 20000 in
theorem move_step {h : hp} (hI : IR h) (H : RW h) {N i : Nat} (hN : h 101 0 = (N : Int)) (hi : i < N) (y3 y4 : pv) : px_R (mm_Row_move, 4, [(2, 101), (0, if i = 0 then 0 else tNx h (i - 1)), (0, (i : Int)), y3, y4], [], (K0, movh h i)) = px_R (mm_Row_move, 4, [(2, 101), (0, tNx h i), (0, ((i + 1 : Nat) : Int)), (0, if i = 0 then 0 else tNx h (i - 1)), (0, tBf h i)], [], (K0, movh h (i + 1))) := by
  have hN2 : 2 ≤ N ∧ N ≤ 40 := by have := H.1; omega
  have q0 : movh h i 101 0 = (N : Int) := (movh_o h i (by decide) (by decide) (by decide)).trans hN
  have q1 : movh h i 101 1 = h 101 1 := movh_o h i (by decide) (by decide) (by decide)
  have q3 : movh h i 101 3 = h 101 3 := movh_o h i (by decide) (by decide) (by decide)
  have q4 : movh h i 101 4 = 102 := (movh_o h i (by decide) (by decide) (by decide)).trans (ir_101_4 hI)
  have q5 : movh h i 101 5 = 103 := (movh_o h i (by decide) (by decide) (by decide)).trans (ir_101_5 hI)
  have q6 : movh h i 101 6 = 104 := (movh_o h i (by decide) (by decide) (by decide)).trans (ir_101_6 hI)
  have q7 : movh h i 101 7 = 105 := (movh_o h i (by decide) (by decide) (by decide)).trans (ir_101_7 hI)
  rw [eq_Row_move_4]
  obtain ⟨r1, r2, r3, r4, r5⟩ := H.2 i (by omega)
  have hb : (decide ((0 : Int) ≤ (i : Int)) && decide ((i : Int) < 40)) = true := by simp; omega
  have hi1 : ¬ i = 0 → ¬ (i : Int) = 0 := by omega
  have hi2 : ¬ i = 0 → 0 < i := by omega
  have e1 : ¬ i = 0 → px_w ((i : Int) - 1) = ((i - 1 : Nat) : Int) := fun _ => by rw [px_w_id (by omega) (by omega)]; omega
  have e3 : ¬ i = 0 → (decide ((0 : Int) ≤ ((i - 1 : Nat) : Int)) && decide (((i - 1 : Nat) : Int) < 40)) = true := fun _ => by simp; omega
  have hlt : ((i : Int) < (N : Int)) = True := by simp; omega
  have m2 := movh_2 h (Nat.le_refl i)
  have m3 := movh_3 h (Nat.le_succ i)
  have m4 : movh h i 104 i = h 104 i := movh_o h i (by decide) (by decide) (by omega)
  have m5 : movh h i 105 i = h 105 i := movh_o h i (by decide) (by decide) (by omega)
  have p1 : px_R (mm_Row_part, 0, [(0, h 102 i), (0, h 104 i)], [], (K0, movh h i)) = some (prt (h 102 i) (h 104 i), (K0, movh h i)) := R_Row_part (by omega) (by omega) _
  have p2 : px_R (mm_Row_part, 0, [(0, h 103 i), (0, h 105 i)], [], (K0, movh h i)) = some (prt (h 103 i) (h 105 i), (K0, movh h i)) := R_Row_part (by omega) (by omega) _
  have p3 : px_R (mm_Row_part, 0, [(0, h 103 i), (0, h 104 i)], [], (K0, movh h i)) = some (prt (h 103 i) (h 104 i), (K0, movh h i)) := R_Row_part (by omega) (by omega) _
  have p4 : px_R (mm_Row_part, 0, [(0, h 102 i), (0, h 105 i)], [], (K0, movh h i)) = some (prt (h 102 i) (h 105 i), (K0, movh h i)) := R_Row_part (by omega) (by omega) _
  have g1 := prt_rng r1 (q := h 104 i) (by omega)
  have g2 := prt_rng r2 (q := h 105 i) (by omega)
  have g3 := prt_rng r2 (q := h 104 i) (by omega)
  have g4 := prt_rng r1 (q := h 105 i) (by omega)
  have w1 : px_w (prt (h 102 i) (h 104 i) + prt (h 103 i) (h 105 i)) = prt (h 102 i) (h 104 i) + prt (h 103 i) (h 105 i) := px_w_id (by omega) (by omega)
  have w2 : px_w (prt (h 103 i) (h 104 i) + prt (h 102 i) (h 105 i)) = prt (h 103 i) (h 104 i) + prt (h 102 i) (h 105 i) := px_w_id (by omega) (by omega)
  have w3 : px_w ((i : Int) + 1) = ((i + 1 : Nat) : Int) := by rw [px_w_id (by omega) (by omega)]; omega
  simp only [px_rd_mk, px_wr_mk, kg_101, Int.reduceToNat, Int.toNat_natCast, q0, q4, q5, q6, q7, ka_102, ka_103, ka_104, ka_105, hb, hlt, m2, m3, m4, m5, if_true, p1, p2, p3, p4, Option.bind_some, R_Row_bounded, w3, w1, w2]
  rw [← tNx, ← tBf]
  by_cases hi0 : i = 0
  · subst hi0
    have q2 : movh h 0 101 2 = h 101 2 := by rw [movh_0]
    rw [if_pos rfl]
    simp only [px_up_cell, px_up_slot, ne_eq, Nat.reduceEqDiff, not_false_eq_true, q2, q4, ka_102, hb, if_true, Int.reduceToNat]
    rw [movh_0, movh_s0]
    rfl
  · rw [if_neg (hi1 hi0)]
    simp only [e1 hi0, e3 hi0, if_true, Int.toNat_natCast, px_up_cell, px_up_slot, ne_eq, Nat.reduceEqDiff, not_false_eq_true, q4, ka_102, hb, Int.reduceToNat, hi0, if_false]
    rw [movh_s h (hi2 hi0)]
theorem move_loop {h : hp} (hI : IR h) (H : RW h) {N : Nat} (hN : h 101 0 = (N : Int)) (n : Nat) : ∀ i : Nat, i + n = N → ∀ (y3 y4 : pv), px_R (mm_Row_move, 4, [(2, 101), (0, if i = 0 then 0 else tNx h (i - 1)), (0, (i : Int)), y3, y4], [], (K0, movh h i)) = some (0, (K0, movd h N)) := by
  induction n with
  | zero => exact fun i hi y3 y4 => move_end hI H hN hi y3 y4
  | succ n ih =>
    intro i hi y3 y4
    have e : (if i + 1 = 0 then (0 : Int) else tNx h (i + 1 - 1)) = tNx h i := by rw [if_neg (Nat.succ_ne_zero i), Nat.add_sub_cancel]
    have ih := ih (i + 1) (by omega) (0, if i = 0 then 0 else tNx h (i - 1)) (0, tBf h i)
    rw [e] at ih
    rw [move_step hI H hN (by omega)]
    exact ih
theorem R_Row_move {h : hp} (hI : IR h) (H : RW h) {N : Nat} (hN : h 101 0 = (N : Int)) : px_R (mm_Row_move, 0, [(2, 101), (9, 0), (9, 0), (9, 0), (9, 0)], [], (K0, h)) = some (0, (K0, movd h N)) := by
  rw [eq_Row_move_0]
  have e := move_loop hI H hN N 0 (Nat.zero_add N) (9, 0) (9, 0)
  rw [movh_0, if_pos rfl] at e
  exact e
