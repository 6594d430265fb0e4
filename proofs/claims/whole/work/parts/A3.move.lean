/-! One tick of the class's row. -/
def prt (v q : Int) : Int := Int.tdiv (v * q) 100
theorem prt_100 {v q : Int} (hv : -999999 ≤ v ∧ v ≤ 999999) (hq : 0 ≤ q) : -(999999 * q) ≤ 100 * prt v q ∧ 100 * prt v q ≤ 999999 * q := by
  have h1 : v * q ≤ 999999 * q := Int.mul_le_mul_of_nonneg_right hv.2 hq
  have h2 : -999999 * q ≤ v * q := Int.mul_le_mul_of_nonneg_right hv.1 hq
  unfold prt
  generalize v * q = z at *
  rcases Int.le_total 0 z with h | h
  · rw [Int.tdiv_eq_ediv_of_nonneg h]; omega
  · have e : z = -(-z) := by omega
    rw [e, Int.neg_tdiv, Int.tdiv_eq_ediv_of_nonneg (by omega)]; omega
theorem prt_rng {v q : Int} (hv : -999999 ≤ v ∧ v ≤ 999999) (hq : 0 ≤ q ∧ q ≤ 100) : -999999 ≤ prt v q ∧ prt v q ≤ 999999 := by
  have := prt_100 hv hq.1
  omega
def tNx (h : hp) (b : Nat) : Int := clp (-999999) 999999 (prt (h 102 b) (h 104 b) + prt (h 103 b) (h 105 b))
def tBf (h : hp) (b : Nat) : Int := clp (-999999) 999999 (prt (h 103 b) (h 104 b) + prt (h 102 b) (h 105 b))
/-- what holds of the class's row -/
def RW (h : hp) : Prop := (2 ≤ h 101 0 ∧ h 101 0 ≤ 40) ∧ ∀ i : Nat, i < 40 → (-999999 ≤ h 102 i ∧ h 102 i ≤ 999999) ∧ (-999999 ≤ h 103 i ∧ h 103 i ≤ 999999) ∧ 0 ≤ h 104 i ∧ 0 ≤ h 105 i ∧ h 104 i + h 105 i ≤ 100
def movh (h : hp) (i : Nat) : hp := fun a b => if a = 102 then (if b < i then (if b = 0 then 0 else tNx h (b - 1)) else h a b) else if a = 103 then (if b + 1 < i then tBf h (b + 1) else h a b) else if a = 101 ∧ b = 2 then (if 0 < i then px_wl (h 101 2 + tBf h 0) else h a b) else h a b
theorem movh_2 (h : hp) {i b : Nat} (hb : i ≤ b) : movh h i 102 b = h 102 b := by
  unfold movh
  rw [if_pos rfl, if_neg (by omega)]
theorem movh_3 (h : hp) {i b : Nat} (hb : i ≤ b + 1) : movh h i 103 b = h 103 b := by
  unfold movh
  rw [if_neg (by decide), if_pos rfl, if_neg (by omega)]
theorem movh_o (h : hp) (i : Nat) {a b : Nat} (h1 : a ≠ 102) (h2 : a ≠ 103) (h3 : ¬ (a = 101 ∧ b = 2)) : movh h i a b = h a b := by
  unfold movh
  rw [if_neg h1, if_neg h2, if_neg h3]
theorem movh_0 (h : hp) : movh h 0 = h := by
  funext a b
  unfold movh
  simp
theorem movh_s0 (h : hp) : px_up (px_up h 101 2 (px_wl (h 101 2 + tBf h 0))) 102 0 0 = movh h 1 := by
  funext a b
  unfold movh px_up
  by_cases a1 : a = 101
  · subst a1
    by_cases b1 : b = 2
    · subst b1; simp
    · simp [b1]
  · by_cases a2 : a = 102
    · subst a2
      by_cases b1 : b = 0
      · subst b1; simp
      · have : ¬ b < 1 := by omega
        simp [b1]
    · by_cases a3 : a = 103
      · subst a3; simp
      · simp [a1, a2, a3]
theorem movh_s (h : hp) {i : Nat} (hi : 0 < i) : px_up (px_up (movh h i) 103 (i - 1) (tBf h i)) 102 i (tNx h (i - 1)) = movh h (i + 1) := by
  funext a b
  unfold px_up
  by_cases a2 : a = 102
  · subst a2
    unfold movh
    by_cases b1 : b = i
    · subst b1
      have : ¬ b = 0 := by omega
      simp [this]
    · by_cases b2 : b < i
      · have : b < i + 1 := by omega
        simp [b1, b2, this]
      · have : ¬ b < i + 1 := by omega
        simp [b1, b2, this]
  · by_cases a3 : a = 103
    · subst a3
      unfold movh
      by_cases b1 : b = i - 1
      · have e : b + 1 = i := by omega
        have e2 : b + 1 < i + 1 := by omega
        simp [b1, show i - 1 + 1 = i by omega]
      · by_cases b2 : b + 1 < i
        · have : b < i := by omega
          simp [b1, b2, this]
        · have : ¬ b < i := by omega
          simp [b1, b2, this]
    · rw [if_neg (by omega), if_neg (by omega)]
      unfold movh
      rw [if_neg a2, if_neg a2, if_neg a3, if_neg a3, if_pos hi, if_pos (Nat.succ_pos i)]
theorem move_loop {h : hp} (hI : IR h) (H : RW h) {N : Nat} (hN : h 101 0 = (N : Int)) : ∀ (n i : Nat), i + n = N → ∀ (y3 y4 : pv), px_R (mm_Row_move, 4, [(2, 101), (0, if i = 0 then 0 else tNx h (i - 1)), (0, (i : Int)), y3, y4], [], (K0, movh h i)) = px_R (mm_Row_move, 4, [(2, 101), (0, tNx h (N - 1)), (0, (N : Int)), (0, 0), (0, 0)], [], (K0, movh h N)) := by
  sorry
