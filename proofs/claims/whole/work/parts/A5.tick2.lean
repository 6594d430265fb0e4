/-! One tick of the reference's stretch: what every cell hands on. -/
theorem rlc_of {q : Nat × Nat × Int} (hq : q ∈ rl) : rlc q.1 = false := by
  cases e : rlc q.1 with
  | false => rfl
  | true =>
    have h1 := List.all_eq_true.mp e q hq
    simp at h1
theorem IR_cells {h g : hp} (H : IR h) (hc : ∀ a b : Nat, rlc a = false → g a b = h a b) : IR g := IR_same H fun q hq => hc _ _ (rlc_of hq)
def sRt (g : hp) (j : Nat) : Int := prt (g 140 (2 + j)) (g 140 (82 + j)) + prt (g 140 (42 + j)) (g 140 (122 + j))
def sLf (g : hp) (j : Nat) : Int := prt (g 140 (2 + j)) (g 140 (122 + j)) + prt (g 140 (42 + j)) (g 140 (82 + j))
/-- what holds of the reference's stretch -/
def RM (g : hp) : Prop := ∀ i : Nat, i < 40 → (-999999 ≤ g 140 (2 + i) ∧ g 140 (2 + i) ≤ 999999) ∧ (-999999 ≤ g 140 (42 + i) ∧ g 140 (42 + i) ≤ 999999) ∧ 0 ≤ g 140 (82 + i) ∧ 0 ≤ g 140 (122 + i) ∧ g 140 (82 + i) + g 140 (122 + i) ≤ 100
def tk2 (g : hp) (N i : Nat) : hp := fun a b =>
  if a = 143 ∧ 1 ≤ b ∧ b ≤ i ∧ b < N then sRt g (b - 1)
  else if a = 144 ∧ b + 1 < i then sLf g (b + 1)
  else if a = 141 ∧ b = 0 ∧ 0 < i then px_wl (px_wl (g 141 0 + prt (g 140 2) (g 140 122)) + prt (g 140 42) (g 140 82))
  else if a = 141 ∧ b = 1 ∧ i = N then px_wl (px_wl (g 141 1 + prt (g 140 (2 + (N - 1))) (g 140 (82 + (N - 1)))) + prt (g 140 (42 + (N - 1))) (g 140 (122 + (N - 1))))
  else g a b
theorem tk2_o (g : hp) (N i : Nat) {a b : Nat} (h1 : a ≠ 143) (h2 : a ≠ 144) (h3 : a ≠ 141) : tk2 g N i a b = g a b := by
  unfold tk2
  rw [if_neg (by omega), if_neg (by omega), if_neg (by omega), if_neg (by omega)]
theorem tk2_0 (g : hp) {N : Nat} (hN : 0 < N) : tk2 g N 0 = g := by
  funext a b
  unfold tk2
  rw [if_neg (by omega), if_neg (by omega), if_neg (by omega), if_neg (by omega)]
theorem tk2_IR {g : hp} (H : IR g) (N i : Nat) : IR (tk2 g N i) := IR_cells H fun a b ha => tk2_o g N i (by intro e; subst e; revert ha; decide) (by intro e; subst e; revert ha; decide) (by intro e; subst e; revert ha; decide)
theorem tk2_143 (g : hp) (N i b : Nat) : tk2 g N i 143 b = if 1 ≤ b ∧ b ≤ i ∧ b < N then sRt g (b - 1) else g 143 b := by
  unfold tk2
  by_cases h : 1 ≤ b ∧ b ≤ i ∧ b < N
  · rw [if_pos ⟨rfl, h⟩, if_pos h]
  · rw [if_neg (fun q => h q.2), if_neg h, if_neg (by omega), if_neg (by omega), if_neg (by omega)]
theorem tk2_144 (g : hp) (N i b : Nat) : tk2 g N i 144 b = if b + 1 < i then sLf g (b + 1) else g 144 b := by
  unfold tk2
  rw [if_neg (by omega)]
  by_cases h : b + 1 < i
  · rw [if_pos ⟨rfl, h⟩, if_pos h]
  · rw [if_neg (fun q => h q.2), if_neg h, if_neg (by omega), if_neg (by omega)]
theorem tk2_141 (g : hp) (N i b : Nat) : tk2 g N i 141 b = if b = 0 ∧ 0 < i then px_wl (px_wl (g 141 0 + prt (g 140 2) (g 140 122)) + prt (g 140 42) (g 140 82)) else if b = 1 ∧ i = N then px_wl (px_wl (g 141 1 + prt (g 140 (2 + (N - 1))) (g 140 (82 + (N - 1)))) + prt (g 140 (42 + (N - 1))) (g 140 (122 + (N - 1)))) else g 141 b := by
  unfold tk2
  rw [if_neg (by omega), if_neg (by omega)]
  by_cases h : b = 0 ∧ 0 < i
  · rw [if_pos ⟨rfl, h⟩, if_pos h]
  · rw [if_neg (fun q => h q.2), if_neg h]
    by_cases h2 : b = 1 ∧ i = N
    · rw [if_pos ⟨rfl, h2⟩, if_pos h2]
    · rw [if_neg (fun q => h2 q.2), if_neg h2]
theorem tk2_mid (g : hp) {N i : Nat} (hi : 0 < i) (hN : i + 1 < N) (x y : Int) : px_up (px_up (px_up (px_up (tk2 g N i) 143 (i + 1) x) 144 (i - 1) y) 144 (i - 1) (sLf g i)) 143 (i + 1) (sRt g i) = tk2 g N (i + 1) := by
  funext a b
  unfold px_up
  by_cases a1 : a = 143
  · subst a1
    by_cases b1 : b = i + 1
    · subst b1
      rw [if_pos ⟨rfl, rfl⟩, tk2_143, if_pos (by omega), Nat.add_sub_cancel]
    · rw [if_neg (by omega), if_neg (by omega), if_neg (by omega), if_neg (by omega), tk2_143, tk2_143]
      by_cases h : 1 ≤ b ∧ b ≤ i ∧ b < N
      · rw [if_pos h, if_pos (by omega)]
      · rw [if_neg h, if_neg (by omega)]
  · by_cases a2 : a = 144
    · subst a2
      by_cases b1 : b = i - 1
      · rw [if_neg (by omega), if_pos ⟨rfl, b1⟩, tk2_144, if_pos (by omega), show b + 1 = i by omega]
      · rw [if_neg (by omega), if_neg (by omega), if_neg (by omega), if_neg (by omega), tk2_144, tk2_144]
        by_cases h : b + 1 < i
        · rw [if_pos h, if_pos (by omega)]
        · rw [if_neg h, if_neg (by omega)]
    · rw [if_neg (by omega), if_neg (by omega), if_neg (by omega), if_neg (by omega)]
      by_cases a3 : a = 141
      · subst a3
        rw [tk2_141, tk2_141]
        by_cases h : b = 0 ∧ 0 < i
        · rw [if_pos h, if_pos (by omega)]
        · rw [if_neg h, if_neg (by omega), if_neg (by omega), if_neg (by omega)]
      · rw [tk2_o g N i a1 a2 a3, tk2_o g N (i + 1) a1 a2 a3]
theorem tk2_fst (g : hp) {N : Nat} (hN : 1 < N) (x y : Int) : px_up (px_up (px_up (px_up (tk2 g N 0) 143 1 x) 141 0 y) 141 0 (px_wl (px_wl (g 141 0 + prt (g 140 2) (g 140 122)) + prt (g 140 42) (g 140 82)))) 143 1 (sRt g 0) = tk2 g N 1 := by
  rw [tk2_0 g (by omega)]
  funext a b
  unfold px_up
  by_cases a1 : a = 143
  · subst a1
    by_cases b1 : b = 1
    · subst b1
      rw [if_pos ⟨rfl, rfl⟩, tk2_143, if_pos (by omega)]
    · rw [if_neg (by omega), if_neg (by omega), if_neg (by omega), if_neg (by omega), tk2_143, if_neg (by omega)]
  · by_cases a3 : a = 141
    · subst a3
      by_cases b1 : b = 0
      · subst b1
        rw [if_neg (by omega), if_pos ⟨rfl, rfl⟩, tk2_141, if_pos ⟨rfl, Nat.one_pos⟩]
      · rw [if_neg (by omega), if_neg (by omega), if_neg (by omega), if_neg (by omega), tk2_141, if_neg (by omega), if_neg (by omega)]
    · rw [if_neg (by omega), if_neg (by omega), if_neg (by omega), if_neg (by omega)]
      by_cases a2 : a = 144
      · subst a2
        rw [tk2_144, if_neg (by omega)]
      · rw [tk2_o g N 1 a1 a2 a3]
theorem tk2_lst (g : hp) {N i : Nat} (hi : 0 < i) (hN : i + 1 = N) (x y : Int) : px_up (px_up (px_up (px_up (tk2 g N i) 141 1 x) 144 (i - 1) y) 144 (i - 1) (sLf g i)) 141 1 (px_wl (px_wl (g 141 1 + prt (g 140 (2 + i)) (g 140 (82 + i))) + prt (g 140 (42 + i)) (g 140 (122 + i)))) = tk2 g N (i + 1) := by
  have e : N - 1 = i := by omega
  funext a b
  unfold px_up
  by_cases a1 : a = 141
  · subst a1
    by_cases b1 : b = 1
    · subst b1
      rw [if_pos ⟨rfl, rfl⟩, tk2_141, if_neg (by omega), if_pos ⟨rfl, hN⟩, e]
    · rw [if_neg (by omega), if_neg (by omega), if_neg (by omega), if_neg (by omega), tk2_141, tk2_141]
      by_cases h : b = 0 ∧ 0 < i
      · rw [if_pos h, if_pos (by omega)]
      · rw [if_neg h, if_neg (by omega), if_neg (by omega), if_neg (by omega)]
  · by_cases a2 : a = 144
    · subst a2
      by_cases b1 : b = i - 1
      · rw [if_neg (by omega), if_pos ⟨rfl, b1⟩, tk2_144, if_pos (by omega), show b + 1 = i by omega]
      · rw [if_neg (by omega), if_neg (by omega), if_neg (by omega), if_neg (by omega), tk2_144, tk2_144]
        by_cases h : b + 1 < i
        · rw [if_pos h, if_pos (by omega)]
        · rw [if_neg h, if_neg (by omega)]
    · rw [if_neg (by omega), if_neg (by omega), if_neg (by omega), if_neg (by omega)]
      by_cases a3 : a = 143
      · subst a3
        rw [tk2_143, tk2_143]
        by_cases h : 1 ≤ b ∧ b ≤ i ∧ b < N
        · rw [if_pos h, if_pos (by omega)]
        · rw [if_neg h, if_neg (by omega)]
      · rw [tk2_o g N i a3 a2 a1, tk2_o g N (i + 1) a3 a2 a1]
