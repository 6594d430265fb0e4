/-! One tick of the reference's stretch: what every cell hands on. -/
theorem rlc_of {q : Nat × Nat × Int} (hq : q ∈ rl) : rlc q.1 = false := by
  cases e : rlc q.1 with
  | false => rfl
  | true =>
    have h1 := List.all_eq_true.mp e q hq
    simp at h1
theorem IR_cells {h g : hp} (H : IR h) (hc : ∀ a b : Nat, rlc a = false → g a b = h a b) : IR g := IR_same H fun q hq => hc _ _ (rlc_of hq)
def sRt (g : hp) (j : Nat) : Int := prt (g 140 (2 + j)) (g 140 (82 + j)) + prt (g 140 (42 + j)) (g 140 (122 + j))
def sLf (g : hp) (j : Nat) : Int := prt (g 140 (2 + j)) (g 140 (122 + j)) + prt (g 140 (42 + j)) (g 140 (82 + j))
/-- what holds of the reference's stretch -/
def RM (g : hp) : Prop := ∀ i : Nat, i < 40 → (-999999 ≤ g 140 (2 + i) ∧ g 140 (2 + i) ≤ 999999) ∧ (-999999 ≤ g 140 (42 + i) ∧ g 140 (42 + i) ≤ 999999) ∧ 0 ≤ g 140 (82 + i) ∧ 0 ≤ g 140 (122 + i) ∧ g 140 (82 + i) + g 140 (122 + i) ≤ 100
def tk2 (g : hp) (N i : Nat) : hp := fun a b =>
  if a = 143 ∧ 1 ≤ b ∧ b ≤ i ∧ b < N then sRt g (b - 1)
  else if a = 144 ∧ b + 1 < i then sLf g (b + 1)
  else if a = 141 ∧ b = 0 ∧ 0 < i then px_wl (px_wl (g 141 0 + prt (g 140 2) (g 140 122)) + prt (g 140 42) (g 140 82))
  else if a = 141 ∧ b = 1 ∧ i = N then px_wl (px_wl (g 141 1 + prt (g 140 (2 + (N - 1))) (g 140 (82 + (N - 1)))) + prt (g 140 (42 + (N - 1))) (g 140 (122 + (N - 1))))
  else g a b
theorem tk2_o (g : hp) (N i : Nat) {a b : Nat} (h1 : a ≠ 143) (h2 : a ≠ 144) (h3 : a ≠ 141) : tk2 g N i a b = g a b := by
  unfold tk2
  rw [if_neg (by omega), if_neg (by omega), if_neg (by omega), if_neg (by omega)]
theorem tk2_0 (g : hp) {N : Nat} (hN : 0 < N) : tk2 g N 0 = g := by
  funext a b
  unfold tk2
  rw [if_neg (by omega), if_neg (by omega), if_neg (by omega), if_neg (by omega)]
theorem tk2_IR {g : hp} (H : IR g) (N i : Nat) : IR (tk2 g N i) := IR_cells H fun a b ha => tk2_o g N i (by intro e; subst e; revert ha; decide) (by intro e; subst e; revert ha; decide) (by intro e; subst e; revert ha; decide)
