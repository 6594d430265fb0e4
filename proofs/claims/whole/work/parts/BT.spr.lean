/-! The spare street on both sides. -/
def rwS (n k B cn mx : Nat) (c m : hp) : Prop := ∀ z : Nat, (z : Int) < c (n + 1) k → ∀ j : Nat, j < cn → m B (cn * (mx + z) + j) = c (n + 13 + k) (5 * z + j) ∧ lowN k j ≤ c (n + 13 + k) (5 * z + j) ∧ c (n + 13 + k) (5 * z + j) ≤ higN k j
def plS (n k X Y off : Nat) (c m : hp) : Prop := ∀ z : Nat, (z : Int) < c (n + 1) k → (m X (off + z) = c (n + 13 + k) (5 * z) ∧ 0 ≤ c (n + 13 + k) (5 * z) ∧ c (n + 13 + k) (5 * z) ≤ 99) ∧ (m Y (off + z) = c (n + 13 + k) (5 * z + 1) ∧ 0 ≤ c (n + 13 + k) (5 * z + 1) ∧ c (n + 13 + k) (5 * z + 1) ≤ 99)
def nmS (n k : Nat) (c m : hp) : Prop := ∀ z : Nat, (z : Int) < c (n + 1) k → m 126 (6 * k + z) = c (n + 3 + k) z
def snS (n : Nat) (c m : hp) : Prop := ∃ B : Nat, m 123 23 = (B : Int) ∧ B < 512 ∧ ∀ k : Nat, 6 ≤ k → k < 9 → (c (n + 1) k = if B.testBit k = true then 1 else 0) ∧ m 125 (9 + k) = c (n + 13 + k) 0 ∧ 0 ≤ c (n + 13 + k) 0 ∧ c (n + 13 + k) 0 ≤ higN k 0
def ctS (n : Nat) (c m : hp) : Prop := ∀ k : Nat, k < 6 → m 125 (9 + k) = c (n + 1) k ∧ 0 ≤ c (n + 1) k ∧ c (n + 1) k ≤ lim k
def SPR (n : Nat) (c m : hp) : Prop := ctS n c m ∧ snS n c m ∧ (∀ k : Nat, k < 6 → ¬ k = 4 → nmS n k c m) ∧ rwS n 0 127 5 4 c m ∧ rwS n 1 128 4 4 c m ∧ rwS n 2 129 4 6 c m ∧ rwS n 5 134 5 4 c m ∧ plS n 3 130 131 5 c m ∧ plS n 4 132 133 4 c m
theorem rwS_keep {n k B cn mx : Nat} {c m c' m' : hp} (h : rwS n k B cn mx c m) (h1 : c' (n + 1) k = c (n + 1) k) (h2 : ∀ y, c' (n + 13 + k) y = c (n + 13 + k) y) (h3 : ∀ y, m' B y = m B y) : rwS n k B cn mx c' m' := fun z hz j hj => by
  rw [h1] at hz
  rw [h2, h3]
  exact h z hz j hj
theorem plS_keep {n k X Y off : Nat} {c m c' m' : hp} (h : plS n k X Y off c m) (h1 : c' (n + 1) k = c (n + 1) k) (h2 : ∀ y, c' (n + 13 + k) y = c (n + 13 + k) y) (h3 : ∀ y, m' X y = m X y) (h4 : ∀ y, m' Y y = m Y y) : plS n k X Y off c' m' := fun z hz => by
  rw [h1] at hz
  rw [h2, h2, h3, h4]
  exact h z hz
theorem nmS_keep {n k : Nat} {c m c' m' : hp} (h : nmS n k c m) (h1 : c' (n + 1) k = c (n + 1) k) (h2 : ∀ y, c' (n + 3 + k) y = c (n + 3 + k) y) (h3 : ∀ z : Nat, (z : Int) < c (n + 1) k → m' 126 (6 * k + z) = m 126 (6 * k + z)) : nmS n k c' m' := fun z hz => by
  rw [h1] at hz
  rw [h2, h3 z hz]
  exact h z hz
theorem rwS_add {n k B cn mx q : Nat} {c m c' m' : hp} (h : rwS n k B cn mx c m) (c5 : cn ≤ 5) (hq : c (n + 1) k = (q : Int)) (h1 : c' (n + 1) k = ((q + 1 : Nat) : Int)) (h2 : ∀ y, y < 5 * q → c' (n + 13 + k) y = c (n + 13 + k) y) (h3 : ∀ y, y < cn * (mx + q) → m' B y = m B y) (nw : ∀ j, j < cn → m' B (cn * (mx + q) + j) = c' (n + 13 + k) (5 * q + j) ∧ lowN k j ≤ c' (n + 13 + k) (5 * q + j) ∧ c' (n + 13 + k) (5 * q + j) ≤ higN k j) : rwS n k B cn mx c' m' := fun z hz j hj => by
  rw [h1] at hz
  by_cases e : z = q
  · rw [e]
    exact nw j hj
  · have zq : z < q := by omega
    have l1 : cn * (mx + z) + cn ≤ cn * (mx + q) := by
      have := Nat.mul_le_mul_left cn (show mx + z + 1 ≤ mx + q by omega)
      rw [Nat.mul_succ] at this
      exact this
    rw [h2 (5 * z + j) (by omega), h3 (cn * (mx + z) + j) (by omega)]
    exact h z (by omega) j hj
theorem plS_add {n k X Y off q : Nat} {c m c' m' : hp} (h : plS n k X Y off c m) (hq : c (n + 1) k = (q : Int)) (h1 : c' (n + 1) k = ((q + 1 : Nat) : Int)) (h2 : ∀ y, y < 5 * q → c' (n + 13 + k) y = c (n + 13 + k) y) (h3 : ∀ y, y < off + q → m' X y = m X y ∧ m' Y y = m Y y) (nw : (m' X (off + q) = c' (n + 13 + k) (5 * q) ∧ 0 ≤ c' (n + 13 + k) (5 * q) ∧ c' (n + 13 + k) (5 * q) ≤ 99) ∧ (m' Y (off + q) = c' (n + 13 + k) (5 * q + 1) ∧ 0 ≤ c' (n + 13 + k) (5 * q + 1) ∧ c' (n + 13 + k) (5 * q + 1) ≤ 99)) : plS n k X Y off c' m' := fun z hz => by
  rw [h1] at hz
  by_cases e : z = q
  · rw [e]
    exact nw
  · have zq : z < q := by omega
    rw [h2 (5 * z) (by omega), h2 (5 * z + 1) (by omega), (h3 (off + z) (by omega)).1, (h3 (off + z) (by omega)).2]
    exact h z (by omega)
theorem nmS_add {n k q : Nat} {c m c' m' : hp} (h : nmS n k c m) (hq : c (n + 1) k = (q : Int)) (h1 : c' (n + 1) k = ((q + 1 : Nat) : Int)) (h2 : ∀ y, y < q → c' (n + 3 + k) y = c (n + 3 + k) y) (h3 : ∀ z, z < q → m' 126 (6 * k + z) = m 126 (6 * k + z)) (nw : m' 126 (6 * k + q) = c' (n + 3 + k) q) : nmS n k c' m' := fun z hz => by
  rw [h1] at hz
  by_cases e : z = q
  · rw [e]
    exact nw
  · rw [h2 z (by omega), h3 z (by omega)]
    exact h z (by omega)
theorem lim_6 (k : Nat) : 0 ≤ lim k ∧ lim k ≤ 6 := by
  unfold lim
  split <;> omega
/-- what a clause of a kind below 6 leaves of the class -/
def chC (n kind q : Nat) (c c' : hp) : Prop := c' (n + 1) kind = ((q + 1 : Nat) : Int) ∧ ∀ a b : Nat, ¬ (a = 2 ∧ 2 ≤ b ∧ b ≤ 6) → ¬ (a = n + 3 + kind ∧ b = q) → ¬ (a = n + 13 + kind ∧ 5 * q ≤ b ∧ b < 5 * q + 5) → ¬ (a = n + 1 ∧ b = kind) → c' a b = c a b
/-- and of the reference -/
def chM (kind q B lo hi B2 : Nat) (m m' : hp) : Prop := m' 125 (9 + kind) = ((q + 1 : Nat) : Int) ∧ ∀ a b : Nat, ¬ (a = 123 ∧ 3 ≤ b ∧ b ≤ 11 ∧ ¬ b = 8 ∧ ¬ b = 9) → ¬ (a = 126 ∧ b = 6 * kind + q) → ¬ ((a = B ∨ a = B2) ∧ lo ≤ b ∧ b < hi) → ¬ (a = 125 ∧ b = 9 + kind) → m' a b = m a b
theorem spr_ct {n kind q B lo hi B2 : Nat} {c m c' m' : hp} (hn : n = 4 ∨ n = 26) (S : SPR n c m) (hk : kind < 6) (hq : c (n + 1) kind = (q : Int)) (hl : (q : Int) < lim kind) (h1 : chC n kind q c c') (h2 : chM kind q B lo hi B2 m m') (b6 : 127 ≤ B ∧ 127 ≤ B2) : ctS n c' m' ∧ snS n c' m' ∧ ∀ k : Nat, k < 6 → ¬ k = 4 → ¬ k = kind → nmS n k c' m' := by
  obtain ⟨S1, S2, S3, _⟩ := S
  refine ⟨fun k hk6 => ?_, ?_, fun k hk6 hk4 hkk => ?_⟩
  · by_cases e : k = kind
    · rw [e, h1.1, h2.1]
      omega
    · rw [h1.2 _ _ (by omega) (by omega) (by omega) (by omega), h2.2 _ _ (by omega) (by omega) (by omega) (by omega)]
      exact S1 k hk6
  · obtain ⟨bb, e1, e2, e3⟩ := S2
    refine ⟨bb, ?_, e2, fun k hk6 hk9 => ?_⟩
    · rw [h2.2 _ _ (by omega) (by omega) (by omega) (by omega)]
      exact e1
    · rw [h1.2 (n + 1) k (by omega) (by omega) (by omega) (by omega), h1.2 (n + 13 + k) 0 (by omega) (by omega) (by omega) (by omega), h2.2 125 _ (by omega) (by omega) (by omega) (by omega)]
      exact e3 k hk6 hk9
  · have l6 := (S1 k hk6).2.2
    have l7 := (lim_6 k).2
    have l8 := (lim_6 kind).2
    refine nmS_keep (S3 k hk6 hk4) (h1.2 _ _ (by omega) (by omega) (by omega) (by omega)) (fun y => h1.2 _ _ (by omega) (by omega) (by omega) (by omega)) (fun z hz => h2.2 _ _ (by omega) (by omega) (by omega) (by omega))
