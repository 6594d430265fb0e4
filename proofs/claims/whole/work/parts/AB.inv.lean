/-! What holds between two calls. -/
def SP (n : Nat) (h : hp) : Prop := (n = 4 ∨ n = 26) ∧ h 1 8 = (n : Int) ∧ h 1 9 = 30 - (n : Int)
theorem SP_F {n : Nat} {h g : hp} {cs : List Nat} {ss : List (Nat × Nat)} (F : Fr cs ss h g) (e : fdj cs ss [] [(1, 8), (1, 9)] = true) (H : SP n h) : SP n g := by
  have c := Fr_dj F e
  unfold SP
  rw [c 1 8 rfl, c 1 9 rfl]
  exact H
def TP (h : hp) : Prop := h 123 1 = h 2 1 ∧ (0 ≤ h 2 1 ∧ h 2 1 ≤ 900) ∧ ∀ i : Nat, h 124 i = h 3 i ∧ -128 ≤ h 3 i ∧ h 3 i < 128
theorem TP_F {h g : hp} {cs : List Nat} {ss : List (Nat × Nat)} (F : Fr cs ss h g) (e : fdj cs ss [3, 124] [(2, 1), (123, 1)] = true) (H : TP h) : TP g := by
  have c := Fr_dj F e
  unfold TP
  rw [c 123 1 rfl, c 2 1 rfl]
  exact ⟨H.1, H.2.1, fun i => by rw [c 124 i rfl, c 3 i rfl]; exact H.2.2 i⟩
def FK (h : hp) : Prop := h 123 8 = h 1 10 ∧ h 123 9 = h 1 11
theorem FK_F {h g : hp} {cs : List Nat} {ss : List (Nat × Nat)} (F : Fr cs ss h g) (e : fdj cs ss [] [(123, 8), (123, 9), (1, 10), (1, 11)] = true) (H : FK h) : FK g := by
  have c := Fr_dj F e
  unfold FK
  rw [c 123 8 rfl, c 123 9 rfl, c 1 10 rfl, c 1 11 rfl]
  exact H
def lim : Nat → Int
  | 0 => 4
  | 1 => 4
  | 2 => 6
  | 3 => 5
  | 4 => 4
  | _ => 4
def ST (n : Nat) (h : hp) : Prop := h 123 22 = h n 0
  ∧ (∀ k : Nat, k < 6 → h 125 k = h (n + 1) k ∧ 0 ≤ h (n + 1) k ∧ h (n + 1) k ≤ lim k)
  ∧ (h 125 6 = h (n + 19) 0 ∧ 0 ≤ h (n + 19) 0 ∧ h (n + 19) 0 ≤ 90)
  ∧ (h 125 7 = h (n + 20) 0 ∧ 0 ≤ h (n + 20) 0 ∧ h (n + 20) 0 ≤ 50)
  ∧ (h 125 8 = h (n + 21) 0 ∧ 0 ≤ h (n + 21) 0 ∧ h (n + 21) 0 ≤ 3)
  ∧ (∀ k : Nat, (k : Int) < h (n + 1) 0 → (h 127 (5 * k) = h (n + 13) (5 * k) ∧ 1 ≤ h (n + 13) (5 * k) ∧ h (n + 13) (5 * k) ≤ 99) ∧ ∀ b : Nat, b < 4 → h 127 (5 * k + 1 + b) = h (n + 13) (5 * k + 1 + b) ∧ 0 ≤ h (n + 13) (5 * k + 1 + b) ∧ h (n + 13) (5 * k + 1 + b) ≤ 999)
  ∧ (∀ k : Nat, (k : Int) < h (n + 1) 1 → ∀ b : Nat, b < 4 → h 128 (4 * k + b) = h (n + 14) (5 * k + b) ∧ 0 ≤ h (n + 14) (5 * k + b) ∧ h (n + 14) (5 * k + b) ≤ 100)
  ∧ (∀ k : Nat, (k : Int) < h (n + 1) 2 → ∀ b : Nat, b < 4 → h 129 (4 * k + b) = h (n + 15) (5 * k + b) ∧ 0 ≤ h (n + 15) (5 * k + b) ∧ h (n + 15) (5 * k + b) ≤ 9)
  ∧ (∀ k : Nat, (k : Int) < h (n + 1) 3 → (h 130 k = h (n + 16) (5 * k) ∧ 0 ≤ h (n + 16) (5 * k) ∧ h (n + 16) (5 * k) ≤ 99) ∧ (h 131 k = h (n + 16) (5 * k + 1) ∧ 0 ≤ h (n + 16) (5 * k + 1) ∧ h (n + 16) (5 * k + 1) ≤ 99))
  ∧ (∀ k : Nat, (k : Int) < h (n + 1) 4 → (h 132 k = h (n + 17) (5 * k) ∧ 0 ≤ h (n + 17) (5 * k) ∧ h (n + 17) (5 * k) ≤ 99) ∧ (h 133 k = h (n + 17) (5 * k + 1) ∧ 0 ≤ h (n + 17) (5 * k + 1) ∧ h (n + 17) (5 * k + 1) ≤ 99))
  ∧ (∀ k : Nat, (k : Int) < h (n + 1) 5 → (h 134 (5 * k) = h (n + 18) (5 * k) ∧ 1 ≤ h (n + 18) (5 * k) ∧ h (n + 18) (5 * k) ≤ 9) ∧ ∀ b : Nat, b < 4 → h 134 (5 * k + 1 + b) = h (n + 18) (5 * k + 1 + b) ∧ 0 ≤ h (n + 18) (5 * k + 1 + b) ∧ h (n + 18) (5 * k + 1 + b) ≤ 9)
theorem ST_e {n : Nat} {h g : hp} (e1 : ∀ a : Nat, n ≤ a → a < n + 22 → g a = h a) (e2 : ∀ a : Nat, 125 ≤ a → a < 135 → g a = h a) (e3 : g 123 22 = h 123 22) (H : ST n h) : ST n g := by
  unfold ST
  rw [e3, e1 n (by omega) (by omega), e1 (n + 1) (by omega) (by omega), e1 (n + 13) (by omega) (by omega), e1 (n + 14) (by omega) (by omega), e1 (n + 15) (by omega) (by omega), e1 (n + 16) (by omega) (by omega), e1 (n + 17) (by omega) (by omega), e1 (n + 18) (by omega) (by omega), e1 (n + 19) (by omega) (by omega), e1 (n + 20) (by omega) (by omega), e1 (n + 21) (by omega) (by omega), e2 125 (by decide) (by decide), e2 127 (by decide) (by decide), e2 128 (by decide) (by decide), e2 129 (by decide) (by decide), e2 130 (by decide) (by decide), e2 131 (by decide) (by decide), e2 132 (by decide) (by decide), e2 133 (by decide) (by decide), e2 134 (by decide) (by decide)]
  exact H
theorem Fr_cell {cs : List Nat} {ss : List (Nat × Nat)} {h g : hp} (F : Fr cs ss h g) (lo hi : Nat) (e : frf lo hi cs ss = true) {a : Nat} (h1 : lo ≤ a) (h2 : a < hi) : g a = h a := funext (Fr_rg F lo hi e h1 h2)
theorem Fr_st {n : Nat} (hn : n = 4 ∨ n = 26) {cs : List Nat} {ss : List (Nat × Nat)} {h g : hp} (F : Fr cs ss h g) (e : frf 4 48 cs ss = true) (a : Nat) (h1 : n ≤ a) (h2 : a < n + 22) : g a = h a := Fr_cell F 4 48 e (by omega) (by omega)
theorem ST_F {n : Nat} {h g : hp} {cs : List Nat} {ss : List (Nat × Nat)} (hn : n = 4 ∨ n = 26) (F : Fr cs ss h g) (e : (frf 4 48 cs ss && (frf 125 135 cs ss && !(fin cs ss 123 22))) = true) (H : ST n h) : ST n g := by
  simp only [Bool.and_eq_true, Bool.not_eq_true'] at e
  exact ST_e (Fr_st hn F e.1) (fun a => Fr_cell F 125 135 e.2.1) (F _ _ e.2.2) H
def LI (n : Nat) (h : hp) : Prop := (h 123 24 = h 48 0 ∧ 0 ≤ h 48 0 ∧ (h 48 0 = 0 ∨ h 48 0 < h (n + 1) 0))
  ∧ (h 123 25 = h 48 1 ∧ 0 ≤ h 48 1 ∧ (h 48 1 = 0 ∨ h 48 1 < h (n + 1) 1))
  ∧ (h 123 26 = h 48 2 ∧ 1 ≤ h 48 2 ∧ h 48 2 ≤ 400)
  ∧ (h 123 27 = h 48 3 ∧ 0 ≤ h 48 3 ∧ h 48 3 ≤ 99)
  ∧ (h 123 28 = h 48 4 ∧ 0 ≤ h 48 4 ∧ h 48 4 ≤ 4)
  ∧ (h 123 29 = h 48 6 ∧ 0 ≤ h 48 6 ∧ h 48 6 ≤ 4)
  ∧ (∀ i : Nat, (i : Int) < h 48 4 → h 135 i = h 49 i ∧ (h 49 i = -1 ∨ (0 ≤ h 49 i ∧ h 49 i < h (n + 1) 5)))
  ∧ (∀ i : Nat, (i : Int) < h 48 6 → h 136 i = h 50 i ∧ 0 ≤ h 50 i ∧ h 50 i ≤ 100)
def lic : List Nat := [49, 50, 135, 136]
def lis : List (Nat × Nat) := [(48, 0), (48, 1), (48, 2), (48, 3), (48, 4), (48, 6), (123, 24), (123, 25), (123, 26), (123, 27), (123, 28), (123, 29)]
theorem LI_F {n : Nat} {h g : hp} {cs : List Nat} {ss : List (Nat × Nat)} (hn : n = 4 ∨ n = 26) (F : Fr cs ss h g) (e : (frf 4 48 cs ss && fdj cs ss lic lis) = true) (H : LI n h) : LI n g := by
  rw [Bool.and_eq_true] at e
  have c := Fr_dj F e.2
  unfold LI
  rw [Fr_st hn F e.1 (n + 1) (by omega) (by omega), c 48 0 rfl, c 48 1 rfl, c 48 2 rfl, c 48 3 rfl, c 48 4 rfl, c 48 6 rfl, c 123 24 rfl, c 123 25 rfl, c 123 26 rfl, c 123 27 rfl, c 123 28 rfl, c 123 29 rfl]
  obtain ⟨h1, h2, h3, h4, h5, h6, h7, h8⟩ := H
  exact ⟨h1, h2, h3, h4, h5, h6, fun i hi => by rw [c 135 i rfl, c 49 i rfl]; exact h7 i hi, fun i hi => by rw [c 136 i rfl, c 50 i rfl]; exact h8 i hi⟩
/-- a row of the class: its bounds -/
def RWr (r : Nat) (h : hp) : Prop := (2 ≤ h r 0 ∧ h r 0 ≤ 40) ∧ ∀ i : Nat, i < 40 → (-999999 ≤ h (r + 1) i ∧ h (r + 1) i ≤ 999999) ∧ (-999999 ≤ h (r + 2) i ∧ h (r + 2) i ≤ 999999) ∧ 0 ≤ h (r + 3) i ∧ 0 ≤ h (r + 4) i ∧ h (r + 3) i + h (r + 4) i ≤ 100
/-- a row of the class in one world, a stretch of the reference in another -/
def CRr (r o p : Nat) (c m : hp) : Prop := m 140 o = c r 0 ∧ m 140 (o + 1) = c r 1 ∧ m 141 p = c r 2 ∧ m 141 (p + 1) = c r 3 ∧ ∀ i : Nat, i < 40 → m 140 (o + 2 + i) = c (r + 1) i ∧ m 140 (o + 42 + i) = c (r + 2) i ∧ m 140 (o + 82 + i) = c (r + 3) i ∧ m 140 (o + 122 + i) = c (r + 4) i
theorem RWr_RW (h : hp) : RWr 101 h ↔ RW h := Iff.rfl
theorem CRr_CR2 (c m : hp) : CRr 101 0 0 c m ↔ CR2 c m := by
  unfold CRr CR2
  simp only [Nat.zero_add]
theorem RWr_e {r q : Nat} {h g : hp} (e : ∀ j, j < 1 → g q j = h r j) (e1 : g (q + 1) = h (r + 1)) (e2 : g (q + 2) = h (r + 2)) (e3 : g (q + 3) = h (r + 3)) (e4 : g (q + 4) = h (r + 4)) (H : RWr r h) : RWr q g := by
  unfold RWr
  rw [e 0 (by decide), e1, e2, e3, e4]
  exact H
def KS1 (s : Nat) (h : hp) : Prop := (h 142 s = 0 ∧ h (107 + 5 * s) 0 = 0) ∨ (h 142 s = 1 ∧ RWr (107 + 5 * s) h ∧ CRr (107 + 5 * s) (162 * (s + 1)) (2 * (s + 1)) h h)
def KS (h : hp) : Prop := ∀ s : Nat, s < 3 → KS1 s h
theorem KS1_e {s : Nat} {h g : hp} (e0 : g 142 s = h 142 s) (e : ∀ a : Nat, 107 + 5 * s ≤ a → a < 107 + 5 * s + 5 → ∀ b, g a b = h a b) (e1 : ∀ b, 162 * (s + 1) ≤ b → b < 162 * (s + 1) + 162 → g 140 b = h 140 b) (e2 : ∀ b, 2 * (s + 1) ≤ b → b < 2 * (s + 1) + 2 → g 141 b = h 141 b) (H : KS1 s h) : KS1 s g := by
  have f0 : g (107 + 5 * s) = h (107 + 5 * s) := funext (e _ (by omega) (by omega))
  have f1 : g (107 + 5 * s + 1) = h (107 + 5 * s + 1) := funext (e _ (by omega) (by omega))
  have f2 : g (107 + 5 * s + 2) = h (107 + 5 * s + 2) := funext (e _ (by omega) (by omega))
  have f3 : g (107 + 5 * s + 3) = h (107 + 5 * s + 3) := funext (e _ (by omega) (by omega))
  have f4 : g (107 + 5 * s + 4) = h (107 + 5 * s + 4) := funext (e _ (by omega) (by omega))
  unfold KS1 RWr CRr at *
  rw [e0, f0, f1, f2, f3, f4]
  rcases H with H | ⟨h1, h2, h4, h5, h6, h7, h8⟩
  · exact Or.inl H
  · refine Or.inr ⟨h1, h2, ?_, ?_, ?_, ?_, fun i hi => ?_⟩
    · rw [e1 _ (by omega) (by omega)]; exact h4
    · rw [e1 _ (by omega) (by omega)]; exact h5
    · rw [e2 _ (by omega) (by omega)]; exact h6
    · rw [e2 _ (by omega) (by omega)]; exact h7
    · rw [e1 _ (by omega) (by omega), e1 _ (by omega) (by omega), e1 _ (by omega) (by omega), e1 _ (by omega) (by omega)]
      exact h8 i hi
theorem KS_F {h g : hp} {cs : List Nat} {ss : List (Nat × Nat)} (F : Fr cs ss h g) (e : (frf 107 122 cs ss && fdj cs ss [140, 141, 142] []) = true) (H : KS h) : KS g := fun s hs => by
  rw [Bool.and_eq_true] at e
  have c := Fr_dj F e.2
  exact KS1_e (c 142 s rfl) (fun a h1 h2 b => Fr_rg F 107 122 e.1 (by omega) (by omega) b) (fun b _ _ => c 140 b rfl) (fun b _ _ => c 141 b rfl) (H s hs)
def BK (n : Nat) (h : hp) : Prop := (h 123 53 = h 83 0 ∧ 0 ≤ h 83 0 ∧ h 83 0 ≤ 999)
  ∧ (h 123 51 = h 83 1 ∧ 0 ≤ h 83 1 ∧ h 83 1 ≤ 20)
  ∧ (h 123 52 = h 83 2 ∧ 0 ≤ h 83 2 ∧ h 83 2 ≤ 20)
  ∧ (∀ i : Nat, h 151 i = h 84 i ∧ h 152 i = h 85 i ∧ h 153 i = h 86 i ∧ h 154 i = h 87 i ∧ h 155 i = h 88 i ∧ h 156 i = h 89 i)
  ∧ (∀ i : Nat, (i : Int) < h 83 1 → (0 ≤ h 85 i ∧ h 85 i < h (n + 1) 2) ∧ (0 ≤ h 86 i ∧ h 86 i < h (n + 1) 2))
  ∧ (∀ i : Nat, (i : Int) < h 83 2 → (0 ≤ h 89 i ∧ h 89 i < h (n + 1) 2))
def bkc : List Nat := [84, 85, 86, 87, 88, 89, 151, 152, 153, 154, 155, 156]
def bks : List (Nat × Nat) := [(83, 0), (83, 1), (83, 2), (123, 51), (123, 52), (123, 53)]
theorem BK_F {n : Nat} {h g : hp} {cs : List Nat} {ss : List (Nat × Nat)} (hn : n = 4 ∨ n = 26) (F : Fr cs ss h g) (e : (frf 4 48 cs ss && fdj cs ss bkc bks) = true) (H : BK n h) : BK n g := by
  rw [Bool.and_eq_true] at e
  have c := Fr_dj F e.2
  unfold BK
  rw [Fr_st hn F e.1 (n + 1) (by omega) (by omega), c 83 0 rfl, c 83 1 rfl, c 83 2 rfl, c 123 51 rfl, c 123 52 rfl, c 123 53 rfl]
  obtain ⟨h1, h2, h3, h4, h5, h6⟩ := H
  exact ⟨h1, h2, h3, fun i => by rw [c 84 i rfl, c 85 i rfl, c 86 i rfl, c 87 i rfl, c 88 i rfl, c 89 i rfl, c 151 i rfl, c 152 i rfl, c 153 i rfl, c 154 i rfl, c 155 i rfl, c 156 i rfl]; exact h4 i, fun i hi => by rw [c 85 i rfl, c 86 i rfl]; exact h5 i hi, fun i hi => by rw [c 89 i rfl]; exact h6 i hi⟩
