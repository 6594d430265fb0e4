/-! Frames: which cells and which slots of objects may change. -/
def fin (cs : List Nat) (ss : List (Nat × Nat)) (a b : Nat) : Bool := px_mem cs a || ss.any fun q => Nat.beq q.1 a && Nat.beq q.2 b
def Fr (cs : List Nat) (ss : List (Nat × Nat)) (h g : hp) : Prop := ∀ a b : Nat, fin cs ss a b = false → g a b = h a b
theorem Fr_rf (cs : List Nat) (ss : List (Nat × Nat)) (h : hp) : Fr cs ss h h := fun _ _ _ => rfl
theorem px_mem_iff (l : List Nat) (a : Nat) : px_mem l a = true ↔ a ∈ l := by
  induction l with
  | nil => simp [px_mem]
  | cons c l ih =>
    unfold px_mem
    by_cases e : c = a
    · subst e; simp
    · have : Nat.beq c a = false := by
        cases h : Nat.beq c a
        · rfl
        · exact absurd (Nat.eq_of_beq_eq_true h) e
      rw [this]
      simp [ih, Ne.symm e]
theorem fin_iff (cs : List Nat) (ss : List (Nat × Nat)) (a b : Nat) : fin cs ss a b = true ↔ a ∈ cs ∨ (a, b) ∈ ss := by
  unfold fin
  rw [Bool.or_eq_true, px_mem_iff, List.any_eq_true]
  constructor
  · rintro (h | ⟨⟨c, d⟩, h1, h2⟩)
    · exact Or.inl h
    · rw [Bool.and_eq_true] at h2
      have e1 := Nat.eq_of_beq_eq_true h2.1
      have e2 := Nat.eq_of_beq_eq_true h2.2
      simp only at e1 e2
      subst e1 e2
      exact Or.inr h1
  · rintro (h | h)
    · exact Or.inl h
    · exact Or.inr ⟨(a, b), h, by simp⟩
theorem fin_f (cs : List Nat) (ss : List (Nat × Nat)) (a b : Nat) : fin cs ss a b = false ↔ ¬ (a ∈ cs ∨ (a, b) ∈ ss) := by
  rw [← fin_iff]
  simp
theorem Fr_tr {cs cs2 : List Nat} {ss ss2 : List (Nat × Nat)} {h g k : hp} (F : Fr cs ss h g) (G : Fr cs2 ss2 g k) : Fr (cs ++ cs2) (ss ++ ss2) h k := fun a b e => by
  rw [fin_f] at e
  simp only [List.mem_append] at e
  rw [G a b ((fin_f ..).mpr fun q => e (q.elim (fun x => Or.inl (Or.inr x)) fun x => Or.inr (Or.inr x))), F a b ((fin_f ..).mpr fun q => e (q.elim (fun x => Or.inl (Or.inl x)) fun x => Or.inr (Or.inl x)))]
theorem Fr_sub {cs cs2 : List Nat} {ss ss2 : List (Nat × Nat)} {h g : hp} (F : Fr cs ss h g) (e1 : cs.all (px_mem cs2) = true) (e2 : (ss.all fun q => fin cs2 ss2 q.1 q.2) = true) : Fr cs2 ss2 h g := fun a b e => by
  apply F
  rw [fin_f] at e ⊢
  rintro (q | q)
  · exact e (Or.inl ((px_mem_iff ..).mp (List.all_eq_true.mp e1 a q)))
  · exact e ((fin_iff ..).mp (List.all_eq_true.mp e2 (a, b) q))
theorem Fr_tr2 {cs : List Nat} {ss : List (Nat × Nat)} {h g k : hp} (F : Fr cs ss h g) (G : Fr cs ss g k) : Fr cs ss h k := fun a b e => (G a b e).trans (F a b e)
theorem Fr_up {cs : List Nat} {ss : List (Nat × Nat)} {h g : hp} (F : Fr cs ss h g) {a b : Nat} (v : Int) (e : fin cs ss a b = true) : Fr cs ss h (px_up g a b v) := fun x y q => by
  unfold px_up
  rw [if_neg, F x y q]
  rintro ⟨rfl, rfl⟩
  rw [e] at q
  cases q
theorem IR_Fr {h g : hp} (H : IR h) {cs : List Nat} {ss : List (Nat × Nat)} (F : Fr cs ss h g) (e : (rl.all fun q => !(fin cs ss q.1 q.2.1)) = true) : IR g := IR_same H fun q hq => F _ _ (by
  have := List.all_eq_true.mp e q hq
  simpa using this)
def frf (lo hi : Nat) (cs : List Nat) (ss : List (Nat × Nat)) : Bool := (cs.all fun c => Nat.blt c lo || Nat.ble hi c) && ss.all fun q => Nat.blt q.1 lo || Nat.ble hi q.1
theorem Fr_rg {cs : List Nat} {ss : List (Nat × Nat)} {h g : hp} (F : Fr cs ss h g) (lo hi : Nat) (e : frf lo hi cs ss = true) {a : Nat} (h1 : lo ≤ a) (h2 : a < hi) (b : Nat) : g a b = h a b := by
  unfold frf at e
  rw [Bool.and_eq_true] at e
  apply F
  rw [fin_f]
  rintro (q | q)
  · have := List.all_eq_true.mp e.1 a q
    rw [Bool.or_eq_true, Nat.blt_eq, Nat.ble_eq] at this
    omega
  · have := List.all_eq_true.mp e.2 (a, b) q
    rw [Bool.or_eq_true, Nat.blt_eq, Nat.ble_eq] at this
    simp only at this
    omega
/-- two frames that don't meet -/
def fdj (cs : List Nat) (ss : List (Nat × Nat)) (cs2 : List Nat) (ss2 : List (Nat × Nat)) : Bool := (cs2.all fun c => !(px_mem cs c) && ss.all fun q => !(Nat.beq q.1 c)) && (ss2.all fun q => !(fin cs ss q.1 q.2))
theorem Fr_dj {cs cs2 : List Nat} {ss ss2 : List (Nat × Nat)} {h g : hp} (F : Fr cs ss h g) (e : fdj cs ss cs2 ss2 = true) : ∀ a b : Nat, fin cs2 ss2 a b = true → g a b = h a b := fun a b q => by
  unfold fdj at e
  rw [Bool.and_eq_true] at e
  apply F
  rw [fin_iff] at q
  rcases q with q | q
  · have := List.all_eq_true.mp e.1 a q
    rw [Bool.and_eq_true] at this
    rw [fin_f]
    rintro (r | r)
    · rw [← px_mem_iff] at r
      rw [r] at this
      exact absurd this.1 (by decide)
    · have := List.all_eq_true.mp this.2 (a, b) r
      simp at this
  · simpa using List.all_eq_true.mp e.2 (a, b) q
/-- a loop by steps -/
theorem px_lp {σ : Type} (F : σ → Option pr) (I : Nat → σ → Prop) (N : Nat) (step : ∀ i s, i < N → I i s → ∃ t, F s = F t ∧ I (i + 1) t) (n : Nat) : ∀ i s, i + n = N → I i s → ∃ t, F s = F t ∧ I N t := by
  induction n with
  | zero =>
    intro i s hi h
    have : i = N := hi
    subst this
    exact ⟨s, rfl, h⟩
  | succ n ih =>
    intro i s hi h
    obtain ⟨t, e, ht⟩ := step i s (by omega) h
    obtain ⟨u, e2, hu⟩ := ih (i + 1) t (by omega) ht
    exact ⟨u, e.trans e2, hu⟩
theorem gd_ok {i n : Int} (h : 0 ≤ i ∧ i < n) : (decide (0 ≤ i) && decide (i < n)) = true := by simp [h]
theorem px_w_n {x : Int} (h : -2147483648 ≤ x ∧ x < 2147483648) : px_w x = x := px_w_id h.1 h.2
theorem px_wl_n {x : Int} (h : -9223372036854775808 ≤ x ∧ x < 9223372036854775808) : px_wl x = x := px_wl_id h.1 h.2
