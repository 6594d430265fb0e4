/-! What holds of a street that has just been settled. -/
theorem hg_tab : higN 0 0 = 99 ∧ (∀ b : Fin 4, higN 0 (1 + b.val) = 999) ∧ (∀ b : Fin 4, higN 1 b.val = 100) ∧ (∀ b : Fin 4, higN 2 b.val = 9) ∧ (∀ b : Fin 5, higN 5 b.val = 9) ∧ higN 6 0 = 90 ∧ higN 7 0 = 50 ∧ higN 8 0 = 3 ∧ lowN 0 0 = 1 ∧ lowN 5 0 = 1 := by decide
theorem lw_0 (k j : Nat) : 0 ≤ lowN k j := by
  unfold lowN
  split <;> omega
theorem rw_lim {k q : Nat} {x l : Int} (h : (q : Int) < x) (hl : x ≤ lim k) (e : lim k = l) : (q : Int) < l := by omega
theorem ST_spr {p : Nat} {c m g : hp} (S : SPR p c m) (E : ∀ a : Nat, p ≤ a → a < p + 22 → g a = c a) (e22 : g 123 22 = c p 0) (cp : (∀ z, z < 9 → g 125 z = m 125 (9 + z)) ∧ (∀ z, z < 20 → g 127 z = m 127 (20 + z)) ∧ (∀ z, z < 16 → g 128 z = m 128 (16 + z)) ∧ (∀ z, z < 24 → g 129 z = m 129 (24 + z)) ∧ (∀ z, z < 5 → g 130 z = m 130 (5 + z)) ∧ (∀ z, z < 5 → g 131 z = m 131 (5 + z)) ∧ (∀ z, z < 4 → g 132 z = m 132 (4 + z)) ∧ (∀ z, z < 4 → g 133 z = m 133 (4 + z)) ∧ (∀ z, z < 20 → g 134 z = m 134 (20 + z))) : ST p g := by
  obtain ⟨S1, ⟨bb, _, _, S2⟩, _, R0, R1, R2, R5, P3, P4⟩ := S
  obtain ⟨c1, c2, c3, c4, c5, c6, c7, c8, c9⟩ := cp
  obtain ⟨t0, t1, t2, t3, t4, t5, t6, t7, t8, t9⟩ := hg_tab
  have L0 : ∀ k : Nat, (k : Int) < c (p + 1) 0 → (k : Int) < 4 := fun k hk => rw_lim hk (S1 0 (by decide)).2.2 rfl
  have L1 : ∀ k : Nat, (k : Int) < c (p + 1) 1 → (k : Int) < 4 := fun k hk => rw_lim hk (S1 1 (by decide)).2.2 rfl
  have L2 : ∀ k : Nat, (k : Int) < c (p + 1) 2 → (k : Int) < 6 := fun k hk => rw_lim hk (S1 2 (by decide)).2.2 rfl
  have L3 : ∀ k : Nat, (k : Int) < c (p + 1) 3 → (k : Int) < 5 := fun k hk => rw_lim hk (S1 3 (by decide)).2.2 rfl
  have L4 : ∀ k : Nat, (k : Int) < c (p + 1) 4 → (k : Int) < 4 := fun k hk => rw_lim hk (S1 4 (by decide)).2.2 rfl
  have L5 : ∀ k : Nat, (k : Int) < c (p + 1) 5 → (k : Int) < 4 := fun k hk => rw_lim hk (S1 5 (by decide)).2.2 rfl
  unfold ST
  rw [E p (by omega) (by omega), E (p + 1) (by omega) (by omega), E (p + 13) (by omega) (by omega), E (p + 14) (by omega) (by omega), E (p + 15) (by omega) (by omega), E (p + 16) (by omega) (by omega), E (p + 17) (by omega) (by omega), E (p + 18) (by omega) (by omega), E (p + 19) (by omega) (by omega), E (p + 20) (by omega) (by omega), E (p + 21) (by omega) (by omega)]
  refine ⟨e22, fun k hk => ?_, ?_, ?_, ?_, fun k hk => ⟨?_, fun b hb => ?_⟩, fun k hk b hb => ?_, fun k hk b hb => ?_, fun k hk => ?_, fun k hk => ?_, fun k hk => ⟨?_, fun b hb => ?_⟩⟩
  · rw [c1 k (by omega)]
    exact S1 k hk
  · rw [c1 6 (by decide)]
    have a := S2 6 (by decide) (by decide)
    rw [t5] at a
    exact a.2
  · rw [c1 7 (by decide)]
    have a := S2 7 (by decide) (by decide)
    rw [t6] at a
    exact a.2
  · rw [c1 8 (by decide)]
    have a := S2 8 (by decide) (by decide)
    rw [t7] at a
    exact a.2
  · have l := L0 k hk
    have a := R0 k hk 0 (by decide)
    rw [t0, t8] at a
    rw [c2 (5 * k) (by omega), show 20 + 5 * k = 5 * (4 + k) + 0 by omega]
    exact a
  · have l := L0 k hk
    have a := R0 k hk (1 + b) (by omega)
    have e := t1 ⟨b, hb⟩
    simp only at e
    have lw := lw_0 0 (1 + b)
    rw [e] at a
    rw [c2 (5 * k + 1 + b) (by omega), show 20 + (5 * k + 1 + b) = 5 * (4 + k) + (1 + b) by omega, show 5 * k + 1 + b = 5 * k + (1 + b) by omega]
    exact ⟨a.1, Int.le_trans lw a.2.1, a.2.2⟩
  · have l := L1 k hk
    have a := R1 k hk b hb
    have e := t2 ⟨b, hb⟩
    simp only at e
    have lw := lw_0 1 b
    rw [e] at a
    rw [c3 (4 * k + b) (by omega), show 16 + (4 * k + b) = 4 * (4 + k) + b by omega]
    exact ⟨a.1, Int.le_trans lw a.2.1, a.2.2⟩
  · have l := L2 k hk
    have a := R2 k hk b hb
    have e := t3 ⟨b, hb⟩
    simp only at e
    have lw := lw_0 2 b
    rw [e] at a
    rw [c4 (4 * k + b) (by omega), show 24 + (4 * k + b) = 4 * (6 + k) + b by omega]
    exact ⟨a.1, Int.le_trans lw a.2.1, a.2.2⟩
  · have l := L3 k hk
    have a := P3 k hk
    rw [c5 k (by omega), c6 k (by omega)]
    exact a
  · have l := L4 k hk
    have a := P4 k hk
    rw [c7 k (by omega), c8 k (by omega)]
    exact a
  · have l := L5 k hk
    have a := R5 k hk 0 (by decide)
    have e := t4 ⟨0, by decide⟩
    simp only at e
    rw [e, t9] at a
    rw [c9 (5 * k) (by omega), show 20 + 5 * k = 5 * (4 + k) + 0 by omega]
    exact a
  · have l := L5 k hk
    have a := R5 k hk (1 + b) (by omega)
    have e := t4 ⟨1 + b, by omega⟩
    simp only at e
    have lw := lw_0 5 (1 + b)
    rw [e] at a
    rw [c9 (5 * k + 1 + b) (by omega), show 20 + (5 * k + 1 + b) = 5 * (4 + k) + (1 + b) by omega, show 5 * k + 1 + b = 5 * k + (1 + b) by omega]
    exact ⟨a.1, Int.le_trans lw a.2.1, a.2.2⟩
/-- the old street, where only the spare half was written -/
theorem ST_half {n : Nat} {h g : hp} (e1 : ∀ a : Nat, n ≤ a → a < n + 22 → g a = h a) (e2 : ∀ a b : Nat, 125 ≤ a → a < 135 → ¬ fmt2 a b → g a b = h a b) (e3 : g 123 22 = h 123 22) (H : ST n h) : ST n g := by
  have L : ∀ k z : Nat, (z : Int) < h (n + 1) k → k < 6 → (z : Int) < lim k := fun k z hz hk => by
    have := (H.2.1 k hk).2.2
    omega
  have l0 : lim 0 = 4 := rfl
  have l1 : lim 1 = 4 := rfl
  have l2 : lim 2 = 6 := rfl
  have l3 : lim 3 = 5 := rfl
  have l4 : lim 4 = 4 := rfl
  have l5 : lim 5 = 4 := rfl
  obtain ⟨s1, s2, s3, s4, s5, s6, s7, s8, s9, s10, s11⟩ := H
  unfold fmt2 at e2
  unfold ST
  rw [e3, e1 n (by omega) (by omega), e1 (n + 1) (by omega) (by omega), e1 (n + 13) (by omega) (by omega), e1 (n + 14) (by omega) (by omega), e1 (n + 15) (by omega) (by omega), e1 (n + 16) (by omega) (by omega), e1 (n + 17) (by omega) (by omega), e1 (n + 18) (by omega) (by omega), e1 (n + 19) (by omega) (by omega), e1 (n + 20) (by omega) (by omega), e1 (n + 21) (by omega) (by omega)]
  refine ⟨s1, fun k hk => ?_, ?_, ?_, ?_, fun k hk => ⟨?_, fun b hb => ?_⟩, fun k hk b hb => ?_, fun k hk b hb => ?_, fun k hk => ?_, fun k hk => ?_, fun k hk => ⟨?_, fun b hb => ?_⟩⟩
  · rw [e2 125 k (by decide) (by decide) (by omega)]
    exact s2 k hk
  · rw [e2 125 6 (by decide) (by decide) (by omega)]
    exact s3
  · rw [e2 125 7 (by decide) (by decide) (by omega)]
    exact s4
  · rw [e2 125 8 (by decide) (by decide) (by omega)]
    exact s5
  · have l := L 0 k hk (by decide)
    rw [e2 127 _ (by decide) (by decide) (by omega)]
    exact (s6 k hk).1
  · have l := L 0 k hk (by decide)
    rw [e2 127 _ (by decide) (by decide) (by omega)]
    exact (s6 k hk).2 b hb
  · have l := L 1 k hk (by decide)
    rw [e2 128 _ (by decide) (by decide) (by omega)]
    exact s7 k hk b hb
  · have l := L 2 k hk (by decide)
    rw [e2 129 _ (by decide) (by decide) (by omega)]
    exact s8 k hk b hb
  · have l := L 3 k hk (by decide)
    rw [e2 130 _ (by decide) (by decide) (by omega), e2 131 _ (by decide) (by decide) (by omega)]
    exact s9 k hk
  · have l := L 4 k hk (by decide)
    rw [e2 132 _ (by decide) (by decide) (by omega), e2 133 _ (by decide) (by decide) (by omega)]
    exact s10 k hk
  · have l := L 5 k hk (by decide)
    rw [e2 134 _ (by decide) (by decide) (by omega)]
    exact (s11 k hk).1
  · have l := L 5 k hk (by decide)
    rw [e2 134 _ (by decide) (by decide) (by omega)]
    exact (s11 k hk).2 b hb
theorem LI_F2 {n : Nat} {h g : hp} {cs : List Nat} {ss : List (Nat × Nat)} (F : Fr cs ss h g) (e : fdj cs ss lic lis = true) (e1 : g (n + 1) = h (n + 1)) (H : LI n h) : LI n g := by
  have c := Fr_dj F e
  unfold LI
  rw [e1, c 48 0 rfl, c 48 1 rfl, c 48 2 rfl, c 48 3 rfl, c 48 4 rfl, c 48 6 rfl, c 123 24 rfl, c 123 25 rfl, c 123 26 rfl, c 123 27 rfl, c 123 28 rfl, c 123 29 rfl]
  obtain ⟨h1, h2, h3, h4, h5, h6, h7, h8⟩ := H
  exact ⟨h1, h2, h3, h4, h5, h6, fun i hi => by rw [c 135 i rfl, c 49 i rfl]; exact h7 i hi, fun i hi => by rw [c 136 i rfl, c 50 i rfl]; exact h8 i hi⟩
theorem BK_F2 {n : Nat} {h g : hp} {cs : List Nat} {ss : List (Nat × Nat)} (F : Fr cs ss h g) (e : fdj cs ss bkc bks = true) (e1 : g (n + 1) = h (n + 1)) (H : BK n h) : BK n g := by
  have c := Fr_dj F e
  unfold BK
  rw [e1, c 83 0 rfl, c 83 1 rfl, c 83 2 rfl, c 123 51 rfl, c 123 52 rfl, c 123 53 rfl]
  obtain ⟨h1, h2, h3, h4, h5, h6⟩ := H
  exact ⟨h1, h2, h3, fun i => by rw [c 84 i rfl, c 85 i rfl, c 86 i rfl, c 87 i rfl, c 88 i rfl, c 89 i rfl, c 151 i rfl, c 152 i rfl, c 153 i rfl, c 154 i rfl, c 155 i rfl, c 156 i rfl]; exact h4 i, fun i hi => by rw [c 85 i rfl, c 86 i rfl]; exact h5 i hi, fun i hi => by rw [c 89 i rfl]; exact h6 i hi⟩
theorem WI_F2 {n : Nat} {h g : hp} {cs : List Nat} {ss : List (Nat × Nat)} (F : Fr cs ss h g) (e : fdj cs ss [145, 146] [(79, 0), (123, 40)] = true) (e1 : g (n + 1) = h (n + 1)) (H : WI n h) : WI n g := by
  have c := Fr_dj F e
  have e145 : g 145 = h 145 := funext fun b => c 145 b rfl
  have e146 : g 146 = h 146 := funext fun b => c 146 b rfl
  unfold WI
  rw [e1, c 79 0 rfl, c 123 40 rfl, e145, e146]
  exact H
theorem LI_0 {n : Nat} {h : hp} (a0 : h 48 0 = 0) (a1 : h 48 1 = 0) (a2 : h 48 2 = 10) (a3 : h 48 3 = 0) (a4 : h 48 4 = 0) (a6 : h 48 6 = 0) (b0 : h 123 24 = 0) (b1 : h 123 25 = 0) (b2 : h 123 26 = 10) (b3 : h 123 27 = 0) (b4 : h 123 28 = 0) (b6 : h 123 29 = 0) : LI n h := by
  unfold LI
  rw [a0, a1, a2, a3, a4, a6, b0, b1, b2, b3, b4, b6]
  exact ⟨⟨rfl, by decide, Or.inl rfl⟩, ⟨rfl, by decide, Or.inl rfl⟩, ⟨rfl, by decide, by decide⟩, ⟨rfl, by decide, by decide⟩, ⟨rfl, by decide, by decide⟩, ⟨rfl, by decide, by decide⟩, fun i hi => absurd hi (by omega), fun i hi => absurd hi (by omega)⟩
theorem WI_0 {n : Nat} {h : hp} (a : h 79 0 = 0) (b : h 123 40 = 0) : WI n h := by
  refine ⟨0, 0, a, by decide, b, by decide, by decide, fun i hi => absurd hi (by omega), fun p _ => ⟨fun e => ?_, fun ⟨i, _, _, hi, _⟩ => absurd hi (by omega)⟩⟩
  rw [Nat.zero_div] at e
  exact absurd e (by decide)
theorem BK_0 {n : Nat} {h : hp} (a0 : h 83 0 = 0) (a1 : h 83 1 = 0) (a2 : h 83 2 = 0) (b0 : h 123 53 = 0) (b1 : h 123 51 = 0) (b2 : h 123 52 = 0) (e : ∀ i : Nat, h 151 i = h 84 i ∧ h 152 i = h 85 i ∧ h 153 i = h 86 i ∧ h 154 i = h 87 i ∧ h 155 i = h 88 i ∧ h 156 i = h 89 i) : BK n h := by
  unfold BK
  rw [a0, a1, a2, b0, b1, b2]
  exact ⟨⟨rfl, by decide, by decide⟩, ⟨rfl, by decide, by decide⟩, ⟨rfl, by decide, by decide⟩, e, fun i hi => absurd hi (by omega), fun i hi => absurd hi (by omega)⟩
