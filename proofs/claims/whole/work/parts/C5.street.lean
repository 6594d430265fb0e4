/-! A street's reading on both sides, from the calls to their ends. -/
def frS (c d : hp) : Prop := ∀ a b : Nat, ¬ fmt2 a b → ¬ (a = 123 ∧ (b = 1 ∨ b = 2)) → d a b = c a b
def stO (p : Nat) (v : Int) (c' gg : hp) : Prop := (1 ≤ v ∧ ∃ m' : hp, px_R (mm_Mod_street, 0, [(2, 123), (9, 0)], [], (K0, gg)) = some (-1, (K0, m')) ∧ frS gg m' ∧ m' 123 8 = v ∧ m' 123 9 = c' 2 3 ∧ m' 123 1 = 0) ∨ (v = 0 ∧ ∃ (m' : hp) (cn : Nat), px_R (mm_Mod_street, 0, [(2, 123), (9, 0)], [], (K0, gg)) = px_R (mm_Mod_street, 20, [(2, 123), (0, (cn : Int))], [], (K0, m')) ∧ m' 123 3 = 4 ∧ c' p 0 = (cn : Int) ∧ SPR p c' m' ∧ IR m' ∧ frS gg m' ∧ m' 123 8 = 0 ∧ m' 123 9 = -1 ∧ m' 123 1 = 0)
theorem rStr1 {p : Nat} (hpp : p = 4 ∨ p = 26) {T : Nat → Int} {N : Nat} {h gg : hp} (hI : IR h) (h1 : h 2 1 = (N : Int)) (N9 : N ≤ 900) (hT : ∀ j, h 3 j = T j) (hr : ∀ j, -128 ≤ T j ∧ T j < 128) (gI : IR gg) (g1 : gg 123 1 = (N : Int)) (gT : ∀ j, gg 124 j = T j) : ∃ (v : Int) (c' : hp), px_R (mm_Str_read, 0, [(2, (p : Int)), (2, 2), (9, 0), (9, 0)], [], (K0, h)) = some (v, (K0, c')) ∧ FS2 p h c' ∧ stO p v c' gg := by
  obtain ⟨c, c1, c2, c3, c4, c5, c6, c7, c8, c9⟩ := cStart hpp hI h1 N9 hT
  obtain ⟨m, s, e, k, m1, m2, m3, m4, m5, m6, m7, m8, m9, m10, m11⟩ := mStart gI g1 N9 gT hr
  have S0 : SPR p c m := SPR_0 c5 c6 c7 c8 m9 m10 m11
  have jr := jRead hpp N 0 s e k 0 c m (9, 0) (Nat.zero_add N) (Nat.le_refl 0) c2 c3 c4 m2 m3 m4 S0
  have c1 : px_R (mm_Str_read, 0, [(2, (p : Int)), (2, 2), (9, 0), (9, 0)], [], (K0, h)) = px_R (mm_Str_read, 11, [(2, (p : Int)), (2, 2), (0, ((0 : Nat) : Int)), (9, 0)], [], (K0, c)) := c1
  have m1 : px_R (mm_Mod_street, 0, [(2, 123), (9, 0)], [], (K0, gg)) = px_R (mm_Mod_street, 20, [(2, 123), (0, ((0 : Nat) : Int))], [], (K0, m)) := m1
  have nf : ¬ fmt2 123 1 := by unfold fmt2; decide
  rcases jr with ⟨v, c', m', r1, r2, r3, r4, r5, r6, r7⟩ | ⟨c', m', cn, r1, r2, r3, r4, r5, r6, r7, r8, r9⟩
  · exact ⟨v, c', c1.trans r1, FS2_tr c9 r4, Or.inl ⟨r3, m', m1.trans r2, fun a b z1 z2 => (r5 a b z1).trans (m5 a b z1 z2), r6, r7, (r5 123 1 nf).trans m6⟩⟩
  · exact ⟨0, c', c1.trans r1, FS2_tr c9 r6, Or.inr ⟨rfl, m', cn, m1.trans r2, r3, r4, r5, FMt_IR m2.1 r7, fun a b z1 z2 => (r7 a b z1).trans (m5 a b z1 z2), r8.trans m7, r9.trans m8, (r7 123 1 nf).trans m6⟩⟩
theorem rStreet {p : Nat} (hpp : p = 4 ∨ p = 26) {T : Nat → Int} {N : Nat} {h : hp} (hI : IR h) (h1 : h 2 1 = (N : Int)) (N9 : N ≤ 900) (hT : ∀ j, h 3 j = T j) (hr : ∀ j, -128 ≤ T j ∧ T j < 128) (h2 : h 123 1 = (N : Int)) (h3 : ∀ j, h 124 j = T j) : ∃ (v : Int) (c' : hp), px_R (mm_Str_read, 0, [(2, (p : Int)), (2, 2), (9, 0), (9, 0)], [], (K0, h)) = some (v, (K0, c')) ∧ FS2 p h c' ∧ ∀ gg : hp, IR gg → gg 123 1 = (N : Int) → (∀ j, gg 124 j = T j) → stO p v c' gg := by
  obtain ⟨v, c', r1, r2, _⟩ := rStr1 hpp hI h1 N9 hT hr hI h2 h3
  refine ⟨v, c', r1, r2, fun gg gI g1 gT => ?_⟩
  obtain ⟨v2, c2, q1, _, q3⟩ := rStr1 hpp hI h1 N9 hT hr gI g1 gT
  obtain ⟨e1, e2⟩ := some_i (r1.symm.trans q1)
  subst e1
  subst e2
  exact q3
