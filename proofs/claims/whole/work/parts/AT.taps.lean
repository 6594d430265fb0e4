/-! Rows of taps. -/
def beO : Nat → Int → Int → Option Int
  | 0, _, _ => none
  | f + 1, x1, x2 => if x2 < px_w (10 - 1) then (if px_gl (px_sar 3) x2 = true then (if x1 < px_lst (px_sar 3) x2.toNat then some x2 else beO f (px_w (x1 - px_lst (px_sar 3) x2.toNat)) (px_w (x2 + 1))) else none) else some x2
theorem beO_R (x0 : Int) (w : pw) (r : Int) : ∀ (f : Nat) (x1 x2 : Int), beO f x1 x2 = some r → px_R (mm_Taps_beats, 4, [(0, x0), (0, x1), (0, x2)], [], w) = some (r, w)
  | 0, _, _, h => by cases h
  | f + 1, x1, x2, h => by
    rw [beO] at h
    rw [eq_Taps_beats_4]
    by_cases c1 : x2 < px_w (10 - 1)
    · rw [if_pos c1] at h ⊢
      by_cases c2 : px_gl (px_sar 3) x2 = true
      · rw [if_pos c2] at h ⊢
        by_cases c3 : x1 < px_lst (px_sar 3) x2.toNat
        · rw [if_pos c3] at h ⊢
          cases h
          rfl
        · rw [if_neg c3] at h ⊢
          rw [if_pos c2]
          exact beO_R x0 w r f _ _ h
      · rw [if_neg c2] at h
        cases h
    · rw [if_neg c1] at h ⊢
      cases h
      rfl
def plO : Nat → Int → Int → Option Int
  | 0, _, _ => none
  | f + 1, x1, x2 => if x2 < 1 then some x1 else (if px_gl (px_sar 3) x2 = true then plO f (px_w (x1 - px_lst (px_sar 3) x2.toNat)) (px_w (x2 + (-1))) else none)
theorem plO_R (x0 : Int) (w : pw) (r : Int) : ∀ (f : Nat) (x1 x2 : Int), plO f x1 x2 = some r → px_R (mm_Taps_place, 9, [(0, x0), (0, x1), (0, x2)], [], w) = some (r, w)
  | 0, _, _, h => by cases h
  | f + 1, x1, x2, h => by
    rw [plO] at h
    rw [eq_Taps_place_9]
    by_cases c1 : x2 < 1
    · rw [if_pos c1] at h ⊢
      cases h
      rfl
    · rw [if_neg c1] at h ⊢
      by_cases c2 : px_gl (px_sar 3) x2 = true
      · rw [if_pos c2] at h ⊢
        exact plO_R x0 w r f _ _ h
      · rw [if_neg c2] at h
        cases h
def biO : Nat → Int → Int → Int → Option Int
  | 0, _, _, _ => none
  | f + 1, x1, x2, x3 => if 0 < x1 then (if px_gl (px_sar 3) (px_w (x1 - 1)) = true then (if x2 < px_lst (px_sar 3) (px_w (x1 - 1)).toNat then biO f (px_w (x1 - 1)) x2 (px_w (px_w (x3 * 2) + 0)) else biO f (px_w (x1 - 2)) (px_w (x2 - px_lst (px_sar 3) (px_w (x1 - 1)).toNat)) (px_w (px_w (x3 * 2) + 1))) else none) else some x3
theorem biO_R (x0 : Int) (w : pw) (r : Int) : ∀ (f : Nat) (x1 x2 x3 : Int) (y4 : pv), biO f x1 x2 x3 = some r → px_R (mm_Taps_bits, 12, [(0, x0), (0, x1), (0, x2), (0, x3), y4], [], w) = some (r, w)
  | 0, _, _, _, _, h => by cases h
  | f + 1, x1, x2, x3, y4, h => by
    rw [biO] at h
    rw [eq_Taps_bits_12]
    by_cases c1 : 0 < x1
    · rw [if_pos c1] at h ⊢
      by_cases c2 : px_gl (px_sar 3) (px_w (x1 - 1)) = true
      · rw [if_pos c2] at h ⊢
        by_cases c3 : x2 < px_lst (px_sar 3) (px_w (x1 - 1)).toNat
        · rw [if_pos c3] at h ⊢
          rw [eq_Taps_bits_32, if_pos rfl, if_pos rfl, eq_Taps_bits_62, if_pos rfl]
          exact biO_R x0 w r f _ _ _ _ h
        · rw [if_neg c3] at h ⊢
          rw [eq_Taps_bits_32, if_neg (by decide), if_pos c2, if_neg (by decide), eq_Taps_bits_62, if_neg (by decide)]
          exact biO_R x0 w r f _ _ _ _ h
      · rw [if_neg c2] at h
        cases h
    · rw [if_neg c1] at h ⊢
      cases h
      rfl
def roO : Nat → Int → Int → Int → Int → Int → Option Int
  | 0, _, _, _, _, _ => none
  | f + 1, x1, x2, x3, x4, x5 => if x1 < x5 then some x4 else
    (if Int.tmod x5 2 = 0 then (if Int.tmod x5 2 = 1 then roO f x1 0 x2 0 (px_w (x5 + 1)) else roO f x1 x2 x3 0 (px_w (x5 + 1)))
    else if x5 = 1 then (if Int.tmod x5 2 = 1 then roO f x1 1 x2 1 (px_w (x5 + 1)) else roO f x1 x2 x3 1 (px_w (x5 + 1)))
    else if x5 = 3 then (if Int.tmod x5 2 = 1 then roO f x1 (px_w (px_w (x2 + x3) + 1)) x2 (px_w (px_w (x2 + x3) + 1)) (px_w (x5 + 1)) else roO f x1 x2 x3 (px_w (px_w (x2 + x3) + 1)) (px_w (x5 + 1)))
    else (if Int.tmod x5 2 = 1 then roO f x1 (px_w (px_w (x2 + x3) + 0)) x2 (px_w (px_w (x2 + x3) + 0)) (px_w (x5 + 1)) else roO f x1 x2 x3 (px_w (px_w (x2 + x3) + 0)) (px_w (x5 + 1))))
theorem roO_R (x0 : Int) (w : pw) (r : Int) : ∀ (f : Nat) (x1 x2 x3 x4 x5 : Int) (y6 : pv), roO f x1 x2 x3 x4 x5 = some r → px_R (mm_Mod_rowsOf, 17, [(2, x0), (0, x1), (0, x2), (0, x3), (0, x4), (0, x5), y6], [], w) = some (r, w)
  | 0, _, _, _, _, _, _, h => by cases h
  | f + 1, x1, x2, x3, x4, x5, y6, h => by
    rw [roO] at h
    rw [eq_Mod_rowsOf_17]
    by_cases c1 : x1 < x5
    · rw [if_pos c1] at h ⊢
      cases h
      rfl
    · rw [if_neg c1] at h ⊢
      rw [eq_Mod_rowsOf_59, eq_Mod_rowsOf_59, eq_Mod_rowsOf_59, eq_Mod_rowsOf_59]
      by_cases c2 : Int.tmod x5 2 = 0
      · rw [if_pos c2] at h ⊢
        by_cases c5 : Int.tmod x5 2 = 1
        · rw [if_pos c5] at h ⊢; exact roO_R x0 w r f _ _ _ _ _ _ h
        · rw [if_neg c5] at h ⊢; exact roO_R x0 w r f _ _ _ _ _ _ h
      · rw [if_neg c2] at h ⊢
        by_cases c3 : x5 = 1
        · rw [if_pos c3] at h ⊢
          by_cases c5 : Int.tmod x5 2 = 1
          · rw [if_pos c5] at h ⊢; exact roO_R x0 w r f _ _ _ _ _ _ h
          · rw [if_neg c5] at h ⊢; exact roO_R x0 w r f _ _ _ _ _ _ h
        · rw [if_neg c3] at h ⊢
          by_cases c4 : x5 = 3
          · rw [if_pos c4] at h ⊢
            by_cases c5 : Int.tmod x5 2 = 1
            · rw [if_pos c5] at h ⊢; exact roO_R x0 w r f _ _ _ _ _ _ h
            · rw [if_neg c5] at h ⊢; exact roO_R x0 w r f _ _ _ _ _ _ h
          · rw [if_neg c4] at h ⊢
            by_cases c5 : Int.tmod x5 2 = 1
            · rw [if_pos c5] at h ⊢; exact roO_R x0 w r f _ _ _ _ _ _ h
            · rw [if_neg c5] at h ⊢; exact roO_R x0 w r f _ _ _ _ _ _ h
def rwO (x : Int) : Option Int := if x < 1 then some 0 else roO 40 x 0 0 0 1
theorem rwO_R (x0 : Int) (w : pw) {x r : Int} (h : rwO x = some r) : px_R (mm_Mod_rowsOf, 0, [(2, x0), (0, x), (9, 0), (9, 0), (9, 0), (9, 0), (9, 0)], [], w) = some (r, w) := by
  unfold rwO at h
  rw [eq_Mod_rowsOf_0]
  by_cases c : x < 1
  · rw [if_pos c] at h ⊢
    cases h
    rfl
  · rw [if_neg c] at h ⊢
    exact roO_R x0 w r 40 _ _ _ _ _ _ h
/-- the first loop: what is left, and how long it lasts -/
def f1O : Nat → Int → Int → Option (Int × Int)
  | 0, _, _ => none
  | f + 1, x2, x3 => (rwO x3).bind fun r => if x2 < r then some (x2, x3) else f1O f (px_w (x2 - r)) (px_w (x3 + 1))
/-- the second loop: how many, and the bits -/
def f2O : Nat → Int → Int → Int → Int → Option (Int × Int)
  | 0, _, _, _, _ => none
  | f + 1, x2, x3, m, b => if 0 < x3 then ((if x3 = 1 then some 1 else rwO (px_w (x3 - 2))).bind fun r => if x2 < r then f2O f x2 (px_w (x3 - 2)) (px_w (m + 1)) (px_w (px_w (2 * b) + 0)) else f2O f (px_w (x2 - r)) (px_w (x3 - 4)) (px_w (m + 1)) (px_w (px_w (2 * b) + 1))) else some (m, b)
def ftF (h g : hp) (la m b : Int) : Prop := Fr [] [(123, 47), (123, 48), (123, 49)] h g ∧ g 123 47 = la ∧ g 123 48 = m ∧ g 123 49 = b
theorem f2O_R (x1 : Int) (h : hp) (la : Int) (r : Int × Int) : ∀ (f : Nat) (x2 x3 m b : Int) (y4 y5 : pv) (g : hp), f2O f x2 x3 m b = some r → ftF h g la m b → ∃ k : hp, px_R (mm_Mod_findTaps, 42, [(2, 123), (0, x1), (0, x2), (0, x3), y4, y5], [], (K0, g)) = some (0, (K0, k)) ∧ ftF h k la r.1 r.2
  | 0, _, _, _, _, _, _, _, e, _ => by cases e
  | f + 1, x2, x3, m, b, y4, y5, g, e, F => by
    rw [f2O] at e
    rw [eq_Mod_findTaps_42]
    by_cases c1 : 0 < x3
    · rw [if_pos c1] at e ⊢
      have st : ∀ s : Int, (s = 0 → ∀ z4 z5 : pv, ftF h (px_up (px_up g 123 49 (px_w (px_w (2 * b) + 0))) 123 48 (px_w (m + 1))) la (px_w (m + 1)) (px_w (px_w (2 * b) + 0))) := fun s hs z4 z5 => ⟨Fr_up (Fr_up F.1 _ rfl) _ rfl, F.2.1, rfl, rfl⟩
      have st1 : ftF h (px_up (px_up g 123 49 (px_w (px_w (2 * b) + 1))) 123 48 (px_w (m + 1))) la (px_w (m + 1)) (px_w (px_w (2 * b) + 1)) := ⟨Fr_up (Fr_up F.1 _ rfl) _ rfl, F.2.1, rfl, rfl⟩
      have st0 := st 0 rfl (9, 0) (9, 0)
      have w0 : ∀ x4 : Int, px_R (mm_Mod_findTaps, 75, [(2, 123), (0, x1), (0, x2), (0, x3), (0, x4), y5], [(0, 0)], (K0, g)) = px_R (mm_Mod_findTaps, 42, [(2, 123), (0, x1), (0, x2), (0, px_w (x3 - 2)), (0, x4), (0, 0)], [], (K0, px_up (px_up g 123 49 (px_w (px_w (2 * b) + 0))) 123 48 (px_w (m + 1)))) := fun x4 => by
        rw [eq_Mod_findTaps_75]
        simp only [px_rd_mk, px_wr_mk, Int.reduceToNat, Int.toNat_natCast, if_true, if_false, Option.bind_some, px_up_cell, px_up_slot, px_up_eq, ne_eq, Nat.reduceEqDiff, not_false_eq_true, Int.reduceEq, Int.reduceLT, Int.reduceLE, Int.reduceNeg, decide_true, decide_false, Bool.and_true, Bool.true_and, Bool.and_false, Bool.false_and, and_self, and_true, true_and, and_false, false_and, bi_T, bi_F, not_true_eq_false, Bool.false_eq_true, kg_123, F.2.2.2]
        rw [eq_Mod_findTaps_104]
        simp only [px_rd_mk, px_wr_mk, Int.reduceToNat, Int.toNat_natCast, if_true, if_false, Option.bind_some, px_up_cell, px_up_slot, px_up_eq, ne_eq, Nat.reduceEqDiff, not_false_eq_true, Int.reduceEq, Int.reduceLT, Int.reduceLE, Int.reduceNeg, decide_true, decide_false, Bool.and_true, Bool.true_and, Bool.and_false, Bool.false_and, and_self, and_true, true_and, and_false, false_and, bi_T, bi_F, not_true_eq_false, Bool.false_eq_true, kg_123, F.2.2.1]
      have w1 : ∀ x4 : Int, px_R (mm_Mod_findTaps, 75, [(2, 123), (0, x1), (0, x2), (0, x3), (0, x4), y5], [(0, 1)], (K0, g)) = px_R (mm_Mod_findTaps, 42, [(2, 123), (0, x1), (0, px_w (x2 - x4)), (0, px_w (x3 - 4)), (0, x4), (0, 1)], [], (K0, px_up (px_up g 123 49 (px_w (px_w (2 * b) + 1))) 123 48 (px_w (m + 1)))) := fun x4 => by
        rw [eq_Mod_findTaps_75]
        simp only [px_rd_mk, px_wr_mk, Int.reduceToNat, Int.toNat_natCast, if_true, if_false, Option.bind_some, px_up_cell, px_up_slot, px_up_eq, ne_eq, Nat.reduceEqDiff, not_false_eq_true, Int.reduceEq, Int.reduceLT, Int.reduceLE, Int.reduceNeg, decide_true, decide_false, Bool.and_true, Bool.true_and, Bool.and_false, Bool.false_and, and_self, and_true, true_and, and_false, false_and, bi_T, bi_F, not_true_eq_false, Bool.false_eq_true, kg_123, F.2.2.2]
        rw [eq_Mod_findTaps_104]
        simp only [px_rd_mk, px_wr_mk, Int.reduceToNat, Int.toNat_natCast, if_true, if_false, Option.bind_some, px_up_cell, px_up_slot, px_up_eq, ne_eq, Nat.reduceEqDiff, not_false_eq_true, Int.reduceEq, Int.reduceLT, Int.reduceLE, Int.reduceNeg, decide_true, decide_false, Bool.and_true, Bool.true_and, Bool.and_false, Bool.false_and, and_self, and_true, true_and, and_false, false_and, bi_T, bi_F, not_true_eq_false, Bool.false_eq_true, kg_123, F.2.2.1]
      by_cases c2 : x3 = 1
      · rw [if_pos c2, Option.bind_some] at e
        rw [if_pos c2]
        by_cases c3 : x2 < 1
        · rw [if_pos c3] at e ⊢
          rw [w0]
          exact f2O_R x1 h la r f _ _ _ _ _ _ _ e st0
        · rw [if_neg c3] at e ⊢
          rw [w1]
          exact f2O_R x1 h la r f _ _ _ _ _ _ _ e st1
      · rw [if_neg c2] at e
        rw [if_neg c2]
        cases er : rwO (px_w (x3 - 2)) with
        | none => rw [er] at e; cases e
        | some q =>
          rw [er, Option.bind_some] at e
          simp only [px_rd_mk, px_wr_mk, Int.reduceToNat, Int.toNat_natCast, if_true, if_false, Option.bind_some, px_up_cell, px_up_slot, px_up_eq, ne_eq, Nat.reduceEqDiff, not_false_eq_true, Int.reduceEq, Int.reduceLT, Int.reduceLE, Int.reduceNeg, decide_true, decide_false, Bool.and_true, Bool.true_and, Bool.and_false, Bool.false_and, and_self, and_true, true_and, and_false, false_and, bi_T, bi_F, not_true_eq_false, Bool.false_eq_true, kg_123, rwO_R 123 (K0, g) er]
          by_cases c3 : x2 < q
          · rw [if_pos c3] at e ⊢
            rw [w0]
            exact f2O_R x1 h la r f _ _ _ _ _ _ _ e st0
          · rw [if_neg c3] at e ⊢
            rw [w1]
            exact f2O_R x1 h la r f _ _ _ _ _ _ _ e st1
    · rw [if_neg c1] at e ⊢
      cases e
      exact ⟨g, rfl, F⟩
theorem f1O_R (x1 : Int) (h : hp) (r : Int × Int) : ∀ (f : Nat) (x2 x3 : Int), f1O f x2 x3 = some r → ∃ g : hp, px_R (mm_Mod_findTaps, 4, [(2, 123), (0, x1), (0, x2), (0, x3), (9, 0), (9, 0)], [], (K0, h)) = px_R (mm_Mod_findTaps, 42, [(2, 123), (0, x1), (0, r.1), (0, r.2), (9, 0), (9, 0)], [], (K0, g)) ∧ ftF h g r.2 0 0
  | 0, _, _, e => by cases e
  | f + 1, x2, x3, e => by
    rw [f1O] at e
    rw [eq_Mod_findTaps_4]
    cases er : rwO x3 with
    | none => rw [er] at e; cases e
    | some q =>
      rw [er, Option.bind_some] at e
      simp only [px_rd_mk, px_wr_mk, Int.reduceToNat, Int.toNat_natCast, if_true, if_false, Option.bind_some, px_up_cell, px_up_slot, px_up_eq, ne_eq, Nat.reduceEqDiff, not_false_eq_true, Int.reduceEq, Int.reduceLT, Int.reduceLE, Int.reduceNeg, decide_true, decide_false, Bool.and_true, Bool.true_and, Bool.and_false, Bool.false_and, and_self, and_true, true_and, and_false, false_and, bi_T, bi_F, not_true_eq_false, Bool.false_eq_true, kg_123, rwO_R 123 (K0, h) er]
      by_cases c3 : x2 < q
      · rw [if_pos c3] at e ⊢
        cases e
        exact ⟨_, rfl, Fr_up (Fr_up (Fr_up (Fr_rf _ _ _) _ rfl) _ rfl) _ rfl, rfl, rfl, rfl⟩
      · rw [if_neg c3] at e ⊢
        exact f1O_R x1 h r f _ _ e
def tapC (k : Int) : Option (Int × Int × Int) := (beO 20 k 1).bind fun b => (plO 20 k (px_w (b - 1))).bind fun p => (biO 20 b p 0).bind fun q => some (px_w (px_w (2 * b) - 1), px_w (b - bcn q), q)
def tapM (k : Int) : Option (Int × Int × Int) := (f1O 40 k 1).bind fun r => (f2O 40 r.1 r.2 0 0).bind fun s => some (r.2, s.1, s.2)
theorem fx_tap : ∀ k : Fin 100, tapC (k.val : Int) = tapM (k.val : Int) ∧ (tapC (k.val : Int)).isSome = true := by decide +kernel
theorem R_tapC {k : Int} {r : Int × Int × Int} (e : tapC k = some r) (w : pw) : px_R (mm_Taps_lasts, 0, [(0, k)], [], w) = some (r.1, w) ∧ px_R (mm_Taps_length, 0, [(0, k)], [], w) = some (r.2.1, w) ∧ px_R (mm_Taps_bits, 0, [(0, k), (9, 0), (9, 0), (9, 0), (9, 0)], [], w) = some (r.2.2, w) := by
  unfold tapC at e
  cases e1 : beO 20 k 1 with
  | none => rw [e1] at e; cases e
  | some b =>
    rw [e1, Option.bind_some] at e
    cases e2 : plO 20 k (px_w (b - 1)) with
    | none => rw [e2] at e; cases e
    | some p =>
      rw [e2, Option.bind_some] at e
      cases e3 : biO 20 b p 0 with
      | none => rw [e3] at e; cases e
      | some q =>
        rw [e3, Option.bind_some] at e
        cases e
        have b0 : px_R (mm_Taps_beats, 0, [(0, k), (9, 0), (9, 0)], [], w) = some (b, w) := by
          rw [eq_Taps_beats_0]
          exact beO_R k w b 20 _ _ e1
        have p0 : px_R (mm_Taps_place, 0, [(0, k), (9, 0), (9, 0)], [], w) = some (p, w) := by
          rw [eq_Taps_place_0, b0, Option.bind_some]
          exact plO_R k w p 20 _ _ e2
        have q0 : px_R (mm_Taps_bits, 0, [(0, k), (9, 0), (9, 0), (9, 0), (9, 0)], [], w) = some (q, w) := by
          rw [eq_Taps_bits_0, b0, Option.bind_some, p0, Option.bind_some]
          exact biO_R k w q 20 _ _ _ _ e3
        refine ⟨?_, ?_, q0⟩
        · rw [eq_Taps_lasts_0, b0]; rfl
        · rw [eq_Taps_length_0, b0, Option.bind_some, q0, Option.bind_some, eq_Integer_bitCount_0]; rfl
theorem R_tapM {k : Int} {r : Int × Int × Int} (e : tapM k = some r) (h : hp) : ∃ g : hp, px_R (mm_Mod_findTaps, 0, [(2, 123), (0, k), (9, 0), (9, 0), (9, 0), (9, 0)], [], (K0, h)) = some (0, (K0, g)) ∧ ftF h g r.1 r.2.1 r.2.2 := by
  unfold tapM at e
  cases e1 : f1O 40 k 1 with
  | none => rw [e1] at e; cases e
  | some s =>
    rw [e1, Option.bind_some] at e
    cases e2 : f2O 40 s.1 s.2 0 0 with
    | none => rw [e2] at e; cases e
    | some t =>
      rw [e2, Option.bind_some] at e
      cases e
      obtain ⟨g, g1, g2⟩ := f1O_R k h s 40 _ _ e1
      obtain ⟨j, j1, j2⟩ := f2O_R k h s.2 t 40 _ _ _ _ (9, 0) (9, 0) g e2 g2
      exact ⟨j, by rw [eq_Mod_findTaps_0, g1, j1], j2⟩
theorem tap_ok {k : Nat} (hk : k < 100) (h : hp) (w : pw) : ∃ (a b c : Int) (g : hp), (px_R (mm_Taps_lasts, 0, [(0, (k : Int))], [], w) = some (a, w) ∧ px_R (mm_Taps_length, 0, [(0, (k : Int))], [], w) = some (b, w) ∧ px_R (mm_Taps_bits, 0, [(0, (k : Int)), (9, 0), (9, 0), (9, 0), (9, 0)], [], w) = some (c, w)) ∧ px_R (mm_Mod_findTaps, 0, [(2, 123), (0, (k : Int)), (9, 0), (9, 0), (9, 0), (9, 0)], [], (K0, h)) = some (0, (K0, g)) ∧ ftF h g a b c := by
  obtain ⟨f1, f2⟩ := fx_tap ⟨k, hk⟩
  simp only at f1 f2
  cases e : tapC (k : Int) with
  | none => rw [e] at f2; cases f2
  | some r =>
    rw [e] at f1
    obtain ⟨g, g1, g2⟩ := R_tapM f1.symm h
    exact ⟨r.1, r.2.1, r.2.2, g, R_tapC e w, g1, g2⟩
theorem C_tapRow {h : hp} (C : CI h) (x y : Int) : AL h mm_Tin_tapRow mm_Mod_tapRow [(2, 1), (0, x), (0, y)] [(2, 123), (0, x), (0, y)] := by
  have C2 := C
  obtain ⟨n, ⟨hn, h8, h9⟩, hI, hT, hK, hS, hL, hR, hC, hKs, hW, hB⟩ := C2
  by_cases hx : 0 ≤ x ∧ x ≤ 99
  · obtain ⟨k, rfl⟩ := Int.eq_ofNat_of_zero_le hx.1
    obtain ⟨a, b, c, g, ⟨c1, c2, c3⟩, m1, F, v1, v2, v3⟩ := tap_ok (k := k) (by omega) h (K0, h)
    by_cases hy : 0 ≤ y ∧ y ≤ 2
    · have hy3 : y = 0 ∨ y = 1 ∨ y = 2 := by omega
      rcases hy3 with rfl | rfl | rfl
      · refine ⟨a, h, g, ?_, ?_, ⟨n, SP_F F rfl ⟨hn, h8, h9⟩, IR_Fr hI F (by decide), TP_F F rfl hT, FK_F F rfl hK, ST_F hn F rfl hS, LI_F hn F rfl hL, RW_F F rfl hR, CR_F F rfl hC, KS_F F rfl hKs, WI_F hn F rfl hW, BK_F hn F rfl hB⟩⟩
        · rw [eq_Tin_tapRow_0, R_Tin_within, bi_t hx]
          simp only [px_rd_mk, px_wr_mk, Int.reduceToNat, Int.toNat_natCast, if_true, if_false, Option.bind_some, px_up_cell, px_up_slot, px_up_eq, ne_eq, Nat.reduceEqDiff, not_false_eq_true, Int.reduceEq, Int.reduceLT, Int.reduceLE, Int.reduceNeg, decide_true, decide_false, Bool.and_true, Bool.true_and, Bool.and_false, Bool.false_and, and_self, and_true, true_and, and_false, false_and, bi_T, bi_F, not_true_eq_false, Bool.false_eq_true, c1]
        · rw [eq_Mod_tapRow_0, R_Mod_in, bi_t hx]
          simp only [px_rd_mk, px_wr_mk, Int.reduceToNat, Int.toNat_natCast, if_true, if_false, Option.bind_some, px_up_cell, px_up_slot, px_up_eq, ne_eq, Nat.reduceEqDiff, not_false_eq_true, Int.reduceEq, Int.reduceLT, Int.reduceLE, Int.reduceNeg, decide_true, decide_false, Bool.and_true, Bool.true_and, Bool.and_false, Bool.false_and, and_self, and_true, true_and, and_false, false_and, bi_T, bi_F, not_true_eq_false, Bool.false_eq_true, kg_123, R_Mod_in, m1, v1]
      · refine ⟨b, h, g, ?_, ?_, ⟨n, SP_F F rfl ⟨hn, h8, h9⟩, IR_Fr hI F (by decide), TP_F F rfl hT, FK_F F rfl hK, ST_F hn F rfl hS, LI_F hn F rfl hL, RW_F F rfl hR, CR_F F rfl hC, KS_F F rfl hKs, WI_F hn F rfl hW, BK_F hn F rfl hB⟩⟩
        · rw [eq_Tin_tapRow_0, R_Tin_within, bi_t hx]
          simp only [px_rd_mk, px_wr_mk, Int.reduceToNat, Int.toNat_natCast, if_true, if_false, Option.bind_some, px_up_cell, px_up_slot, px_up_eq, ne_eq, Nat.reduceEqDiff, not_false_eq_true, Int.reduceEq, Int.reduceLT, Int.reduceLE, Int.reduceNeg, decide_true, decide_false, Bool.and_true, Bool.true_and, Bool.and_false, Bool.false_and, and_self, and_true, true_and, and_false, false_and, bi_T, bi_F, not_true_eq_false, Bool.false_eq_true, c2]
        · rw [eq_Mod_tapRow_0, R_Mod_in, bi_t hx]
          simp only [px_rd_mk, px_wr_mk, Int.reduceToNat, Int.toNat_natCast, if_true, if_false, Option.bind_some, px_up_cell, px_up_slot, px_up_eq, ne_eq, Nat.reduceEqDiff, not_false_eq_true, Int.reduceEq, Int.reduceLT, Int.reduceLE, Int.reduceNeg, decide_true, decide_false, Bool.and_true, Bool.true_and, Bool.and_false, Bool.false_and, and_self, and_true, true_and, and_false, false_and, bi_T, bi_F, not_true_eq_false, Bool.false_eq_true, kg_123, R_Mod_in, m1, v2]
      · refine ⟨c, h, g, ?_, ?_, ⟨n, SP_F F rfl ⟨hn, h8, h9⟩, IR_Fr hI F (by decide), TP_F F rfl hT, FK_F F rfl hK, ST_F hn F rfl hS, LI_F hn F rfl hL, RW_F F rfl hR, CR_F F rfl hC, KS_F F rfl hKs, WI_F hn F rfl hW, BK_F hn F rfl hB⟩⟩
        · rw [eq_Tin_tapRow_0, R_Tin_within, bi_t hx]
          simp only [px_rd_mk, px_wr_mk, Int.reduceToNat, Int.toNat_natCast, if_true, if_false, Option.bind_some, px_up_cell, px_up_slot, px_up_eq, ne_eq, Nat.reduceEqDiff, not_false_eq_true, Int.reduceEq, Int.reduceLT, Int.reduceLE, Int.reduceNeg, decide_true, decide_false, Bool.and_true, Bool.true_and, Bool.and_false, Bool.false_and, and_self, and_true, true_and, and_false, false_and, bi_T, bi_F, not_true_eq_false, Bool.false_eq_true, c3]
        · rw [eq_Mod_tapRow_0, R_Mod_in, bi_t hx]
          simp only [px_rd_mk, px_wr_mk, Int.reduceToNat, Int.toNat_natCast, if_true, if_false, Option.bind_some, px_up_cell, px_up_slot, px_up_eq, ne_eq, Nat.reduceEqDiff, not_false_eq_true, Int.reduceEq, Int.reduceLT, Int.reduceLE, Int.reduceNeg, decide_true, decide_false, Bool.and_true, Bool.true_and, Bool.and_false, Bool.false_and, and_self, and_true, true_and, and_false, false_and, bi_T, bi_F, not_true_eq_false, Bool.false_eq_true, kg_123, R_Mod_in, m1, v3]
    · have y0 : ¬ y = 0 := by omega
      have y1 : ¬ y = 1 := by omega
      have y2 : ¬ y = 2 := by omega
      refine AL_same C (-2) ?_ ?_
      · rw [eq_Tin_tapRow_0, R_Tin_within, bi_t hx]
        simp only [px_rd_mk, px_wr_mk, Int.reduceToNat, Int.toNat_natCast, if_true, if_false, Option.bind_some, px_up_cell, px_up_slot, px_up_eq, ne_eq, Nat.reduceEqDiff, not_false_eq_true, Int.reduceEq, Int.reduceLT, Int.reduceLE, Int.reduceNeg, decide_true, decide_false, Bool.and_true, Bool.true_and, Bool.and_false, Bool.false_and, and_self, and_true, true_and, and_false, false_and, bi_T, bi_F, not_true_eq_false, Bool.false_eq_true, y0, y1, y2]
      · rw [eq_Mod_tapRow_0, R_Mod_in, bi_t hx]
        simp only [px_rd_mk, px_wr_mk, Int.reduceToNat, Int.toNat_natCast, if_true, if_false, Option.bind_some, px_up_cell, px_up_slot, px_up_eq, ne_eq, Nat.reduceEqDiff, not_false_eq_true, Int.reduceEq, Int.reduceLT, Int.reduceLE, Int.reduceNeg, decide_true, decide_false, Bool.and_true, Bool.true_and, Bool.and_false, Bool.false_and, and_self, and_true, true_and, and_false, false_and, bi_T, bi_F, not_true_eq_false, Bool.false_eq_true, R_Mod_in, bi_f hy]
  · refine AL_same C (-2) ?_ ?_
    · rw [eq_Tin_tapRow_0, R_Tin_within, bi_f hx]
      simp only [px_rd_mk, px_wr_mk, Int.reduceToNat, Int.toNat_natCast, if_true, if_false, Option.bind_some, px_up_cell, px_up_slot, px_up_eq, ne_eq, Nat.reduceEqDiff, not_false_eq_true, Int.reduceEq, Int.reduceLT, Int.reduceLE, Int.reduceNeg, decide_true, decide_false, Bool.and_true, Bool.true_and, Bool.and_false, Bool.false_and, and_self, and_true, true_and, and_false, false_and, bi_T, bi_F, not_true_eq_false, Bool.false_eq_true]
    · rw [eq_Mod_tapRow_0, R_Mod_in, bi_f hx]
      simp only [px_rd_mk, px_wr_mk, Int.reduceToNat, Int.toNat_natCast, if_true, if_false, Option.bind_some, px_up_cell, px_up_slot, px_up_eq, ne_eq, Nat.reduceEqDiff, not_false_eq_true, Int.reduceEq, Int.reduceLT, Int.reduceLE, Int.reduceNeg, decide_true, decide_false, Bool.and_true, Bool.true_and, Bool.and_false, Bool.false_and, and_self, and_true, true_and, and_false, false_and, bi_T, bi_F, not_true_eq_false, Bool.false_eq_true]
