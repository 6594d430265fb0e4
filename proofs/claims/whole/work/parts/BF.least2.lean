/-! The reference: what a set of strings grants. -/
theorem granted_in {H : Nat} {Y : Nat → Int} {h : hp} (C : MS H Y h) {S r : Nat} (hS : S < 1024) (hr : r < 32) (x1 x3 x5 : Int) (k : Nat) : ∀ (p f : Nat), p + k = nP H → f < 32 → ∃ f2 : Nat, f2 < 32 ∧ px_R (mm_Mod_isGranted, 26, [(2, 123), (0, x1), (0, (S : Int)), (0, x3), (0, (f : Int)), (0, x5), (0, (r : Int)), (0, (p : Int))], [], (K0, h)) = px_R (mm_Mod_isGranted, 13, [(2, 123), (0, x1), (0, (S : Int)), (0, x3), (0, (f2 : Int)), (0, px_w (x5 + 1)), (0, (r : Int)), (0, (nP H : Int))], [], (K0, h)) ∧ ∀ x, x < 5 → (f2.testBit x = true ↔ f.testBit x = true ∨ ∃ q, p ≤ q ∧ q < nP H ∧ inS S q = true ∧ ((x = pA H q ∧ r.testBit (pB H q) = true) ∨ (x = pB H q ∧ r.testBit (pA H q) = true))) := by
  obtain ⟨hH, hI, hN, hp⟩ := C
  have l10 := (fx_pn ⟨H, by omega⟩).1
  simp only at l10
  induction k with
  | zero =>
    intro p f hk hf
    have : p = nP H := hk
    subst this
    refine ⟨f, hf, ?_, fun x _ => ⟨Or.inl, ?_⟩⟩
    · rw [eq_Mod_isGranted_26]
      simp only [px_rd_mk, px_wr_mk, Int.reduceToNat, Int.toNat_natCast, if_true, if_false, Option.bind_some, px_up_cell, px_up_slot, px_up_eq, ne_eq, Nat.reduceEqDiff, not_false_eq_true, Int.reduceEq, Int.reduceLT, Int.reduceLE, Int.reduceNeg, decide_true, decide_false, Bool.and_true, Bool.true_and, Bool.and_false, Bool.false_and, and_self, and_true, true_and, and_false, false_and, bi_T, bi_F, not_true_eq_false, Bool.false_eq_true, kg_123, ir_123_0 hI, ir_123_12 hI, ir_123_13 hI, ir_123_14 hI, ir_123_15 hI, ir_123_16 hI, ir_123_17 hI, ir_123_18 hI, ir_123_19 hI, ir_123_20 hI, ir_123_21 hI, ir_123_30 hI, ir_123_31 hI, ir_123_32 hI, ir_123_33 hI, ir_123_34 hI, ir_123_35 hI, ir_123_36 hI, ir_123_37 hI, ir_123_38 hI, ir_123_39 hI, ir_123_41 hI, ir_123_42 hI, ir_123_44 hI, ir_123_45 hI, ir_123_46 hI, ir_123_50 hI, ir_123_54 hI, ir_123_55 hI, ir_123_56 hI, ir_123_57 hI, ir_123_58 hI, ir_123_59 hI, ir_123_60 hI, ir_123_61 hI, ir_123_62 hI, hN, Int.lt_irrefl]
    · rintro (q | ⟨q, q1, q2, _⟩)
      · exact q
      · omega
  | succ k ih =>
    intro p f hk hf
    have hp1 : p < nP H := by omega
    obtain ⟨ab1, ab2, p10⟩ := pAB hH hp1
    have hlt : ((p : Int) < (nP H : Int)) = True := eq_true (by omega)
    have b1 := bit_0 hS p10
    have gp : (decide ((0 : Int) ≤ (p : Int)) && decide ((p : Int) < 10)) = true := gd_ok (by omega)
    obtain ⟨e1, e2, e3⟩ := hp p hp1
    cases inA : inS S p
    · have b2 : (px_and (px_shr (S : Int) (p : Int)) 1 = 0) = True := by rw [b1, inA]; simp
      obtain ⟨f2, g1, g2, g3⟩ := ih (p + 1) f (by omega) hf
      refine ⟨f2, g1, ?_, fun x hx => (g3 x hx).trans ?_⟩
      · rw [eq_Mod_isGranted_26]
        simp only [px_rd_mk, px_wr_mk, Int.reduceToNat, Int.toNat_natCast, if_true, if_false, Option.bind_some, px_up_cell, px_up_slot, px_up_eq, ne_eq, Nat.reduceEqDiff, not_false_eq_true, Int.reduceEq, Int.reduceLT, Int.reduceLE, Int.reduceNeg, decide_true, decide_false, Bool.and_true, Bool.true_and, Bool.and_false, Bool.false_and, and_self, and_true, true_and, and_false, false_and, bi_T, bi_F, not_true_eq_false, Bool.false_eq_true, kg_123, ir_123_0 hI, ir_123_12 hI, ir_123_13 hI, ir_123_14 hI, ir_123_15 hI, ir_123_16 hI, ir_123_17 hI, ir_123_18 hI, ir_123_19 hI, ir_123_20 hI, ir_123_21 hI, ir_123_30 hI, ir_123_31 hI, ir_123_32 hI, ir_123_33 hI, ir_123_34 hI, ir_123_35 hI, ir_123_36 hI, ir_123_37 hI, ir_123_38 hI, ir_123_39 hI, ir_123_41 hI, ir_123_42 hI, ir_123_44 hI, ir_123_45 hI, ir_123_46 hI, ir_123_50 hI, ir_123_54 hI, ir_123_55 hI, ir_123_56 hI, ir_123_57 hI, ir_123_58 hI, ir_123_59 hI, ir_123_60 hI, ir_123_61 hI, ir_123_62 hI, hN, hlt, b2, px_w_s (show p < 1000000 by omega)]
        exact g2
      · constructor
        · rintro (q | ⟨q, q1, q2, q3⟩)
          · exact Or.inl q
          · exact Or.inr ⟨q, by omega, q2, q3⟩
        · rintro (q | ⟨q, q1, q2, q3, q4⟩)
          · exact Or.inl q
          · by_cases z : q = p
            · rw [z, inA] at q3
              cases q3
            · exact Or.inr ⟨q, by omega, q2, q3, q4⟩
    · have b2 : (px_and (px_shr (S : Int) (p : Int)) 1 = 0) = False := by rw [b1, inA]; simp
      have bA := bit_1 (T := r) (a := pA H p) (by omega) (by omega)
      have bB := bit_1 (T := r) (a := pB H p) (by omega) (by omega)
      rw [inS_tb] at bA bB
      have tA := fun (x : Nat) (hx : x < 5) => fx_t1 ⟨pA H p, by omega⟩ ⟨x, hx⟩
      have tB := fun (x : Nat) (hx : x < 5) => fx_t1 ⟨pB H p, by omega⟩ ⟨x, hx⟩
      simp only at tA tB
      have lA := (tA 0 (by decide)).2
      have lB := (tB 0 (by decide)).2
      have fst : ∃ f1 : Nat, f1 < 32 ∧ px_R (mm_Mod_isGranted, 26, [(2, 123), (0, x1), (0, (S : Int)), (0, x3), (0, (f : Int)), (0, x5), (0, (r : Int)), (0, (p : Int))], [], (K0, h)) = px_R (mm_Mod_isGranted, 77, [(2, 123), (0, x1), (0, (S : Int)), (0, x3), (0, (f1 : Int)), (0, x5), (0, (r : Int)), (0, (p : Int))], [], (K0, h)) ∧ ∀ x, x < 5 → (f1.testBit x = true ↔ f.testBit x = true ∨ (x = pB H p ∧ r.testBit (pA H p) = true)) := by
        cases c : r.testBit (pA H p)
        · rw [c] at bA
          have bA : (px_and (px_shr (r : Int) (pA H p : Int)) 1 = 1) = False := bA.trans (by simp)
          refine ⟨f, hf, ?_, fun x _ => ⟨Or.inl, ?_⟩⟩
          · rw [eq_Mod_isGranted_26]
            simp only [px_rd_mk, px_wr_mk, Int.reduceToNat, Int.toNat_natCast, if_true, if_false, Option.bind_some, px_up_cell, px_up_slot, px_up_eq, ne_eq, Nat.reduceEqDiff, not_false_eq_true, Int.reduceEq, Int.reduceLT, Int.reduceLE, Int.reduceNeg, decide_true, decide_false, Bool.and_true, Bool.true_and, Bool.and_false, Bool.false_and, and_self, and_true, true_and, and_false, false_and, bi_T, bi_F, not_true_eq_false, Bool.false_eq_true, kg_123, ka_147, ir_123_0 hI, ir_123_12 hI, ir_123_13 hI, ir_123_14 hI, ir_123_15 hI, ir_123_16 hI, ir_123_17 hI, ir_123_18 hI, ir_123_19 hI, ir_123_20 hI, ir_123_21 hI, ir_123_30 hI, ir_123_31 hI, ir_123_32 hI, ir_123_33 hI, ir_123_34 hI, ir_123_35 hI, ir_123_36 hI, ir_123_37 hI, ir_123_38 hI, ir_123_39 hI, ir_123_41 hI, ir_123_42 hI, ir_123_44 hI, ir_123_45 hI, ir_123_46 hI, ir_123_50 hI, ir_123_54 hI, ir_123_55 hI, ir_123_56 hI, ir_123_57 hI, ir_123_58 hI, ir_123_59 hI, ir_123_60 hI, ir_123_61 hI, ir_123_62 hI, hN, hlt, b2, gp, e1, bA]
          · rintro (q | q)
            · exact q
            · exact absurd q.2 (by decide)
        · rw [c] at bA
          have bA : (px_and (px_shr (r : Int) (pA H p : Int)) 1 = 1) = True := bA.trans (by simp)
          have o1 := fx_or5 ⟨f, hf⟩ ⟨2 ^ pB H p, lB⟩
          have ol := or_lt ⟨f, hf⟩ ⟨2 ^ pB H p, lB⟩
          simp only at o1 ol
          refine ⟨f ||| 2 ^ pB H p, ol, ?_, fun x hx => ?_⟩
          · rw [eq_Mod_isGranted_26]
            simp only [px_rd_mk, px_wr_mk, Int.reduceToNat, Int.toNat_natCast, if_true, if_false, Option.bind_some, px_up_cell, px_up_slot, px_up_eq, ne_eq, Nat.reduceEqDiff, not_false_eq_true, Int.reduceEq, Int.reduceLT, Int.reduceLE, Int.reduceNeg, decide_true, decide_false, Bool.and_true, Bool.true_and, Bool.and_false, Bool.false_and, and_self, and_true, true_and, and_false, false_and, bi_T, bi_F, not_true_eq_false, Bool.false_eq_true, kg_123, ka_147, ka_148, ir_123_0 hI, ir_123_12 hI, ir_123_13 hI, ir_123_14 hI, ir_123_15 hI, ir_123_16 hI, ir_123_17 hI, ir_123_18 hI, ir_123_19 hI, ir_123_20 hI, ir_123_21 hI, ir_123_30 hI, ir_123_31 hI, ir_123_32 hI, ir_123_33 hI, ir_123_34 hI, ir_123_35 hI, ir_123_36 hI, ir_123_37 hI, ir_123_38 hI, ir_123_39 hI, ir_123_41 hI, ir_123_42 hI, ir_123_44 hI, ir_123_45 hI, ir_123_46 hI, ir_123_50 hI, ir_123_54 hI, ir_123_55 hI, ir_123_56 hI, ir_123_57 hI, ir_123_58 hI, ir_123_59 hI, ir_123_60 hI, ir_123_61 hI, ir_123_62 hI, hN, hlt, b2, gp, e1, e2, bA, shl_g (show pB H p < 31 by omega), o1]
          · rw [Nat.testBit_or, Bool.or_eq_true, (tB x hx).1]
            simp
      obtain ⟨f1, f1l, f1e, f1t⟩ := fst
      have snd : ∃ f3 : Nat, f3 < 32 ∧ px_R (mm_Mod_isGranted, 77, [(2, 123), (0, x1), (0, (S : Int)), (0, x3), (0, (f1 : Int)), (0, x5), (0, (r : Int)), (0, (p : Int))], [], (K0, h)) = px_R (mm_Mod_isGranted, 26, [(2, 123), (0, x1), (0, (S : Int)), (0, x3), (0, (f3 : Int)), (0, x5), (0, (r : Int)), (0, ((p + 1 : Nat) : Int))], [], (K0, h)) ∧ ∀ x, x < 5 → (f3.testBit x = true ↔ f1.testBit x = true ∨ (x = pA H p ∧ r.testBit (pB H p) = true)) := by
        cases c : r.testBit (pB H p)
        · rw [c] at bB
          have bB : (px_and (px_shr (r : Int) (pB H p : Int)) 1 = 1) = False := bB.trans (by simp)
          refine ⟨f1, f1l, ?_, fun x _ => ⟨Or.inl, ?_⟩⟩
          · rw [eq_Mod_isGranted_77]
            simp only [px_rd_mk, px_wr_mk, Int.reduceToNat, Int.toNat_natCast, if_true, if_false, Option.bind_some, px_up_cell, px_up_slot, px_up_eq, ne_eq, Nat.reduceEqDiff, not_false_eq_true, Int.reduceEq, Int.reduceLT, Int.reduceLE, Int.reduceNeg, decide_true, decide_false, Bool.and_true, Bool.true_and, Bool.and_false, Bool.false_and, and_self, and_true, true_and, and_false, false_and, bi_T, bi_F, not_true_eq_false, Bool.false_eq_true, kg_123, ka_148, ir_123_0 hI, ir_123_12 hI, ir_123_13 hI, ir_123_14 hI, ir_123_15 hI, ir_123_16 hI, ir_123_17 hI, ir_123_18 hI, ir_123_19 hI, ir_123_20 hI, ir_123_21 hI, ir_123_30 hI, ir_123_31 hI, ir_123_32 hI, ir_123_33 hI, ir_123_34 hI, ir_123_35 hI, ir_123_36 hI, ir_123_37 hI, ir_123_38 hI, ir_123_39 hI, ir_123_41 hI, ir_123_42 hI, ir_123_44 hI, ir_123_45 hI, ir_123_46 hI, ir_123_50 hI, ir_123_54 hI, ir_123_55 hI, ir_123_56 hI, ir_123_57 hI, ir_123_58 hI, ir_123_59 hI, ir_123_60 hI, ir_123_61 hI, ir_123_62 hI, gp, e2, bB, px_w_s (show p < 1000000 by omega)]
          · rintro (q | q)
            · exact q
            · exact absurd q.2 (by decide)
        · rw [c] at bB
          have bB : (px_and (px_shr (r : Int) (pB H p : Int)) 1 = 1) = True := bB.trans (by simp)
          have o1 := fx_or5 ⟨f1, f1l⟩ ⟨2 ^ pA H p, lA⟩
          have ol := or_lt ⟨f1, f1l⟩ ⟨2 ^ pA H p, lA⟩
          simp only at o1 ol
          refine ⟨f1 ||| 2 ^ pA H p, ol, ?_, fun x hx => ?_⟩
          · rw [eq_Mod_isGranted_77]
            simp only [px_rd_mk, px_wr_mk, Int.reduceToNat, Int.toNat_natCast, if_true, if_false, Option.bind_some, px_up_cell, px_up_slot, px_up_eq, ne_eq, Nat.reduceEqDiff, not_false_eq_true, Int.reduceEq, Int.reduceLT, Int.reduceLE, Int.reduceNeg, decide_true, decide_false, Bool.and_true, Bool.true_and, Bool.and_false, Bool.false_and, and_self, and_true, true_and, and_false, false_and, bi_T, bi_F, not_true_eq_false, Bool.false_eq_true, kg_123, ka_147, ka_148, ir_123_0 hI, ir_123_12 hI, ir_123_13 hI, ir_123_14 hI, ir_123_15 hI, ir_123_16 hI, ir_123_17 hI, ir_123_18 hI, ir_123_19 hI, ir_123_20 hI, ir_123_21 hI, ir_123_30 hI, ir_123_31 hI, ir_123_32 hI, ir_123_33 hI, ir_123_34 hI, ir_123_35 hI, ir_123_36 hI, ir_123_37 hI, ir_123_38 hI, ir_123_39 hI, ir_123_41 hI, ir_123_42 hI, ir_123_44 hI, ir_123_45 hI, ir_123_46 hI, ir_123_50 hI, ir_123_54 hI, ir_123_55 hI, ir_123_56 hI, ir_123_57 hI, ir_123_58 hI, ir_123_59 hI, ir_123_60 hI, ir_123_61 hI, ir_123_62 hI, gp, e1, e2, bB, shl_g (show pA H p < 31 by omega), o1, px_w_s (show p < 1000000 by omega)]
          · rw [Nat.testBit_or, Bool.or_eq_true, (tA x hx).1]
            simp
      obtain ⟨f3, f3l, f3e, f3t⟩ := snd
      obtain ⟨f2, g1, g2, g3⟩ := ih (p + 1) f3 (by omega) f3l
      refine ⟨f2, g1, f1e.trans (f3e.trans g2), fun x hx => ?_⟩
      rw [g3 x hx, f3t x hx, f1t x hx]
      constructor
      · rintro (((q | q) | q) | ⟨q, q1, q2, q3⟩)
        · exact Or.inl q
        · exact Or.inr ⟨p, Nat.le_refl p, hp1, inA, Or.inr q⟩
        · exact Or.inr ⟨p, Nat.le_refl p, hp1, inA, Or.inl q⟩
        · exact Or.inr ⟨q, by omega, q2, q3⟩
      · rintro (q | ⟨q, q1, q2, q3, q4⟩)
        · exact Or.inl (Or.inl (Or.inl q))
        · by_cases z : q = p
          · rw [z] at q4
            rcases q4 with q4 | q4
            · exact Or.inl (Or.inr q4)
            · exact Or.inl (Or.inl (Or.inr q4))
          · exact Or.inr ⟨q, by omega, q2, q3, q4⟩
theorem R_isGranted {H : Nat} {Y : Nat → Int} {h : hp} (C : MS H Y h) {S m i a b : Nat} (hS : S < 1024) (hm : m ≤ 4) (hi : i < 10) (ha : h 145 i = (a : Int)) (hb : h 146 i = (b : Int)) (hab : a < b) (hbH : b < H) : ∃ v : Int, px_R (mm_Mod_isGranted, 0, [(2, 123), (0, (i : Int)), (0, (S : Int)), (0, (m : Int)), (9, 0), (9, 0), (9, 0), (9, 0)], [], (K0, h)) = some (v, (K0, h)) ∧ ((v = 1 ∧ rc (nP H) (pA H) (pB H) S m a b) ∨ (v = 0 ∧ ¬ rc (nP H) (pA H) (pB H) S m a b)) := by
  have CC := C
  obtain ⟨hH, hI, hN, hp⟩ := CC
  have gi : (decide ((0 : Int) ≤ (i : Int)) && decide ((i : Int) < 10)) = true := gd_ok (by omega)
  have ml : ∀ k z r : Nat, z + k = m → r < 32 → (∀ x, x < 5 → (r.testBit x = true ↔ rc (nP H) (pA H) (pB H) S z a x)) → ∀ y6 y7 : pv, ∃ v : Int, px_R (mm_Mod_isGranted, 13, [(2, 123), (0, (i : Int)), (0, (S : Int)), (0, (m : Int)), (0, (r : Int)), (0, (z : Int)), y6, y7], [], (K0, h)) = some (v, (K0, h)) ∧ ((v = 1 ∧ rc (nP H) (pA H) (pB H) S m a b) ∨ (v = 0 ∧ ¬ rc (nP H) (pA H) (pB H) S m a b)) := by
    intro k
    induction k with
    | zero =>
      intro z r hz hr hx y6 y7
      have : z = m := hz
      subst this
      have b1 := bit_1 (T := r) (a := b) (by omega) (by omega)
      rw [inS_tb] at b1
      rw [eq_Mod_isGranted_13, if_neg (Int.lt_irrefl _)]
      by_cases c : r.testBit b = true
      · have b2 := b1.trans (eq_true c)
        refine ⟨1, ?_, Or.inl ⟨rfl, (hx b (by omega)).mp c⟩⟩
        simp only [px_rd_mk, px_wr_mk, Int.reduceToNat, Int.toNat_natCast, if_true, if_false, Option.bind_some, px_up_cell, px_up_slot, px_up_eq, ne_eq, Nat.reduceEqDiff, not_false_eq_true, Int.reduceEq, Int.reduceLT, Int.reduceLE, Int.reduceNeg, decide_true, decide_false, Bool.and_true, Bool.true_and, Bool.and_false, Bool.false_and, and_self, and_true, true_and, and_false, false_and, bi_T, bi_F, not_true_eq_false, Bool.false_eq_true, kg_123, ka_146, ir_123_0 hI, ir_123_12 hI, ir_123_13 hI, ir_123_14 hI, ir_123_15 hI, ir_123_16 hI, ir_123_17 hI, ir_123_18 hI, ir_123_19 hI, ir_123_20 hI, ir_123_21 hI, ir_123_30 hI, ir_123_31 hI, ir_123_32 hI, ir_123_33 hI, ir_123_34 hI, ir_123_35 hI, ir_123_36 hI, ir_123_37 hI, ir_123_38 hI, ir_123_39 hI, ir_123_41 hI, ir_123_42 hI, ir_123_44 hI, ir_123_45 hI, ir_123_46 hI, ir_123_50 hI, ir_123_54 hI, ir_123_55 hI, ir_123_56 hI, ir_123_57 hI, ir_123_58 hI, ir_123_59 hI, ir_123_60 hI, ir_123_61 hI, ir_123_62 hI, gi, hb, b2]
      · have b2 := b1.trans (eq_false c)
        refine ⟨0, ?_, Or.inr ⟨rfl, fun q => c ((hx b (by omega)).mpr q)⟩⟩
        simp only [px_rd_mk, px_wr_mk, Int.reduceToNat, Int.toNat_natCast, if_true, if_false, Option.bind_some, px_up_cell, px_up_slot, px_up_eq, ne_eq, Nat.reduceEqDiff, not_false_eq_true, Int.reduceEq, Int.reduceLT, Int.reduceLE, Int.reduceNeg, decide_true, decide_false, Bool.and_true, Bool.true_and, Bool.and_false, Bool.false_and, and_self, and_true, true_and, and_false, false_and, bi_T, bi_F, not_true_eq_false, Bool.false_eq_true, kg_123, ka_146, ir_123_0 hI, ir_123_12 hI, ir_123_13 hI, ir_123_14 hI, ir_123_15 hI, ir_123_16 hI, ir_123_17 hI, ir_123_18 hI, ir_123_19 hI, ir_123_20 hI, ir_123_21 hI, ir_123_30 hI, ir_123_31 hI, ir_123_32 hI, ir_123_33 hI, ir_123_34 hI, ir_123_35 hI, ir_123_36 hI, ir_123_37 hI, ir_123_38 hI, ir_123_39 hI, ir_123_41 hI, ir_123_42 hI, ir_123_44 hI, ir_123_45 hI, ir_123_46 hI, ir_123_50 hI, ir_123_54 hI, ir_123_55 hI, ir_123_56 hI, ir_123_57 hI, ir_123_58 hI, ir_123_59 hI, ir_123_60 hI, ir_123_61 hI, ir_123_62 hI, gi, hb, b2]
    | succ k ih =>
      intro z r hz hr hx y6 y7
      obtain ⟨f2, g1, g2, g3⟩ := granted_in C hS hr (i : Int) (m : Int) (z : Int) (nP H) 0 r (Nat.zero_add _) hr
      have g2 : px_R (mm_Mod_isGranted, 26, [(2, 123), (0, (i : Int)), (0, (S : Int)), (0, (m : Int)), (0, (r : Int)), (0, (z : Int)), (0, (r : Int)), (0, 0)], [], (K0, h)) = _ := g2
      rw [px_w_s (show z < 1000000 by omega)] at g2
      obtain ⟨v, v1, v2⟩ := ih (z + 1) f2 (by omega) g1 (fun x hx5 => by
        rw [g3 x hx5, hx x hx5, rc]
        constructor
        · rintro (q | ⟨q, q1, q2, q3, q4⟩)
          · exact Or.inl q
          · obtain ⟨ab1, ab2, p10⟩ := pAB hH q2
            exact Or.inr ⟨q, q2, q3, q4.imp (fun w => ⟨w.1, (hx _ (by omega)).mp w.2⟩) (fun w => ⟨w.1, (hx _ (by omega)).mp w.2⟩)⟩
        · rintro (q | ⟨q, q2, q3, q4⟩)
          · exact Or.inl q
          · obtain ⟨ab1, ab2, p10⟩ := pAB hH q2
            exact Or.inr ⟨q, Nat.zero_le q, q2, q3, q4.imp (fun w => ⟨w.1, (hx _ (by omega)).mpr w.2⟩) (fun w => ⟨w.1, (hx _ (by omega)).mpr w.2⟩)⟩) (0, (r : Int)) (0, (nP H : Int))
      refine ⟨v, ?_, v2⟩
      rw [eq_Mod_isGranted_13, if_pos (by omega), g2, v1]
  have t1 := fun x (hx : x < 5) => fx_t1 ⟨a, by omega⟩ ⟨x, hx⟩
  simp only at t1
  obtain ⟨v, v1, v2⟩ := ml m 0 (2 ^ a) (Nat.zero_add m) (t1 0 (by decide)).2 (fun x hx => (t1 x hx).1) (9, 0) (9, 0)
  refine ⟨v, ?_, v2⟩
  rw [eq_Mod_isGranted_0]
  simp only [px_rd_mk, px_wr_mk, Int.reduceToNat, Int.toNat_natCast, if_true, if_false, Option.bind_some, px_up_cell, px_up_slot, px_up_eq, ne_eq, Nat.reduceEqDiff, not_false_eq_true, Int.reduceEq, Int.reduceLT, Int.reduceLE, Int.reduceNeg, decide_true, decide_false, Bool.and_true, Bool.true_and, Bool.and_false, Bool.false_and, and_self, and_true, true_and, and_false, false_and, bi_T, bi_F, not_true_eq_false, Bool.false_eq_true, kg_123, ka_145, ir_123_0 hI, ir_123_12 hI, ir_123_13 hI, ir_123_14 hI, ir_123_15 hI, ir_123_16 hI, ir_123_17 hI, ir_123_18 hI, ir_123_19 hI, ir_123_20 hI, ir_123_21 hI, ir_123_30 hI, ir_123_31 hI, ir_123_32 hI, ir_123_33 hI, ir_123_34 hI, ir_123_35 hI, ir_123_36 hI, ir_123_37 hI, ir_123_38 hI, ir_123_39 hI, ir_123_41 hI, ir_123_42 hI, ir_123_44 hI, ir_123_45 hI, ir_123_46 hI, ir_123_50 hI, ir_123_54 hI, ir_123_55 hI, ir_123_56 hI, ir_123_57 hI, ir_123_58 hI, ir_123_59 hI, ir_123_60 hI, ir_123_61 hI, ir_123_62 hI, gi, ha, shl_g (show a < 31 by omega)]
  exact v1
theorem R_yardsBy {n H m : Nat} {Y : Nat → Int} {h : hp} (C : MS H Y h) (hY : ∀ p, p < nP H → -1 ≤ Y p ∧ Y p ≤ 141) (hm : m ≤ 4) {W c : Nat} (hc : h 123 40 = (c : Int)) (c10 : c ≤ 10) (ww : ∀ i : Nat, i < c → ∃ a b : Nat, a < b ∧ b < H ∧ h 145 i = (a : Int) ∧ h 146 i = (b : Int)) (wb : ∀ p : Nat, p < 10 → (W / 2 ^ p % 2 = 1 ↔ ∃ i a b : Nat, i < c ∧ h 145 i = (a : Int) ∧ h 146 i = (b : Int) ∧ prI H a b = p)) {S : Nat} (hS : S < 1024) : ∃ v : Int, px_R (mm_Mod_yardsBy, 0, [(2, 123), (0, (S : Int)), (0, (m : Int)), (9, 0), (9, 0)], [], (K0, h)) = some (v, (K0, h)) ∧ ((0 ≤ v ∧ v = yvS Y S (nP H) ∧ okS H W m Y S) ∨ (v = -1 ∧ ¬ okS H W m Y S)) := by
  have CC := C
  obtain ⟨hH, hI, hN, hp⟩ := CC
  have l10 := (fx_pn ⟨H, by omega⟩).1
  simp only at l10
  have l2 : (∀ p, p < nP H → inS S p = true → 0 ≤ Y p) → ∀ k i : Nat, i + k = c → (∀ j a b : Nat, j < i → h 145 j = (a : Int) → h 146 j = (b : Int) → rc (nP H) (pA H) (pB H) S m a b) → ∃ v : Int, px_R (mm_Mod_yardsBy, 57, [(2, 123), (0, (S : Int)), (0, (m : Int)), (0, yvS Y S (nP H)), (0, (i : Int))], [], (K0, h)) = some (v, (K0, h)) ∧ ((0 ≤ v ∧ v = yvS Y S (nP H) ∧ okS H W m Y S) ∨ (v = -1 ∧ ¬ okS H W m Y S)) := by
    intro free k
    induction k with
    | zero =>
      intro i hi V
      have : i = c := hi
      subst this
      refine ⟨yvS Y S (nP H), ?_, Or.inl ⟨yvS_nn (nP H) free, rfl, free, fun p hpp hpi => ?_⟩⟩
      · rw [eq_Mod_yardsBy_57]
        simp only [px_rd_mk, px_wr_mk, Int.reduceToNat, Int.toNat_natCast, if_true, if_false, Option.bind_some, px_up_cell, px_up_slot, px_up_eq, ne_eq, Nat.reduceEqDiff, not_false_eq_true, Int.reduceEq, Int.reduceLT, Int.reduceLE, Int.reduceNeg, decide_true, decide_false, Bool.and_true, Bool.true_and, Bool.and_false, Bool.false_and, and_self, and_true, true_and, and_false, false_and, bi_T, bi_F, not_true_eq_false, Bool.false_eq_true, kg_123, hc, Int.lt_irrefl]
      · obtain ⟨ab1, ab2, p10⟩ := pAB hH hpp
        have hpi2 : W / 2 ^ p % 2 = 1 := by
          unfold inS at hpi
          exact of_decide_eq_true hpi
        obtain ⟨j, a, b, j1, j2, j3, j4⟩ := (wb p p10).mp hpi2
        obtain ⟨a2, b2, k1, k2, k3, k4⟩ := ww j j1
        have ea : a2 = a := by omega
        have eb : b2 = b := by omega
        subst ea eb
        have pp := (fx_pp ⟨H, by omega⟩ ⟨b2, by omega⟩ ⟨a2, by omega⟩ (show b2 < H by omega) k1).1
        simp only at pp
        rw [j4] at pp
        have eA : pA H p = a2 := by unfold pA; rw [pp]
        have eB : pB H p = b2 := by unfold pB; rw [pp]
        rw [eA, eB]
        exact V j a2 b2 j1 j2 j3
    | succ k ih =>
      intro i hi V
      have hlt : ((i : Int) < (c : Int)) = True := eq_true (by omega)
      obtain ⟨a, b, k1, k2, k3, k4⟩ := ww i (by omega)
      obtain ⟨v, v1, v2⟩ := R_isGranted C (m := m) hS hm (show i < 10 by omega) k3 k4 k1 k2
      rcases v2 with ⟨rfl, v2⟩ | ⟨rfl, v2⟩
      · obtain ⟨v', w1, w2⟩ := ih (i + 1) (by omega) (fun j a' b' hj h1 h2 => by
          by_cases e : j = i
          · subst e
            have ea : a' = a := by omega
            have eb : b' = b := by omega
            rw [ea, eb]; exact v2
          · exact V j a' b' (by omega) h1 h2)
        refine ⟨v', ?_, w2⟩
        rw [eq_Mod_yardsBy_57]
        simp only [px_rd_mk, px_wr_mk, Int.reduceToNat, Int.toNat_natCast, if_true, if_false, Option.bind_some, px_up_cell, px_up_slot, px_up_eq, ne_eq, Nat.reduceEqDiff, not_false_eq_true, Int.reduceEq, Int.reduceLT, Int.reduceLE, Int.reduceNeg, decide_true, decide_false, Bool.and_true, Bool.true_and, Bool.and_false, Bool.false_and, and_self, and_true, true_and, and_false, false_and, bi_T, bi_F, not_true_eq_false, Bool.false_eq_true, kg_123, hc, hlt, v1, px_w_s (show i < 1000000 by omega)]
        exact w1
      · refine ⟨-1, ?_, Or.inr ⟨rfl, fun ok => v2 ?_⟩⟩
        · rw [eq_Mod_yardsBy_57]
          simp only [px_rd_mk, px_wr_mk, Int.reduceToNat, Int.toNat_natCast, if_true, if_false, Option.bind_some, px_up_cell, px_up_slot, px_up_eq, ne_eq, Nat.reduceEqDiff, not_false_eq_true, Int.reduceEq, Int.reduceLT, Int.reduceLE, Int.reduceNeg, decide_true, decide_false, Bool.and_true, Bool.true_and, Bool.and_false, Bool.false_and, and_self, and_true, true_and, and_false, false_and, bi_T, bi_F, not_true_eq_false, Bool.false_eq_true, kg_123, hc, hlt, v1]
        · have pp := fx_pp ⟨H, by omega⟩ ⟨b, by omega⟩ ⟨a, by omega⟩ (show b < H by omega) k1
          simp only at pp
          obtain ⟨pp1, pp2, _⟩ := pp
          have g := ok.2 (prI H a b) pp2 (by
            unfold inS
            exact decide_eq_true ((wb _ (by omega)).mpr ⟨i, a, b, by omega, k3, k4, rfl⟩))
          have eA : pA H (prI H a b) = a := by unfold pA; rw [pp1]
          have eB : pB H (prI H a b) = b := by unfold pB; rw [pp1]
          rw [eA, eB] at g
          exact g
  have l1 : ∀ k p : Nat, p + k = nP H → (∀ q, q < p → inS S q = true → 0 ≤ Y q) → ∃ v : Int, px_R (mm_Mod_yardsBy, 5, [(2, 123), (0, (S : Int)), (0, (m : Int)), (0, yvS Y S p), (0, (p : Int))], [], (K0, h)) = some (v, (K0, h)) ∧ ((0 ≤ v ∧ v = yvS Y S (nP H) ∧ okS H W m Y S) ∨ (v = -1 ∧ ¬ okS H W m Y S)) := by
    intro k
    induction k with
    | zero =>
      intro p hpk V
      have : p = nP H := hpk
      subst this
      obtain ⟨v, v1, v2⟩ := l2 V c 0 (Nat.zero_add c) (fun j _ _ hj => absurd hj (by omega))
      refine ⟨v, ?_, v2⟩
      rw [eq_Mod_yardsBy_5]
      simp only [px_rd_mk, px_wr_mk, Int.reduceToNat, Int.toNat_natCast, if_true, if_false, Option.bind_some, px_up_cell, px_up_slot, px_up_eq, ne_eq, Nat.reduceEqDiff, not_false_eq_true, Int.reduceEq, Int.reduceLT, Int.reduceLE, Int.reduceNeg, decide_true, decide_false, Bool.and_true, Bool.true_and, Bool.and_false, Bool.false_and, and_self, and_true, true_and, and_false, false_and, bi_T, bi_F, not_true_eq_false, Bool.false_eq_true, kg_123, hN, Int.lt_irrefl]
      exact v1
    | succ k ih =>
      intro p hpk V
      have hlt : ((p : Int) < (nP H : Int)) = True := eq_true (by omega)
      have gp : (decide ((0 : Int) ≤ (p : Int)) && decide ((p : Int) < 10)) = true := gd_ok (by omega)
      have b1 := bit_0 hS (show p < 10 by omega)
      obtain ⟨e1, e2, e3⟩ := hp p (by omega)
      have yr := yvS_rng (Y := Y) (S := S) p fun q hq => hY q (by omega)
      have yp := hY p (by omega)
      cases inA : inS S p
      · have b2 : (px_and (px_shr (S : Int) (p : Int)) 1 = 0) = True := by rw [b1, inA]; simp
        obtain ⟨v, v1, v2⟩ := ih (p + 1) (by omega) (fun q hq hi => by
          by_cases e : q = p
          · rw [e, inA] at hi; cases hi
          · exact V q (by omega) hi)
        rw [yvS, inA, if_neg (by decide), Int.add_zero] at v1
        refine ⟨v, ?_, v2⟩
        rw [eq_Mod_yardsBy_5]
        simp only [px_rd_mk, px_wr_mk, Int.reduceToNat, Int.toNat_natCast, if_true, if_false, Option.bind_some, px_up_cell, px_up_slot, px_up_eq, ne_eq, Nat.reduceEqDiff, not_false_eq_true, Int.reduceEq, Int.reduceLT, Int.reduceLE, Int.reduceNeg, decide_true, decide_false, Bool.and_true, Bool.true_and, Bool.and_false, Bool.false_and, and_self, and_true, true_and, and_false, false_and, bi_T, bi_F, not_true_eq_false, Bool.false_eq_true, kg_123, hN, hlt, b2, px_w_s (show p < 1000000 by omega)]
        exact v1
      · have b2 : (px_and (px_shr (S : Int) (p : Int)) 1 = 0) = False := by rw [b1, inA]; simp
        by_cases c0 : Y p < 0
        · have c1 := eq_true c0
          refine ⟨-1, ?_, Or.inr ⟨rfl, fun ok => by
            have := ok.1 p (by omega) inA
            omega⟩⟩
          rw [eq_Mod_yardsBy_5]
          simp only [px_rd_mk, px_wr_mk, Int.reduceToNat, Int.toNat_natCast, if_true, if_false, Option.bind_some, px_up_cell, px_up_slot, px_up_eq, ne_eq, Nat.reduceEqDiff, not_false_eq_true, Int.reduceEq, Int.reduceLT, Int.reduceLE, Int.reduceNeg, decide_true, decide_false, Bool.and_true, Bool.true_and, Bool.and_false, Bool.false_and, and_self, and_true, true_and, and_false, false_and, bi_T, bi_F, not_true_eq_false, Bool.false_eq_true, kg_123, ka_149, ir_123_0 hI, ir_123_12 hI, ir_123_13 hI, ir_123_14 hI, ir_123_15 hI, ir_123_16 hI, ir_123_17 hI, ir_123_18 hI, ir_123_19 hI, ir_123_20 hI, ir_123_21 hI, ir_123_30 hI, ir_123_31 hI, ir_123_32 hI, ir_123_33 hI, ir_123_34 hI, ir_123_35 hI, ir_123_36 hI, ir_123_37 hI, ir_123_38 hI, ir_123_39 hI, ir_123_41 hI, ir_123_42 hI, ir_123_44 hI, ir_123_45 hI, ir_123_46 hI, ir_123_50 hI, ir_123_54 hI, ir_123_55 hI, ir_123_56 hI, ir_123_57 hI, ir_123_58 hI, ir_123_59 hI, ir_123_60 hI, ir_123_61 hI, ir_123_62 hI, hN, hlt, b2, gp, e3, c1]
        · have c1 := eq_false c0
          obtain ⟨v, v1, v2⟩ := ih (p + 1) (by omega) (fun q hq hi => by
            by_cases e : q = p
            · rw [e]; omega
            · exact V q (by omega) hi)
          rw [yvS, inA, if_pos rfl] at v1
          have w1 : -2147483648 ≤ yvS Y S p + Y p ∧ yvS Y S p + Y p < 2147483648 := by omega
          refine ⟨v, ?_, v2⟩
          rw [eq_Mod_yardsBy_5]
          simp only [px_rd_mk, px_wr_mk, Int.reduceToNat, Int.toNat_natCast, if_true, if_false, Option.bind_some, px_up_cell, px_up_slot, px_up_eq, ne_eq, Nat.reduceEqDiff, not_false_eq_true, Int.reduceEq, Int.reduceLT, Int.reduceLE, Int.reduceNeg, decide_true, decide_false, Bool.and_true, Bool.true_and, Bool.and_false, Bool.false_and, and_self, and_true, true_and, and_false, false_and, bi_T, bi_F, not_true_eq_false, Bool.false_eq_true, kg_123, ka_149, ir_123_0 hI, ir_123_12 hI, ir_123_13 hI, ir_123_14 hI, ir_123_15 hI, ir_123_16 hI, ir_123_17 hI, ir_123_18 hI, ir_123_19 hI, ir_123_20 hI, ir_123_21 hI, ir_123_30 hI, ir_123_31 hI, ir_123_32 hI, ir_123_33 hI, ir_123_34 hI, ir_123_35 hI, ir_123_36 hI, ir_123_37 hI, ir_123_38 hI, ir_123_39 hI, ir_123_41 hI, ir_123_42 hI, ir_123_44 hI, ir_123_45 hI, ir_123_46 hI, ir_123_50 hI, ir_123_54 hI, ir_123_55 hI, ir_123_56 hI, ir_123_57 hI, ir_123_58 hI, ir_123_59 hI, ir_123_60 hI, ir_123_61 hI, ir_123_62 hI, hN, hlt, b2, gp, e3, c1, px_w_n w1, px_w_s (show p < 1000000 by omega)]
          exact v1
  obtain ⟨v, v1, v2⟩ := l1 (nP H) 0 (Nat.zero_add _) (fun q hq => absurd hq (by omega))
  refine ⟨v, ?_, v2⟩
  rw [eq_Mod_yardsBy_0]
  exact v1
theorem mleast_loop {n H m : Nat} {Y : Nat → Int} {h : hp} (C : MS H Y h) (hY : ∀ p, p < nP H → -1 ≤ Y p ∧ Y p ≤ 141) (hm : m ≤ 4) {W c : Nat} (hc : h 123 40 = (c : Int)) (c10 : c ≤ 10) (ww : ∀ i : Nat, i < c → ∃ a b : Nat, a < b ∧ b < H ∧ h 145 i = (a : Int) ∧ h 146 i = (b : Int)) (wb : ∀ p : Nat, p < 10 → (W / 2 ^ p % 2 = 1 ↔ ∃ i a b : Nat, i < c ∧ h 145 i = (a : Int) ∧ h 146 i = (b : Int) ∧ prI H a b = p)) (x2 : Int) (k : Nat) : ∀ (S : Nat), S + k = 2 ^ nP H → ∀ (y b x4 : Int) (y6 : pv), LSt H W m Y S y b → (¬ b = -1 → x4 = y) → ∃ yy bb : Int, LSt H W m Y (2 ^ nP H) yy bb ∧ px_R (mm_Mod_least, 33, [(2, 123), (0, (m : Int)), (0, x2), (0, b), (0, x4), (0, (S : Int)), y6], [], (K0, h)) = some (if x2 = 0 then yy else bb, (K0, h)) := by
  obtain ⟨hH, hI, hN, hp⟩ := C
  have l10 := (fx_pn ⟨H, by omega⟩).1
  simp only at l10
  have two : 2 ^ nP H ≤ 2 ^ 10 := Nat.pow_le_pow_right (by decide) l10
  have sh := shl_g (show nP H < 31 by omega)
  induction k with
  | zero =>
    intro S hS y b x4 y6 L hx
    have : S = 2 ^ nP H := hS
    subst this
    refine ⟨y, b, L, ?_⟩
    by_cases e : b = -1
    · have ey : y = -1 := by
        rcases L with ⟨l1, _⟩ | ⟨T, l1, l2, _⟩
        · exact l1
        · omega
      subst e ey
      rw [eq_Mod_least_33]
      simp only [px_rd_mk, px_wr_mk, Int.reduceToNat, Int.toNat_natCast, if_true, if_false, Option.bind_some, px_up_cell, px_up_slot, px_up_eq, ne_eq, Nat.reduceEqDiff, not_false_eq_true, Int.reduceEq, Int.reduceLT, Int.reduceLE, Int.reduceNeg, decide_true, decide_false, Bool.and_true, Bool.true_and, Bool.and_false, Bool.false_and, and_self, and_true, true_and, and_false, false_and, bi_T, bi_F, not_true_eq_false, Bool.false_eq_true, kg_123, hN, sh, Int.lt_irrefl]
      split <;> rfl
    · have e1 := eq_false e
      rw [hx e, eq_Mod_least_33]
      simp only [px_rd_mk, px_wr_mk, Int.reduceToNat, Int.toNat_natCast, if_true, if_false, Option.bind_some, px_up_cell, px_up_slot, px_up_eq, ne_eq, Nat.reduceEqDiff, not_false_eq_true, Int.reduceEq, Int.reduceLT, Int.reduceLE, Int.reduceNeg, decide_true, decide_false, Bool.and_true, Bool.true_and, Bool.and_false, Bool.false_and, and_self, and_true, true_and, and_false, false_and, bi_T, bi_F, not_true_eq_false, Bool.false_eq_true, kg_123, hN, sh, Int.lt_irrefl, e1]
      split <;> rfl
  | succ k ih =>
    intro S hS y b x4 y6 L hx
    have hlt : ((S : Int) < ((2 ^ nP H : Nat) : Int)) = True := eq_true (by omega)
    obtain ⟨v, v1, v2⟩ := R_yardsBy (n := n) ⟨hH, hI, hN, hp⟩ hY hm hc c10 ww wb (S := S) (by omega)
    rcases v2 with ⟨v0, vy, ok⟩ | ⟨rfl, no⟩
    · have c1 : (v < 0) = False := eq_false (by omega)
      by_cases up : b = -1 ∨ v < y
      · obtain ⟨yy, bb, q1, q2⟩ := ih (S + 1) (by omega) (yvS Y S (nP H)) (S : Int) v (0, v) (LSt_up L ok (by rw [← vy]; exact up)) (fun _ => vy)
        refine ⟨yy, bb, q1, ?_⟩
        rw [eq_Mod_least_33]
        by_cases e : b = -1
        · have e1 := eq_true e
          simp only [px_rd_mk, px_wr_mk, Int.reduceToNat, Int.toNat_natCast, if_true, if_false, Option.bind_some, px_up_cell, px_up_slot, px_up_eq, ne_eq, Nat.reduceEqDiff, not_false_eq_true, Int.reduceEq, Int.reduceLT, Int.reduceLE, Int.reduceNeg, decide_true, decide_false, Bool.and_true, Bool.true_and, Bool.and_false, Bool.false_and, and_self, and_true, true_and, and_false, false_and, bi_T, bi_F, not_true_eq_false, Bool.false_eq_true, kg_123, hN, sh, hlt, v1, c1, e1, px_w_s (show S < 1000000 by omega)]
          exact q2
        · have e1 := eq_false e
          have e2 : (v < x4) = True := eq_true (by rw [hx e]; exact up.resolve_left e)
          simp only [px_rd_mk, px_wr_mk, Int.reduceToNat, Int.toNat_natCast, if_true, if_false, Option.bind_some, px_up_cell, px_up_slot, px_up_eq, ne_eq, Nat.reduceEqDiff, not_false_eq_true, Int.reduceEq, Int.reduceLT, Int.reduceLE, Int.reduceNeg, decide_true, decide_false, Bool.and_true, Bool.true_and, Bool.and_false, Bool.false_and, and_self, and_true, true_and, and_false, false_and, bi_T, bi_F, not_true_eq_false, Bool.false_eq_true, kg_123, hN, sh, hlt, v1, c1, e1, e2, px_w_s (show S < 1000000 by omega)]
          exact q2
      · have e : ¬ b = -1 := fun z => up (Or.inl z)
        have e1 := eq_false e
        have e2 : (v < x4) = False := eq_false (by rw [hx e]; exact fun z => up (Or.inr z))
        have ge : y ≤ yvS Y S (nP H) := by
          rw [← vy]
          have : ¬ v < y := fun z => up (Or.inr z)
          omega
        obtain ⟨yy, bb, q1, q2⟩ := ih (S + 1) (by omega) y b x4 (0, v) (LSt_ge L e ge) hx
        refine ⟨yy, bb, q1, ?_⟩
        rw [eq_Mod_least_33]
        simp only [px_rd_mk, px_wr_mk, Int.reduceToNat, Int.toNat_natCast, if_true, if_false, Option.bind_some, px_up_cell, px_up_slot, px_up_eq, ne_eq, Nat.reduceEqDiff, not_false_eq_true, Int.reduceEq, Int.reduceLT, Int.reduceLE, Int.reduceNeg, decide_true, decide_false, Bool.and_true, Bool.true_and, Bool.and_false, Bool.false_and, and_self, and_true, true_and, and_false, false_and, bi_T, bi_F, not_true_eq_false, Bool.false_eq_true, kg_123, hN, sh, hlt, v1, c1, e1, e2, px_w_s (show S < 1000000 by omega)]
        exact q2
    · obtain ⟨yy, bb, q1, q2⟩ := ih (S + 1) (by omega) y b x4 (0, -1) (LSt_no L no) hx
      refine ⟨yy, bb, q1, ?_⟩
      rw [eq_Mod_least_33]
      simp only [px_rd_mk, px_wr_mk, Int.reduceToNat, Int.toNat_natCast, if_true, if_false, Option.bind_some, px_up_cell, px_up_slot, px_up_eq, ne_eq, Nat.reduceEqDiff, not_false_eq_true, Int.reduceEq, Int.reduceLT, Int.reduceLE, Int.reduceNeg, decide_true, decide_false, Bool.and_true, Bool.true_and, Bool.and_false, Bool.false_and, and_self, and_true, true_and, and_false, false_and, bi_T, bi_F, not_true_eq_false, Bool.false_eq_true, kg_123, hN, sh, hlt, v1, px_w_s (show S < 1000000 by omega)]
      exact q2
theorem C_least {h : hp} (C : CI h) (x y : Int) : AL h mm_Tin_least mm_Mod_least [(2, 1), (0, x), (0, y)] [(2, 123), (0, x), (0, y), (9, 0), (9, 0), (9, 0), (9, 0)] := by
  have C2 := C
  obtain ⟨n, ⟨hn, h8, h9⟩, hI, hT, hK, hS, hL, hR, hC, hKs, hW, hB⟩ := C2
  by_cases hx : 1 ≤ x ∧ x ≤ 4
  · by_cases hy : 0 ≤ y ∧ y ≤ 1
    · obtain ⟨m, rfl⟩ := Int.eq_ofNat_of_zero_le (show 0 ≤ x by omega)
      have c3 := hS.2.1 3 (by decide)
      have l3 : lim 3 = 5 := rfl
      obtain ⟨H, hH⟩ := Int.eq_ofNat_of_zero_le c3.2.1
      have hH2 : (h (n + 1) 3).toNat = H := by omega
      have H5 : H ≤ 5 := by omega
      have hW' := hW
      obtain ⟨W, c, w1, w2, w3, w4, w5, w6, w7⟩ := hW'
      rw [hH2] at w7
      obtain ⟨g, e1, F1, L1⟩ := R_search hn hI hS hH H5 w1 w2 (show m ≤ 4 by omega)
      have gI := IR_Fr hI F1 (by decide)
      have gS := ST_F hn F1 rfl hS
      obtain ⟨j, e2, F2, M2⟩ := R_makeStrings hn gI gS (H := H) (by rw [Fr_st hn F1 rfl (n + 1) (by omega) (by omega)]; exact hH) H5
      have eY : yV n H g = yV n H h := funext fun p => apV_F hn F1 rfl _ _
      rw [eY] at M2
      have F : Fr [80, 81, 82, 147, 148, 149] [(79, 1), (79, 2), (123, 43)] h j := Fr_sub (Fr_tr F1 F2) rfl rfl
      obtain ⟨yy, bb, L2, e3⟩ := mleast_loop (n := n) (m := m) (W := W) (c := c) M2 (fun p _ => apV_rng _ _ _ _) (by omega) ((F 123 40 rfl).trans w3) w5 (fun i hi => by
        obtain ⟨a, b, q1, q2, q3, q4⟩ := w6 i hi
        exact ⟨a, b, q1, by omega, (F 145 i rfl).trans q3, (F 146 i rfl).trans q4⟩) (fun p hp => by
        rw [w7 p hp]
        constructor
        · rintro ⟨i, a, b, q1, q2, q3, q4⟩
          exact ⟨i, a, b, q1, (F 145 i rfl).trans q2, (F 146 i rfl).trans q3, q4⟩
        · rintro ⟨i, a, b, q1, q2, q3, q4⟩
          exact ⟨i, a, b, q1, (F 145 i rfl).symm.trans q2, (F 146 i rfl).symm.trans q3, q4⟩) y (2 ^ nP H) 0 (Nat.zero_add _) (-1) (-1) 0 (9, 0) (Or.inl ⟨rfl, rfl, fun T hT => absurd hT (by omega)⟩) (fun z => absurd rfl z)
      obtain ⟨u1, u2⟩ := LSt_u L2 L1
      refine ⟨if y = 0 then yy else bb, g, j, ?_, ?_, ⟨n, SP_F F rfl ⟨hn, h8, h9⟩, IR_Fr hI F (by decide), TP_F F rfl hT, FK_F F rfl hK, ST_F hn F rfl hS, LI_F hn F rfl hL, RW_F F rfl hR, CR_F F rfl hC, KS_F F rfl hKs, WI_F hn F rfl hW, BK_F hn F rfl hB⟩⟩
      · rw [eq_Tin_least_0]
        simp only [px_rd_mk, px_wr_mk, Int.reduceToNat, Int.toNat_natCast, if_true, if_false, Option.bind_some, px_up_cell, px_up_slot, px_up_eq, ne_eq, Nat.reduceEqDiff, not_false_eq_true, Int.reduceEq, Int.reduceLT, Int.reduceLE, Int.reduceNeg, decide_true, decide_false, Bool.and_true, Bool.true_and, Bool.and_false, Bool.false_and, and_self, and_true, true_and, and_false, false_and, bi_T, bi_F, not_true_eq_false, Bool.false_eq_true, kg_1, kg_79, R_Tin_within, bi_t hx, bi_t hy, ir_1_0 hI, ir_1_1 hI, ir_1_2 hI, ir_1_3 hI, ir_1_4 hI, ir_1_5 hI, ir_1_6 hI, ir_1_7 hI, ir_1_0 gI, ir_1_1 gI, ir_1_2 gI, ir_1_3 gI, ir_1_4 gI, ir_1_5 gI, ir_1_6 gI, ir_1_7 gI, h8, e1]
        rw [u1, u2]
        split <;> rfl
      · rw [eq_Mod_least_0]
        simp only [px_rd_mk, px_wr_mk, Int.reduceToNat, Int.toNat_natCast, if_true, if_false, Option.bind_some, px_up_cell, px_up_slot, px_up_eq, ne_eq, Nat.reduceEqDiff, not_false_eq_true, Int.reduceEq, Int.reduceLT, Int.reduceLE, Int.reduceNeg, decide_true, decide_false, Bool.and_true, Bool.true_and, Bool.and_false, Bool.false_and, and_self, and_true, true_and, and_false, false_and, bi_T, bi_F, not_true_eq_false, Bool.false_eq_true, kg_123, R_Mod_in, bi_t hx, bi_t hy, e2]
        exact e3
    · refine AL_same C (-2) ?_ ?_
      · rw [eq_Tin_least_0]
        simp only [px_rd_mk, px_wr_mk, Int.reduceToNat, Int.toNat_natCast, if_true, if_false, Option.bind_some, px_up_cell, px_up_slot, px_up_eq, ne_eq, Nat.reduceEqDiff, not_false_eq_true, Int.reduceEq, Int.reduceLT, Int.reduceLE, Int.reduceNeg, decide_true, decide_false, Bool.and_true, Bool.true_and, Bool.and_false, Bool.false_and, and_self, and_true, true_and, and_false, false_and, bi_T, bi_F, not_true_eq_false, Bool.false_eq_true, kg_1, R_Tin_within, bi_t hx, bi_f hy]
      · rw [eq_Mod_least_0]
        simp only [px_rd_mk, px_wr_mk, Int.reduceToNat, Int.toNat_natCast, if_true, if_false, Option.bind_some, px_up_cell, px_up_slot, px_up_eq, ne_eq, Nat.reduceEqDiff, not_false_eq_true, Int.reduceEq, Int.reduceLT, Int.reduceLE, Int.reduceNeg, decide_true, decide_false, Bool.and_true, Bool.true_and, Bool.and_false, Bool.false_and, and_self, and_true, true_and, and_false, false_and, bi_T, bi_F, not_true_eq_false, Bool.false_eq_true, kg_123, R_Mod_in, bi_t hx, bi_f hy]
  · refine AL_same C (-2) ?_ ?_
    · rw [eq_Tin_least_0]
      simp only [px_rd_mk, px_wr_mk, Int.reduceToNat, Int.toNat_natCast, if_true, if_false, Option.bind_some, px_up_cell, px_up_slot, px_up_eq, ne_eq, Nat.reduceEqDiff, not_false_eq_true, Int.reduceEq, Int.reduceLT, Int.reduceLE, Int.reduceNeg, decide_true, decide_false, Bool.and_true, Bool.true_and, Bool.and_false, Bool.false_and, and_self, and_true, true_and, and_false, false_and, bi_T, bi_F, not_true_eq_false, Bool.false_eq_true, kg_1, R_Tin_within, bi_f hx]
    · rw [eq_Mod_least_0]
      simp only [px_rd_mk, px_wr_mk, Int.reduceToNat, Int.toNat_natCast, if_true, if_false, Option.bind_some, px_up_cell, px_up_slot, px_up_eq, ne_eq, Nat.reduceEqDiff, not_false_eq_true, Int.reduceEq, Int.reduceLT, Int.reduceLE, Int.reduceNeg, decide_true, decide_false, Bool.and_true, Bool.true_and, Bool.and_false, Bool.false_and, and_self, and_true, true_and, and_false, false_and, bi_T, bi_F, not_true_eq_false, Bool.false_eq_true, kg_123, R_Mod_in, bi_f hx]
