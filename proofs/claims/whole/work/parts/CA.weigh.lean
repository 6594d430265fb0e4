/-! What is known of the lines told, weighed on both sides. -/
def BF (b : Nat → Nat → Int) (W Lc M : Nat) : Prop := Lc ≤ 20 ∧ M ≤ 20 ∧ (∀ i : Nat, i < Lc → (0 ≤ b 1 i ∧ b 1 i < (W : Int)) ∧ (0 ≤ b 2 i ∧ b 2 i < (W : Int))) ∧ ∀ i : Nat, i < M → 0 ≤ b 5 i ∧ b 5 i < (W : Int)
def BC (b : Nat → Nat → Int) (Lc M : Nat) (h : hp) : Prop := h 83 1 = (Lc : Int) ∧ h 83 2 = (M : Int) ∧ ∀ q : Nat, q < 6 → ∀ i, h (84 + q) i = b q i
def BM (b : Nat → Nat → Int) (Lc M : Nat) (h : hp) : Prop := h 123 51 = (Lc : Int) ∧ h 123 52 = (M : Int) ∧ ∀ q : Nat, q < 6 → ∀ i, h (151 + q) i = b q i
theorem BC_F {b : Nat → Nat → Int} {Lc M : Nat} {h g : hp} {cs : List Nat} {ss : List (Nat × Nat)} (H : BC b Lc M h) (F : Fr cs ss h g) (e : (frf 84 90 cs ss && fdj cs ss [] [(83, 1), (83, 2)]) = true) : BC b Lc M g := by
  rw [Bool.and_eq_true] at e
  have c := Fr_dj F e.2
  exact ⟨(c 83 1 rfl).trans H.1, (c 83 2 rfl).trans H.2.1, fun q hq i => (Fr_rg F 84 90 e.1 (by omega) (by omega) i).trans (H.2.2 q hq i)⟩
theorem BM_F {b : Nat → Nat → Int} {Lc M : Nat} {h g : hp} {cs : List Nat} {ss : List (Nat × Nat)} (H : BM b Lc M h) (F : Fr cs ss h g) (e : (frf 151 157 cs ss && fdj cs ss [] [(123, 51), (123, 52)]) = true) : BM b Lc M g := by
  rw [Bool.and_eq_true] at e
  have c := Fr_dj F e.2
  exact ⟨(c 123 51 rfl).trans H.1, (c 123 52 rfl).trans H.2.1, fun q hq i => (Fr_rg F 151 157 e.1 (by omega) (by omega) i).trans (H.2.2 q hq i)⟩
/-- what line k is written as, as known at a step, behind i mendings -/
def wkF (b : Nat → Nat → Int) (known : Int) (k : Nat) : Nat → Int
  | 0 => b 2 k
  | i + 1 => if b 4 i = (k : Int) then (if known < b 3 i then wkF b known k i else b 5 i) else wkF b known k i
theorem wkF_rng {b : Nat → Nat → Int} {W Lc M : Nat} (H : BF b W Lc M) (known : Int) {k : Nat} (hk : k < Lc) : ∀ i : Nat, i ≤ M → 0 ≤ wkF b known k i ∧ wkF b known k i < (W : Int)
  | 0, _ => (H.2.2.1 k hk).2
  | i + 1, hi => by
    have r := wkF_rng H known hk i (by omega)
    have q := H.2.2.2 i (by omega)
    unfold wkF
    split
    · split
      · exact r
      · exact q
    · exact r
theorem R_wkC {b : Nat → Nat → Int} {Lc M : Nat} {h : hp} (hI : IR h) (H : BC b Lc M h) (M20 : M ≤ 20) (known : Int) {k : Nat} (hk : k < 20) : px_R (mm_Book_writtenAsKnown, 0, [(2, 83), (0, (k : Int)), (0, known), (9, 0), (9, 0)], [], (K0, h)) = some (wkF b known k M, (K0, h)) := by
  have lp : ∀ r i : Nat, i + r = M → px_R (mm_Book_writtenAsKnown, 10, [(2, 83), (0, (k : Int)), (0, known), (0, wkF b known k i), (0, (i : Int))], [], (K0, h)) = some (wkF b known k M, (K0, h)) := by
    intro r
    induction r with
    | zero =>
      intro i hi
      have : i = M := hi
      subst this
      have hlt : ((i : Int) < (i : Int)) = False := eq_false (Int.lt_irrefl _)
      rw [eq_Book_writtenAsKnown_10]
      simp only [px_rd_mk, px_wr_mk, Int.reduceToNat, Int.toNat_natCast, if_true, if_false, Option.bind_some, px_up_cell, px_up_slot, px_up_eq, ne_eq, Nat.reduceEqDiff, not_false_eq_true, Int.reduceEq, Int.reduceLT, Int.reduceLE, Int.reduceNeg, decide_true, decide_false, Bool.and_true, Bool.true_and, Bool.and_false, Bool.false_and, and_self, and_true, true_and, and_false, false_and, bi_T, bi_F, not_true_eq_false, Bool.false_eq_true, kg_83, H.2.1, hlt]
    | succ r ih =>
      intro i hi
      have hlt : ((i : Int) < (M : Int)) = True := eq_true (by omega)
      have gi : (decide ((0 : Int) ≤ (i : Int)) && decide ((i : Int) < 20)) = true := gd_ok (by omega)
      have f3 : h 87 i = b 3 i := H.2.2 3 (by decide) i
      have f4 : h 88 i = b 4 i := H.2.2 4 (by decide) i
      have f5 : h 89 i = b 5 i := H.2.2 5 (by decide) i
      have w1 := px_w_s (show i < 1000000 by omega)
      have i1 := ih (i + 1) (by omega)
      rw [wkF] at i1
      rw [eq_Book_writtenAsKnown_10]
      by_cases c : b 4 i = (k : Int)
      · have c1 := eq_true c
        rw [if_pos c] at i1
        by_cases d : known < b 3 i
        · have d1 := eq_true d
          rw [if_pos d] at i1
          simp only [px_rd_mk, px_wr_mk, Int.reduceToNat, Int.toNat_natCast, if_true, if_false, Option.bind_some, px_up_cell, px_up_slot, px_up_eq, ne_eq, Nat.reduceEqDiff, not_false_eq_true, Int.reduceEq, Int.reduceLT, Int.reduceLE, Int.reduceNeg, decide_true, decide_false, Bool.and_true, Bool.true_and, Bool.and_false, Bool.false_and, and_self, and_true, true_and, and_false, false_and, bi_T, bi_F, not_true_eq_false, Bool.false_eq_true, kg_83, ka_87, ka_88, ka_89, H.2.1, hlt, ir_83_3 hI, ir_83_4 hI, ir_83_5 hI, ir_83_6 hI, ir_83_7 hI, ir_83_8 hI, ir_83_12 hI, ir_83_13 hI, ir_83_14 hI, gi, f3, f4, f5, c1, d1, w1]
          exact i1
        · have d1 := eq_false d
          rw [if_neg d] at i1
          simp only [px_rd_mk, px_wr_mk, Int.reduceToNat, Int.toNat_natCast, if_true, if_false, Option.bind_some, px_up_cell, px_up_slot, px_up_eq, ne_eq, Nat.reduceEqDiff, not_false_eq_true, Int.reduceEq, Int.reduceLT, Int.reduceLE, Int.reduceNeg, decide_true, decide_false, Bool.and_true, Bool.true_and, Bool.and_false, Bool.false_and, and_self, and_true, true_and, and_false, false_and, bi_T, bi_F, not_true_eq_false, Bool.false_eq_true, kg_83, ka_87, ka_88, ka_89, H.2.1, hlt, ir_83_3 hI, ir_83_4 hI, ir_83_5 hI, ir_83_6 hI, ir_83_7 hI, ir_83_8 hI, ir_83_12 hI, ir_83_13 hI, ir_83_14 hI, gi, f3, f4, f5, c1, d1, w1]
          exact i1
      · have c1 := eq_false c
        rw [if_neg c] at i1
        simp only [px_rd_mk, px_wr_mk, Int.reduceToNat, Int.toNat_natCast, if_true, if_false, Option.bind_some, px_up_cell, px_up_slot, px_up_eq, ne_eq, Nat.reduceEqDiff, not_false_eq_true, Int.reduceEq, Int.reduceLT, Int.reduceLE, Int.reduceNeg, decide_true, decide_false, Bool.and_true, Bool.true_and, Bool.and_false, Bool.false_and, and_self, and_true, true_and, and_false, false_and, bi_T, bi_F, not_true_eq_false, Bool.false_eq_true, kg_83, ka_87, ka_88, ka_89, H.2.1, hlt, ir_83_3 hI, ir_83_4 hI, ir_83_5 hI, ir_83_6 hI, ir_83_7 hI, ir_83_8 hI, ir_83_12 hI, ir_83_13 hI, ir_83_14 hI, gi, f3, f4, f5, c1, w1]
        exact i1
  have gk : (decide ((0 : Int) ≤ (k : Int)) && decide ((k : Int) < 20)) = true := gd_ok (by omega)
  have f2 : h 86 k = b 2 k := H.2.2 2 (by decide) k
  have l := lp M 0 (Nat.zero_add M)
  have l : px_R (mm_Book_writtenAsKnown, 10, [(2, 83), (0, (k : Int)), (0, known), (0, b 2 k), (0, 0)], [], (K0, h)) = some (wkF b known k M, (K0, h)) := l
  rw [eq_Book_writtenAsKnown_0]
  simp only [px_rd_mk, px_wr_mk, Int.reduceToNat, Int.toNat_natCast, if_true, if_false, Option.bind_some, px_up_cell, px_up_slot, px_up_eq, ne_eq, Nat.reduceEqDiff, not_false_eq_true, Int.reduceEq, Int.reduceLT, Int.reduceLE, Int.reduceNeg, decide_true, decide_false, Bool.and_true, Bool.true_and, Bool.and_false, Bool.false_and, and_self, and_true, true_and, and_false, false_and, bi_T, bi_F, not_true_eq_false, Bool.false_eq_true, kg_83, ka_86, ir_83_3 hI, ir_83_4 hI, ir_83_5 hI, ir_83_6 hI, ir_83_7 hI, ir_83_8 hI, ir_83_12 hI, ir_83_13 hI, ir_83_14 hI, gk, f2]
  exact l
theorem R_wkM {b : Nat → Nat → Int} {Lc M : Nat} {h : hp} (hI : IR h) (H : BM b Lc M h) (M20 : M ≤ 20) (known : Int) {k : Nat} (hk : k < 20) : px_R (mm_Mod_wroteAt, 0, [(2, 123), (0, (k : Int)), (0, known), (9, 0), (9, 0)], [], (K0, h)) = some (wkF b known k M, (K0, h)) := by
  have lp : ∀ r i : Nat, i + r = M → px_R (mm_Mod_wroteAt, 10, [(2, 123), (0, (k : Int)), (0, known), (0, wkF b known k i), (0, (i : Int))], [], (K0, h)) = some (wkF b known k M, (K0, h)) := by
    intro r
    induction r with
    | zero =>
      intro i hi
      have : i = M := hi
      subst this
      have hlt : ((i : Int) < (i : Int)) = False := eq_false (Int.lt_irrefl _)
      rw [eq_Mod_wroteAt_10]
      simp only [px_rd_mk, px_wr_mk, Int.reduceToNat, Int.toNat_natCast, if_true, if_false, Option.bind_some, px_up_cell, px_up_slot, px_up_eq, ne_eq, Nat.reduceEqDiff, not_false_eq_true, Int.reduceEq, Int.reduceLT, Int.reduceLE, Int.reduceNeg, decide_true, decide_false, Bool.and_true, Bool.true_and, Bool.and_false, Bool.false_and, and_self, and_true, true_and, and_false, false_and, bi_T, bi_F, not_true_eq_false, Bool.false_eq_true, kg_123, H.2.1, hlt]
    | succ r ih =>
      intro i hi
      have hlt : ((i : Int) < (M : Int)) = True := eq_true (by omega)
      have gi : (decide ((0 : Int) ≤ (i : Int)) && decide ((i : Int) < 20)) = true := gd_ok (by omega)
      have f3 : h 154 i = b 3 i := H.2.2 3 (by decide) i
      have f4 : h 155 i = b 4 i := H.2.2 4 (by decide) i
      have f5 : h 156 i = b 5 i := H.2.2 5 (by decide) i
      have w1 := px_w_s (show i < 1000000 by omega)
      have i1 := ih (i + 1) (by omega)
      rw [wkF] at i1
      rw [eq_Mod_wroteAt_10]
      by_cases c : b 4 i = (k : Int)
      · have c1 := eq_true c
        rw [if_pos c] at i1
        by_cases d : known < b 3 i
        · have d1 := eq_true d
          rw [if_pos d] at i1
          simp only [px_rd_mk, px_wr_mk, Int.reduceToNat, Int.toNat_natCast, if_true, if_false, Option.bind_some, px_up_cell, px_up_slot, px_up_eq, ne_eq, Nat.reduceEqDiff, not_false_eq_true, Int.reduceEq, Int.reduceLT, Int.reduceLE, Int.reduceNeg, decide_true, decide_false, Bool.and_true, Bool.true_and, Bool.and_false, Bool.false_and, and_self, and_true, true_and, and_false, false_and, bi_T, bi_F, not_true_eq_false, Bool.false_eq_true, kg_123, ka_154, ka_155, ka_156, H.2.1, hlt, ir_123_0 hI, ir_123_12 hI, ir_123_13 hI, ir_123_14 hI, ir_123_15 hI, ir_123_16 hI, ir_123_17 hI, ir_123_18 hI, ir_123_19 hI, ir_123_20 hI, ir_123_21 hI, ir_123_30 hI, ir_123_31 hI, ir_123_32 hI, ir_123_33 hI, ir_123_34 hI, ir_123_35 hI, ir_123_36 hI, ir_123_37 hI, ir_123_38 hI, ir_123_39 hI, ir_123_41 hI, ir_123_42 hI, ir_123_44 hI, ir_123_45 hI, ir_123_46 hI, ir_123_50 hI, ir_123_54 hI, ir_123_55 hI, ir_123_56 hI, ir_123_57 hI, ir_123_58 hI, ir_123_59 hI, ir_123_60 hI, ir_123_61 hI, ir_123_62 hI, gi, f3, f4, f5, c1, d1, w1]
          exact i1
        · have d1 := eq_false d
          rw [if_neg d] at i1
          simp only [px_rd_mk, px_wr_mk, Int.reduceToNat, Int.toNat_natCast, if_true, if_false, Option.bind_some, px_up_cell, px_up_slot, px_up_eq, ne_eq, Nat.reduceEqDiff, not_false_eq_true, Int.reduceEq, Int.reduceLT, Int.reduceLE, Int.reduceNeg, decide_true, decide_false, Bool.and_true, Bool.true_and, Bool.and_false, Bool.false_and, and_self, and_true, true_and, and_false, false_and, bi_T, bi_F, not_true_eq_false, Bool.false_eq_true, kg_123, ka_154, ka_155, ka_156, H.2.1, hlt, ir_123_0 hI, ir_123_12 hI, ir_123_13 hI, ir_123_14 hI, ir_123_15 hI, ir_123_16 hI, ir_123_17 hI, ir_123_18 hI, ir_123_19 hI, ir_123_20 hI, ir_123_21 hI, ir_123_30 hI, ir_123_31 hI, ir_123_32 hI, ir_123_33 hI, ir_123_34 hI, ir_123_35 hI, ir_123_36 hI, ir_123_37 hI, ir_123_38 hI, ir_123_39 hI, ir_123_41 hI, ir_123_42 hI, ir_123_44 hI, ir_123_45 hI, ir_123_46 hI, ir_123_50 hI, ir_123_54 hI, ir_123_55 hI, ir_123_56 hI, ir_123_57 hI, ir_123_58 hI, ir_123_59 hI, ir_123_60 hI, ir_123_61 hI, ir_123_62 hI, gi, f3, f4, f5, c1, d1, w1]
          exact i1
      · have c1 := eq_false c
        rw [if_neg c] at i1
        simp only [px_rd_mk, px_wr_mk, Int.reduceToNat, Int.toNat_natCast, if_true, if_false, Option.bind_some, px_up_cell, px_up_slot, px_up_eq, ne_eq, Nat.reduceEqDiff, not_false_eq_true, Int.reduceEq, Int.reduceLT, Int.reduceLE, Int.reduceNeg, decide_true, decide_false, Bool.and_true, Bool.true_and, Bool.and_false, Bool.false_and, and_self, and_true, true_and, and_false, false_and, bi_T, bi_F, not_true_eq_false, Bool.false_eq_true, kg_123, ka_154, ka_155, ka_156, H.2.1, hlt, ir_123_0 hI, ir_123_12 hI, ir_123_13 hI, ir_123_14 hI, ir_123_15 hI, ir_123_16 hI, ir_123_17 hI, ir_123_18 hI, ir_123_19 hI, ir_123_20 hI, ir_123_21 hI, ir_123_30 hI, ir_123_31 hI, ir_123_32 hI, ir_123_33 hI, ir_123_34 hI, ir_123_35 hI, ir_123_36 hI, ir_123_37 hI, ir_123_38 hI, ir_123_39 hI, ir_123_41 hI, ir_123_42 hI, ir_123_44 hI, ir_123_45 hI, ir_123_46 hI, ir_123_50 hI, ir_123_54 hI, ir_123_55 hI, ir_123_56 hI, ir_123_57 hI, ir_123_58 hI, ir_123_59 hI, ir_123_60 hI, ir_123_61 hI, ir_123_62 hI, gi, f3, f4, f5, c1, w1]
        exact i1
  have gk : (decide ((0 : Int) ≤ (k : Int)) && decide ((k : Int) < 20)) = true := gd_ok (by omega)
  have f2 : h 153 k = b 2 k := H.2.2 2 (by decide) k
  have l := lp M 0 (Nat.zero_add M)
  have l : px_R (mm_Mod_wroteAt, 10, [(2, 123), (0, (k : Int)), (0, known), (0, b 2 k), (0, 0)], [], (K0, h)) = some (wkF b known k M, (K0, h)) := l
  rw [eq_Mod_wroteAt_0]
  simp only [px_rd_mk, px_wr_mk, Int.reduceToNat, Int.toNat_natCast, if_true, if_false, Option.bind_some, px_up_cell, px_up_slot, px_up_eq, ne_eq, Nat.reduceEqDiff, not_false_eq_true, Int.reduceEq, Int.reduceLT, Int.reduceLE, Int.reduceNeg, decide_true, decide_false, Bool.and_true, Bool.true_and, Bool.and_false, Bool.false_and, and_self, and_true, true_and, and_false, false_and, bi_T, bi_F, not_true_eq_false, Bool.false_eq_true, kg_123, ka_153, ir_123_0 hI, ir_123_12 hI, ir_123_13 hI, ir_123_14 hI, ir_123_15 hI, ir_123_16 hI, ir_123_17 hI, ir_123_18 hI, ir_123_19 hI, ir_123_20 hI, ir_123_21 hI, ir_123_30 hI, ir_123_31 hI, ir_123_32 hI, ir_123_33 hI, ir_123_34 hI, ir_123_35 hI, ir_123_36 hI, ir_123_37 hI, ir_123_38 hI, ir_123_39 hI, ir_123_41 hI, ir_123_42 hI, ir_123_44 hI, ir_123_45 hI, ir_123_46 hI, ir_123_50 hI, ir_123_54 hI, ir_123_55 hI, ir_123_56 hI, ir_123_57 hI, ir_123_58 hI, ir_123_59 hI, ir_123_60 hI, ir_123_61 hI, ir_123_62 hI, gk, f2]
  exact l
/-- how many ways line k has -/
def wyV (W N : Nat) (L : Nat → Nat → Int) (b : Nat → Nat → Int) (known : Int) (M k : Nat) : Nat := (tkS W N L (2 ^ W - 1) (b 1 k).toNat (wkF b known k M).toNat).toNat
/-- the product of the ways of the first k lines, if none is without -/
def wgF (b : Nat → Nat → Int) (known : Int) (w : Nat → Nat) : Nat → Option Nat
  | 0 => some 1
  | k + 1 => match wgF b known w k with
    | none => none
    | some P => if known < b 0 k then some P else if w k = 0 then none else some (P * w k)
theorem wgF_none {b : Nat → Nat → Int} {known : Int} {w : Nat → Nat} {k : Nat} (h : wgF b known w k = none) (r : Nat) : wgF b known w (k + r) = none := by
  induction r with
  | zero => exact h
  | succ r ih =>
    show wgF b known w (k + r + 1) = none
    rw [wgF, ih]
theorem wgF_s {b : Nat → Nat → Int} {known : Int} {w : Nat → Nat} {k P : Nat} (h : wgF b known w k = some P) : wgF b known w (k + 1) = if known < b 0 k then some P else if w k = 0 then none else some (P * w k) := by
  rw [wgF, h]
theorem wgF_le {b : Nat → Nat → Int} {known : Int} {w : Nat → Nat} (hw : ∀ k, w k ≤ 65536) : ∀ (k P : Nat), wgF b known w k = some P → P ≤ 65536 ^ k
  | 0, P, h => by
    have := Option.some.inj h
    omega
  | k + 1, P, h => by
    rw [wgF] at h
    cases e : wgF b known w k with
    | none => rw [e] at h; cases h
    | some Q =>
      rw [e] at h
      simp only at h
      have q := wgF_le hw k Q e
      have w1 := hw k
      have m := Nat.mul_le_mul q w1
      rw [← Nat.pow_succ] at m
      have p1 : 65536 ^ k ≤ 65536 ^ (k + 1) := Nat.pow_le_pow_right (by decide) (by omega)
      split at h
      · have := Option.some.inj h
        omega
      · split at h
        · cases h
        · have := Option.some.inj h
          omega
theorem wyV_le {W N : Nat} (hN : N ≤ 3) (L : Nat → Nat → Int) (b : Nat → Nat → Int) (known : Int) (M k : Nat) : wyV W N L b known M k ≤ 65536 := by
  have := tkS_rng hN L (2 ^ W - 1) (b 1 k).toNat (wkF b known k M).toNat (W := W)
  unfold wyV
  omega
def bo : Option Nat → Int
  | none => 0
  | some _ => 1
theorem fx_hd : ∀ S : Fin 64, ∀ w : Fin 6, px_and (px_shr (S.val : Int) (w.val : Int)) 1 = (if inS S.val w.val = true then 1 else 0) ∧ px_or (S.val : Int) (px_shl 1 (w.val : Int)) = ((S.val ||| 2 ^ w.val : Nat) : Int) ∧ S.val ||| 2 ^ w.val < 64 ∧ ∀ v : Fin 6, inS (S.val ||| 2 ^ w.val) v.val = true → v.val = w.val ∨ inS S.val v.val = true := by decide +kernel
theorem ir90 {h : hp} (hI : IR h) {k : Nat} (hk : k < 6) : h 90 k = ((91 + k : Nat) : Int) := by
  have q : k = 0 ∨ k = 1 ∨ k = 2 ∨ k = 3 ∨ k = 4 ∨ k = 5 := by omega
  rcases q with rfl | rfl | rfl | rfl | rfl | rfl
  · exact ir_90_0 hI
  · exact ir_90_1 hI
  · exact ir_90_2 hI
  · exact ir_90_3 hI
  · exact ir_90_4 hI
  · exact ir_90_5 hI
def wcs : List Nat := hcs ++ dcs ++ [98]
theorem EC_W {W N : Nat} {L : Nat → Nat → Int} {h g : hp} (E : EC W N L h) (F : Fr wcs [(51, 5)] h g) : EC W N L g := EC_F E F (by decide) rfl
theorem weigh78 {W N : Nat} {L : Nat → Nat → Int} {b : Nat → Nat → Int} {Lc M : Nat} {known : Int} (hF : BF b W Lc M) {k wd : Nat} (hk : k < Lc) (hwd : b 1 k = (wd : Int)) {g : hp} (E : EC W N L g) (H : BC b Lc M g) {P : Nat} (hP : PD (g 98) B32 11 P) (row : ∀ a, a < 6 → g (91 + wd) a = tkS W N L (2 ^ W - 1) wd a) (x3 : Int) (y6 : pv) : (wyV W N L b known M k = 0 ∧ px_R (mm_Book_weigh, 78, [(2, 83), (2, 51), (0, known), (0, x3), (0, (k : Int)), (0, (wd : Int)), y6], [], (K0, g)) = some (0, (K0, g))) ∨ (¬ wyV W N L b known M k = 0 ∧ ∃ (g2 : hp) (z6 : pv), px_R (mm_Book_weigh, 78, [(2, 83), (2, 51), (0, known), (0, x3), (0, (k : Int)), (0, (wd : Int)), y6], [], (K0, g)) = px_R (mm_Book_weigh, 12, [(2, 83), (2, 51), (0, known), (0, x3), (0, ((k + 1 : Nat) : Int)), (0, (wd : Int)), z6], [], (K0, g2)) ∧ Fr [98] [] g g2 ∧ PD (g2 98) B32 11 (P * wyV W N L b known M k)) := by
  obtain ⟨W6, N3, I, _⟩ := E
  have L20 := hF.1
  have M20 := hF.2.1
  have b1 := (hF.2.2.1 k hk).1
  have wr := wkF_rng hF known hk M (Nat.le_refl _)
  obtain ⟨a, ha⟩ := Int.eq_ofNat_of_zero_le wr.1
  have a6 : a < 6 := by omega
  have w6 : wd < 6 := by omega
  have ra := row a a6
  have tr := tkS_rng N3 L (2 ^ W - 1) wd a (W := W)
  have yv : wyV W N L b known M k = (tkS W N L (2 ^ W - 1) wd a).toNat := by
    unfold wyV
    rw [hwd, ha]
    rfl
  have ye : tkS W N L (2 ^ W - 1) wd a = (wyV W N L b known M k : Int) := by
    rw [yv]
    omega
  have yl : wyV W N L b known M k ≤ 65536 := by omega
  rw [ye] at ra
  have wk := R_wkC I H M20 known (show k < 20 by omega)
  rw [ha] at wk
  have wk : px_R (mm_Book_writtenAsKnown, 0, [(2, 83), (0, (k : Int)), (0, known), (9, 0), (9, 0)], [], (K0, g)) = some ((a : Int), (K0, g)) := wk
  have i90 := ir90 I w6
  have gw : (decide ((0 : Int) ≤ (wd : Int)) && decide ((wd : Int) < 6)) = true := gd_ok (by omega)
  have ga : px_ga (K0, g) 0 ((91 + wd : Nat) : Int) (a : Int) = true := by
    rw [kaD (Or.inr ⟨by omega, by omega⟩)]
    exact gd_ok (by omega)
  have w1 := px_w_s (show k < 1000000 by omega)
  by_cases c : wyV W N L b known M k = 0
  · have c1 : ((wyV W N L b known M k : Int) = 0) = True := eq_true (by rw [c]; rfl)
    refine Or.inl ⟨c, ?_⟩
    rw [eq_Book_weigh_78]
    simp only [px_rd_mk, px_wr_mk, Int.reduceToNat, Int.toNat_natCast, if_true, if_false, Option.bind_some, px_up_cell, px_up_slot, px_up_eq, ne_eq, Nat.reduceEqDiff, not_false_eq_true, Int.reduceEq, Int.reduceLT, Int.reduceLE, Int.reduceNeg, decide_true, decide_false, Bool.and_true, Bool.true_and, Bool.and_false, Bool.false_and, and_self, and_true, true_and, and_false, false_and, bi_T, bi_F, not_true_eq_false, Bool.false_eq_true, kg_83, ka_90, kg_97, ir_83_3 I, ir_83_4 I, ir_83_5 I, ir_83_6 I, ir_83_7 I, ir_83_8 I, ir_83_12 I, ir_83_13 I, ir_83_14 I, wk, i90, gw, ga, Bool.true_or, ra, c1]
  · have c1 : ((wyV W N L b known M k : Int) = 0) = False := eq_false (fun z => c (Int.ofNat.inj z))
    obtain ⟨g2, r1, r2, r3⟩ := R_timesC I yl hP
    refine Or.inr ⟨c, g2, (0, (wyV W N L b known M k : Int)), ?_, r2, r3⟩
    rw [eq_Book_weigh_78]
    simp only [px_rd_mk, px_wr_mk, Int.reduceToNat, Int.toNat_natCast, if_true, if_false, Option.bind_some, px_up_cell, px_up_slot, px_up_eq, ne_eq, Nat.reduceEqDiff, not_false_eq_true, Int.reduceEq, Int.reduceLT, Int.reduceLE, Int.reduceNeg, decide_true, decide_false, Bool.and_true, Bool.true_and, Bool.and_false, Bool.false_and, and_self, and_true, true_and, and_false, false_and, bi_T, bi_F, not_true_eq_false, Bool.false_eq_true, kg_83, ka_90, kg_97, ir_83_3 I, ir_83_4 I, ir_83_5 I, ir_83_6 I, ir_83_7 I, ir_83_8 I, ir_83_12 I, ir_83_13 I, ir_83_14 I, wk, i90, gw, ga, Bool.true_or, ra, c1, r1, w1]
