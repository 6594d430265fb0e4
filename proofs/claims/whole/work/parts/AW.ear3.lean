/-! The class's ear: what is heard, how far off, the nearest; what is spread. -/
def TC (W N : Nat) (L : Nat → Nat → Int) (m : Nat) (t : Nat → Nat) (h : hp) : Prop := EC W N L h ∧ h 51 5 = (m : Int) ∧ (1 ≤ m ∧ m ≤ 6) ∧ ∀ j, j < m → h 67 j = (t j : Int) ∧ t j < W
theorem TC_F {W N : Nat} {L : Nat → Nat → Int} {m : Nat} {t : Nat → Nat} {h g : hp} {cs : List Nat} {ss : List (Nat × Nat)} (H : TC W N L m t h) (F : Fr cs ss h g) (e1 : (rl.all fun q => !(fin cs ss q.1 q.2.1)) = true) (e2 : (frf 53 59 cs ss && fdj cs ss [] [(51, 0), (51, 1)]) = true) (e3 : fdj cs ss [67] [(51, 5)] = true) : TC W N L m t g := by
  have c := Fr_dj F e3
  exact ⟨EC_F H.1 F e1 e2, (c 51 5 rfl).trans H.2.1, H.2.2.1, fun j hj => by rw [c 67 j rfl]; exact H.2.2.2 j hj⟩
theorem clp_mm (x : Int) : px_mx 0 (px_mn 9 x) = clp 0 9 x := by
  unfold px_mx px_mn clp
  (repeat' split) <;> omega
theorem R_heardWith {W N : Nat} {L : Nat → Nat → Int} {h : hp} (E : EC W N L h) {a b : Nat} (ha : a < W) (hb : b < 4) {v : Int} (hv : -3 ≤ v ∧ v ≤ 3) : px_R (mm_Ear_heardWith, 0, [(2, 51), (0, (a : Int)), (0, (b : Int)), (0, v)], [], (K0, h)) = some (clp 0 9 (L a b + v), (K0, h)) := by
  obtain ⟨hW, hN, hI, e1, e2, e3⟩ := E
  have ga : (decide ((0 : Int) ≤ (a : Int)) && decide ((a : Int) < 6)) = true := gd_ok (by omega)
  have gb : (decide ((0 : Int) ≤ (b : Int)) && decide ((b : Int) < 4)) = true := gd_ok (by omega)
  have l := e3 a b ha hb
  have u : -2147483648 ≤ L a b + v ∧ L a b + v < 2147483648 := by omega
  rw [eq_Ear_heardWith_0]
  simp only [px_rd_mk, px_wr_mk, Int.reduceToNat, Int.toNat_natCast, if_true, if_false, Option.bind_some, px_up_cell, px_up_slot, px_up_eq, ne_eq, Nat.reduceEqDiff, not_false_eq_true, Int.reduceEq, Int.reduceLT, Int.reduceLE, Int.reduceNeg, decide_true, decide_false, Bool.and_true, Bool.true_and, Bool.and_false, Bool.false_and, and_self, and_true, true_and, and_false, false_and, bi_T, bi_F, not_true_eq_false, Bool.false_eq_true, kg_51, ka_52, ir_51_2 hI, ir_51_3 hI, ir_51_4 hI, ir_51_6 hI, ir_51_7 hI, ir_51_8 hI, ir_51_9 hI, ir52 hI (show a < 6 by omega), ka53 h (show a < 6 by omega), ga, gb, l.1, Bool.or_true, Bool.true_or, px_w_n u, clp_mm]
def fO (L : Nat → Nat → Int) (t : Nat → Nat) (b : Nat) (hd : Int) (i : Nat) : Int := (((hd - L (t i) b).natAbs : Int) - ((hd - L (t 0) b).natAbs : Int)) + 9
theorem fO_rng {W N : Nat} {L : Nat → Nat → Int} {m : Nat} {t : Nat → Nat} {h : hp} (H : TC W N L m t h) {b : Nat} (hb : b < 4) {hd : Int} (hh : 0 ≤ hd ∧ hd ≤ 9) {i : Nat} (hi : i < m) : 0 ≤ fO L t b hd i ∧ fO L t b hd i ≤ 18 := by
  have l1 := (H.1.2.2.2.2.2 (t i) b (H.2.2.2 i hi).2 hb).2
  have l0 := (H.1.2.2.2.2.2 (t 0) b (H.2.2.2 0 (by omega)).2 hb).2
  unfold fO
  omega
theorem p_le : ∀ k : Nat, k ≤ 5 → p1024 k ≤ 1125899906842624
  | 0, _ => by decide
  | 1, _ => by decide
  | 2, _ => by decide
  | 3, _ => by decide
  | 4, _ => by decide
  | 5, _ => by decide
  | k + 6, h => absurd h (by omega)
theorem p_le6 : ∀ k : Nat, k ≤ 6 → p1024 k ≤ 1152921504606846976
  | 6, _ => by decide
  | 0, _ => by decide
  | 1, _ => by decide
  | 2, _ => by decide
  | 3, _ => by decide
  | 4, _ => by decide
  | 5, _ => by decide
  | k + 7, h => absurd h (by omega)
theorem offFrom_loop {W N : Nat} {L : Nat → Nat → Int} {m : Nat} {t : Nat → Nat} {h : hp} (H : TC W N L m t h) {b : Nat} (hb : b < 4) {hd : Int} (hh : 0 ≤ hd ∧ hd ≤ 9) : ∀ j : Nat, j ≤ m → ∀ y6 : pv, px_R (mm_Ear_offFrom, 10, [(2, 51), (0, (b : Int)), (0, hd), (1, acc (fO L t b hd) j (m - j)), (9, 0), (0, (j : Int) - 1), y6], [], (K0, h)) = some (acc (fO L t b hd) 0 m, (K0, h)) := by
  obtain ⟨⟨hW, hN, hI, e1, e2, e3⟩, hm, hm6, ht⟩ := H
  have H : TC W N L m t h := ⟨⟨hW, hN, hI, e1, e2, e3⟩, hm, hm6, ht⟩
  intro j
  induction j with
  | zero =>
    intro _ y6
    rw [eq_Ear_offFrom_10, if_pos (by decide)]
    rfl
  | succ j ih =>
    intro hj y6
    have nlt : ¬ (((j + 1 : Nat) : Int) - 1 < 0) := by omega
    have ej : ((j + 1 : Nat) : Int) - 1 = (j : Int) := by omega
    have t1 := ht j (by omega)
    have t0 := ht 0 (by omega)
    have gj : (decide ((0 : Int) ≤ (j : Int)) && decide ((j : Int) < 6)) = true := gd_ok (by omega)
    have gb : (decide ((0 : Int) ≤ (b : Int)) && decide ((b : Int) < 4)) = true := gd_ok (by omega)
    have gt : (decide ((0 : Int) ≤ (t j : Int)) && decide ((t j : Int) < 6)) = true := gd_ok (by omega)
    have gt0 : (decide ((0 : Int) ≤ (t 0 : Int)) && decide ((t 0 : Int) < 6)) = true := gd_ok (by omega)
    have l1 := e3 (t j) b t1.2 hb
    have l0 := e3 (t 0) b t0.2 hb
    have v1 : -2147483648 ≤ hd - L (t j) b ∧ hd - L (t j) b < 2147483648 := by omega
    have v0 : -2147483648 ≤ hd - L (t 0) b ∧ hd - L (t 0) b < 2147483648 := by omega
    have ab1 := px_ab_nat (a := hd - L (t j) b) (by omega) (by omega)
    have ab0 := px_ab_nat (a := hd - L (t 0) b) (by omega) (by omega)
    have ar := acc_rng (f := fO L t b hd) (c := 18) (by decide) (m - (j + 1)) (j + 1) fun i h1 h2 => fO_rng H hb hh (by omega)
    have pl := p_le (m - (j + 1)) (by omega)
    have fr := fO_rng H hb hh (i := j) (by omega)
    have sh := lshl10 (a := acc (fO L t b hd) (j + 1) (m - (j + 1))) ar.1 (by omega)
    have v2 : -2147483648 ≤ ((hd - L (t j) b).natAbs : Int) - ((hd - L (t 0) b).natAbs : Int) ∧ ((hd - L (t j) b).natAbs : Int) - ((hd - L (t 0) b).natAbs : Int) < 2147483648 := by omega
    have v3 : -9223372036854775808 ≤ acc (fO L t b hd) (j + 1) (m - (j + 1)) * 1024 + (((hd - L (t j) b).natAbs : Int) - ((hd - L (t 0) b).natAbs : Int)) ∧ acc (fO L t b hd) (j + 1) (m - (j + 1)) * 1024 + (((hd - L (t j) b).natAbs : Int) - ((hd - L (t 0) b).natAbs : Int)) < 9223372036854775808 := by omega
    have v4 : -9223372036854775808 ≤ acc (fO L t b hd) (j + 1) (m - (j + 1)) * 1024 + (((hd - L (t j) b).natAbs : Int) - ((hd - L (t 0) b).natAbs : Int)) + 9 ∧ acc (fO L t b hd) (j + 1) (m - (j + 1)) * 1024 + (((hd - L (t j) b).natAbs : Int) - ((hd - L (t 0) b).natAbs : Int)) + 9 < 9223372036854775808 := by omega
    have v5 : -2147483648 ≤ (j : Int) + -1 ∧ (j : Int) + -1 < 2147483648 := by omega
    have em : m - j = m - (j + 1) + 1 := by omega
    have ea : acc (fO L t b hd) (j + 1) (m - (j + 1)) * 1024 + (((hd - L (t j) b).natAbs : Int) - ((hd - L (t 0) b).natAbs : Int)) + 9 = acc (fO L t b hd) j (m - j) := by
      rw [em, acc, fO]
      omega
    have e5 : (j : Int) + -1 = (j : Int) - 1 := by omega
    have i1 := ih (by omega)
    rw [eq_Ear_offFrom_10, if_neg nlt, ej]
    simp only [px_rd_mk, px_wr_mk, Int.reduceToNat, Int.toNat_natCast, if_true, if_false, Option.bind_some, px_up_cell, px_up_slot, px_up_eq, ne_eq, Nat.reduceEqDiff, not_false_eq_true, Int.reduceEq, Int.reduceLT, Int.reduceLE, Int.reduceNeg, decide_true, decide_false, Bool.and_true, Bool.true_and, Bool.and_false, Bool.false_and, and_self, and_true, true_and, and_false, false_and, bi_T, bi_F, not_true_eq_false, Bool.false_eq_true, kg_51, ka_52, ka_67, ir_51_2 hI, ir_51_3 hI, ir_51_4 hI, ir_51_6 hI, ir_51_7 hI, ir_51_8 hI, ir_51_9 hI, gj, gb, gt, gt0, t1.1, t0.1, ir52 hI (show t j < 6 by omega), ka53 h (show t j < 6 by omega), ir52 hI (show t 0 < 6 by omega), ka53 h (show t 0 < 6 by omega), l1.1, l0.1, Bool.or_true, Bool.true_or, px_w_n v1, px_w_n v0, ab1, ab0, px_w_n v2, sh, px_wl_n v3, px_wl_n v4, px_w_n v5]
    rw [ea, e5]
    exact i1 _
theorem R_offFrom {W N : Nat} {L : Nat → Nat → Int} {m : Nat} {t : Nat → Nat} {h : hp} (H : TC W N L m t h) {b : Nat} (hb : b < 4) {hd : Int} (hh : 0 ≤ hd ∧ hd ≤ 9) : px_R (mm_Ear_offFrom, 0, [(2, 51), (0, (b : Int)), (0, hd), (9, 0), (9, 0), (9, 0), (9, 0)], [], (K0, h)) = some (acc (fO L t b hd) 0 m, (K0, h)) := by
  have hm6 := H.2.2.1
  have l := offFrom_loop H hb hh m (Nat.le_refl m) (9, 0)
  rw [Nat.sub_self] at l
  have v : -2147483648 ≤ (m : Int) - 1 ∧ (m : Int) - 1 < 2147483648 := by omega
  rw [eq_Ear_offFrom_0]
  simp only [px_rd_mk, px_wr_mk, Int.reduceToNat, Int.toNat_natCast, if_true, if_false, Option.bind_some, px_up_cell, px_up_slot, px_up_eq, ne_eq, Nat.reduceEqDiff, not_false_eq_true, Int.reduceEq, Int.reduceLT, Int.reduceLE, Int.reduceNeg, decide_true, decide_false, Bool.and_true, Bool.true_and, Bool.and_false, Bool.false_and, and_self, and_true, true_and, and_false, false_and, bi_T, bi_F, not_true_eq_false, Bool.false_eq_true, kg_51, H.2.1, px_w_n v]
  exact l
theorem nearest_loop {W N : Nat} {L : Nat → Nat → Int} {m : Nat} {t : Nat → Nat} {h : hp} (H : TC W N L m t h) {off : Int} (ho : 0 ≤ off ∧ off < 9223372036854775808) (k : Nat) : ∀ i : Nat, i + k = m → ∀ y8 : pv, px_R (mm_Ear_nearest, 13, [(2, 51), (1, off), (9, 0), (1, shf off i), (9, 0), (0, if i = 0 then 1024 else fld off (am (fld off) i)), (0, ((am (fld off) i : Nat) : Int)), (0, (i : Int)), y8], [], (K0, h)) = some ((t (am (fld off) m) : Int), (K0, h)) := by
  obtain ⟨⟨hW, hN, hI, e1, e2, e3⟩, hm, hm6, ht⟩ := H
  have fr : ∀ i, 0 ≤ fld off i ∧ fld off i < 1024 := fun i => by rw [fld_shf]; omega
  induction k with
  | zero =>
    intro i hi y8
    have : i = m := hi
    subst this
    have hlt : ((i : Int) < (i : Int)) = False := eq_false (by omega)
    have a1 := (am_ok (fld off) i hm6.1).1
    have ga : (decide ((0 : Int) ≤ ((am (fld off) i : Nat) : Int)) && decide (((am (fld off) i : Nat) : Int) < 6)) = true := gd_ok (by omega)
    rw [eq_Ear_nearest_13]
    simp only [px_rd_mk, px_wr_mk, Int.reduceToNat, Int.toNat_natCast, if_true, if_false, Option.bind_some, px_up_cell, px_up_slot, px_up_eq, ne_eq, Nat.reduceEqDiff, not_false_eq_true, Int.reduceEq, Int.reduceLT, Int.reduceLE, Int.reduceNeg, decide_true, decide_false, Bool.and_true, Bool.true_and, Bool.and_false, Bool.false_and, and_self, and_true, true_and, and_false, false_and, bi_T, bi_F, not_true_eq_false, Bool.false_eq_true, kg_51, ka_67, ir_51_2 hI, ir_51_3 hI, ir_51_4 hI, ir_51_6 hI, ir_51_7 hI, ir_51_8 hI, ir_51_9 hI, hm, hlt, ga, (ht _ a1).1]
  | succ k ih =>
    intro i hi y8
    have hlt : ((i : Int) < (m : Int)) = True := eq_true (by omega)
    have sr := shf_rng ho.1 i
    have an := and1023 sr.1
    rw [← fld_shf] at an
    have sh : px_lshr (shf off i) 10 = shf off (i + 1) := lshr10 sr.1 (by omega)
    have i1 := ih (i + 1) (by omega) (0, fld off i)
    rw [if_neg (by omega)] at i1
    have fi := fr i
    rw [eq_Ear_nearest_13]
    simp only [px_rd_mk, px_wr_mk, Int.reduceToNat, Int.toNat_natCast, if_true, if_false, Option.bind_some, px_up_cell, px_up_slot, px_up_eq, ne_eq, Nat.reduceEqDiff, not_false_eq_true, Int.reduceEq, Int.reduceLT, Int.reduceLE, Int.reduceNeg, decide_true, decide_false, Bool.and_true, Bool.true_and, Bool.and_false, Bool.false_and, and_self, and_true, true_and, and_false, false_and, bi_T, bi_F, not_true_eq_false, Bool.false_eq_true, kg_51, hm, hlt, an, sh, px_w_s (show i < 1000000 by omega)]
    by_cases z : i = 0
    · subst z
      rw [if_pos rfl, if_pos fi.2]
      have a1 : am (fld off) (0 + 1) = 0 := by
        show (if fld off 0 < fld off 0 then 0 else 0) = 0
        split <;> rfl
      rw [a1] at i1
      exact i1
    · rw [if_neg z]
      by_cases c : fld off i < fld off (am (fld off) i)
      · have a1 : am (fld off) (i + 1) = i := by rw [am, if_pos c]
        rw [a1] at i1
        rw [if_pos c]
        exact i1
      · have a1 : am (fld off) (i + 1) = am (fld off) i := by rw [am, if_neg c]
        rw [a1] at i1
        rw [if_neg c]
        exact i1
theorem R_nearest {W N : Nat} {L : Nat → Nat → Int} {m : Nat} {t : Nat → Nat} {h : hp} (H : TC W N L m t h) {off : Int} (ho : 0 ≤ off ∧ off < 9223372036854775808) : px_R (mm_Ear_nearest, 0, [(2, 51), (1, off), (9, 0), (9, 0), (9, 0), (9, 0), (9, 0), (9, 0), (9, 0)], [], (K0, h)) = some ((t (am (fld off) m) : Int), (K0, h)) := by
  have l := nearest_loop H ho m 0 (Nat.zero_add m) (9, 0)
  rw [eq_Ear_nearest_0]
  exact l
