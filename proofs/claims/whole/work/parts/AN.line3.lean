/-! What comes through a line, by the reference. -/
def lbc : List Nat := [49, 50, 135, 136]
def lbs : List (Nat × Nat) := [(48, 3), (48, 4), (48, 6), (123, 27), (123, 28), (123, 29)]
theorem LB_F {n : Nat} {h g : hp} {cs : List Nat} {ss : List (Nat × Nat)} (hn : n = 4 ∨ n = 26) (F : Fr cs ss h g) (e : (frf 4 48 cs ss && fdj cs ss lbc lbs) = true) (H : LB n h) : LB n g := by
  rw [Bool.and_eq_true] at e
  have c := Fr_dj F e.2
  unfold LB LBm
  rw [Fr_st hn F e.1 (n + 1) (by omega) (by omega), c 48 3 rfl, c 48 4 rfl, c 48 6 rfl, c 123 27 rfl, c 123 28 rfl, c 123 29 rfl]
  obtain ⟨h4, h5, h6, h7, h8⟩ := H
  exact ⟨h4, h5, h6, fun i hi => by rw [c 135 i rfl, c 49 i rfl]; exact h7 i hi, fun i hi => by rw [c 136 i rfl, c 50 i rfl]; exact h8 i hi⟩
/-- all that what comes through a line hangs on -/
def LCm (n : Nat) (h mh : hp) : Prop := (n = 4 ∨ n = 26) ∧ IR h ∧ ST n h ∧ LBm n h mh
def LC (n : Nat) (h : hp) : Prop := LCm n h h
theorem LCm_F {n : Nat} {h g mh : hp} {cs : List Nat} {ss : List (Nat × Nat)} (H : LCm n h mh) (F : Fr cs ss h g) (e1 : (rl.all fun q => !(fin cs ss q.1 q.2.1)) = true) (e2 : (frf 4 48 cs ss && (frf 125 135 cs ss && !(fin cs ss 123 22))) = true) (e3 : (frf 4 48 cs ss && fdj cs ss [49, 50] [(48, 3), (48, 4), (48, 6)]) = true) : LCm n g mh := by
  refine ⟨H.1, IR_Fr H.2.1 F e1, ST_F H.1 F e2 H.2.2.1, ?_⟩
  rw [Bool.and_eq_true] at e3
  have c := Fr_dj F e3.2
  have L := H.2.2.2
  unfold LBm at L ⊢
  rw [Fr_st H.1 F e3.1 (n + 1) (by omega) (by have := H.1; omega), c 48 3 rfl, c 48 4 rfl, c 48 6 rfl]
  obtain ⟨h4, h5, h6, h7, h8⟩ := L
  exact ⟨h4, h5, h6, fun i hi => by rw [c 49 i rfl]; exact h7 i hi, fun i hi => by rw [c 50 i rfl]; exact h8 i hi⟩
theorem LC_F {n : Nat} {h g : hp} {cs : List Nat} {ss : List (Nat × Nat)} (H : LC n h) (F : Fr cs ss h g) (e1 : (rl.all fun q => !(fin cs ss q.1 q.2.1)) = true) (e2 : (frf 4 48 cs ss && (frf 125 135 cs ss && !(fin cs ss 123 22))) = true) (e3 : (frf 4 48 cs ss && fdj cs ss lbc lbs) = true) : LC n g := ⟨H.1, IR_Fr H.2.1 F e1, ST_F H.1 F e2 H.2.2.1, LB_F H.1 F e3 H.2.2.2⟩
/-- the reference's world h against a world c of the class -/
def LD (n : Nat) (c h : hp) : Prop := (n = 4 ∨ n = 26) ∧ IR h ∧ ST n c ∧ LBm n c h ∧ ∀ a : Nat, 125 ≤ a → a < 135 → h a = c a
theorem LC_LD {n : Nat} {h : hp} (C : LC n h) : LD n h h := ⟨C.1, C.2.1, C.2.2.1, C.2.2.2, fun _ _ _ => rfl⟩
theorem LD_F {n : Nat} {c h g : hp} {cs : List Nat} {ss : List (Nat × Nat)} (H : LD n c h) (F : Fr cs ss h g) (e1 : (rl.all fun q => !(fin cs ss q.1 q.2.1)) = true) (e2 : frf 125 135 cs ss = true) (e3 : fdj cs ss [135, 136] [(123, 27), (123, 28), (123, 29)] = true) : LD n c g := by
  obtain ⟨hn, hI, S, L, hm⟩ := H
  have d := Fr_dj F e3
  refine ⟨hn, IR_Fr hI F e1, S, ?_, fun a h1 h2 => (Fr_cell F 125 135 e2 h1 h2).trans (hm a h1 h2)⟩
  unfold LBm at L ⊢
  rw [d 123 27 rfl, d 123 28 rfl, d 123 29 rfl]
  obtain ⟨h4, h5, h6, h7, h8⟩ := L
  exact ⟨h4, h5, h6, fun i hi => by rw [d 135 i rfl]; exact h7 i hi, fun i hi => by rw [d 136 i rfl]; exact h8 i hi⟩
theorem R_letsBy {n : Nat} {c h : hp} (C : LD n c h) {b i : Nat} (hb : b < 4) (hi : (i : Int) < c 48 4) : px_R (mm_Mod_letsBy, 0, [(2, 123), (0, h 135 i), (0, (b : Int))], [], (K0, h)) = some (lbV n c b i, (K0, h)) := by
  obtain ⟨hn, hI, S, L, hm⟩ := C
  obtain ⟨q, hq⟩ := L.2.2.2.1 i hi
  rw [q]
  by_cases e : c 49 i = -1
  · rw [eq_Mod_letsBy_0, if_pos e]
    unfold lbV
    rw [if_pos e]
  · have hq2 : 0 ≤ c 49 i ∧ c 49 i < c (n + 1) 5 := by omega
    obtain ⟨l, hl⟩ := Int.eq_ofNat_of_zero_le hq2.1
    have lp := lb_pre S (l := l) (b := b) (by omega) hb
    have el : lbV n c b i = 100 - 10 * ((c (n + 18) (5 * l) - c (n + 18) (5 * l + 1 + b)).natAbs : Int) := by
      unfold lbV
      rw [if_neg e, hl]
      rfl
    have u1 : -2147483648 ≤ 5 * (l : Int) ∧ 5 * (l : Int) < 2147483648 := by omega
    have u2 : -2147483648 ≤ ((5 * l : Nat) : Int) + 1 ∧ ((5 * l : Nat) : Int) + 1 < 2147483648 := by omega
    have u3 : -2147483648 ≤ ((5 * l + 1 : Nat) : Int) + (b : Int) ∧ ((5 * l + 1 : Nat) : Int) + (b : Int) < 2147483648 := by omega
    have v1 : 5 * (l : Int) = ((5 * l : Nat) : Int) := by omega
    have v2 : ((5 * l : Nat) : Int) + 1 = ((5 * l + 1 : Nat) : Int) := by omega
    have v3 : ((5 * l + 1 : Nat) : Int) + (b : Int) = ((5 * l + 1 + b : Nat) : Int) := by omega
    have b1 : (((5 * l : Nat) : Int) < 40) = True := eq_true (by omega)
    have b3 : (((5 * l + 1 + b : Nat) : Int) < 40) = True := eq_true (by omega)
    have ne : ((l : Int) = -1) = False := eq_false (by omega)
    have s5 := S.2.2.2.2.2.2.2.2.2.2 l (by omega)
    have uu : -2147483648 ≤ c (n + 18) (5 * l) - c (n + 18) (5 * l + 1 + b) ∧ c (n + 18) (5 * l) - c (n + 18) (5 * l + 1 + b) < 2147483648 := by omega
    have pl := R_Mod_plain lp.2.2.1 lp.2.2.2 (K0, h)
    have w1 : px_w (5 * (l : Int)) = ((5 * l : Nat) : Int) := (px_w_n u1).trans v1
    have w2 : px_w (((5 * l : Nat) : Int) + 1) = ((5 * l + 1 : Nat) : Int) := (px_w_n u2).trans v2
    have w3 : px_w (((5 * l + 1 : Nat) : Int) + (b : Int)) = ((5 * l + 1 + b : Nat) : Int) := (px_w_n u3).trans v3
    rw [el]
    generalize hA : (((c (n + 18) (5 * l) - c (n + 18) (5 * l + 1 + b)).natAbs : Nat) : Int) = A at *
    have ua : -2147483648 ≤ 10 * A ∧ 10 * A < 2147483648 := by clear w1 w2 w3; omega
    have ub : -2147483648 ≤ 100 - 10 * A ∧ 100 - 10 * A < 2147483648 := by clear w1 w2 w3; omega
    rw [eq_Mod_letsBy_0]
    simp only [px_rd_mk, px_wr_mk, Int.reduceToNat, Int.toNat_natCast, if_true, if_false, Option.bind_some, px_up_cell, px_up_slot, px_up_eq, ne_eq, Nat.reduceEqDiff, not_false_eq_true, Int.reduceEq, Int.reduceLT, Int.reduceLE, Int.reduceNeg, decide_true, decide_false, Bool.and_true, Bool.true_and, Bool.and_false, Bool.false_and, and_self, and_true, true_and, and_false, false_and, bi_T, bi_F, not_true_eq_false, Bool.false_eq_true, kg_123, ka_134, ir_123_0 hI, ir_123_12 hI, ir_123_13 hI, ir_123_14 hI, ir_123_15 hI, ir_123_16 hI, ir_123_17 hI, ir_123_18 hI, ir_123_19 hI, ir_123_20 hI, ir_123_21 hI, ir_123_30 hI, ir_123_31 hI, ir_123_32 hI, ir_123_33 hI, ir_123_34 hI, ir_123_35 hI, ir_123_36 hI, ir_123_37 hI, ir_123_38 hI, ir_123_39 hI, ir_123_41 hI, ir_123_42 hI, ir_123_44 hI, ir_123_45 hI, ir_123_46 hI, ir_123_50 hI, ir_123_54 hI, ir_123_55 hI, ir_123_56 hI, ir_123_57 hI, ir_123_58 hI, ir_123_59 hI, ir_123_60 hI, ir_123_61 hI, ir_123_62 hI, hm 134 (by decide) (by decide), hl, ne, w1, w2, w3, b1, b3, Int.natCast_nonneg, s5.1.1, (s5.2 b hb).1, px_w_n uu, pl, px_w_n ua, px_w_n ub]
theorem R_co1 {n : Nat} {c h : hp} (C : LD n c h) {s b : Nat} (hs : (s : Int) < c (n + 1) 0) (hb : b < 4) {v : Int} (hv : 0 ≤ v ∧ v ≤ 9000) {y : Nat} (hy : y ≤ 400) (x2 x4 x6 : Int) (k : Nat) : ∀ i : Nat, i + k = y → px_R (mm_Mod_comesTo, 39, [(2, 123), (0, (s : Int)), (0, x2), (0, (y : Int)), (0, x4), (0, (b : Int)), (0, x6), (0, oyV (1000 - c (n + 13) (5 * s + 1 + b)) i v), (0, (i : Int))], [], (K0, h)) = px_R (mm_Mod_comesTo, 85, [(2, 123), (0, (s : Int)), (0, x2), (0, (y : Int)), (0, x4), (0, (b : Int)), (0, x6), (0, oyV (1000 - c (n + 13) (5 * s + 1 + b)) y v), (0, 0)], [], (K0, h)) := by
  obtain ⟨hn, hI, S, L, hm⟩ := C
  have hc := S.2.1 0 (by decide)
  have hl1 : lim 0 = 4 := rfl
  obtain ⟨s1, s2, s3⟩ := (S.2.2.2.2.2.1 s hs).2 b hb
  have u1 : -2147483648 ≤ 5 * (s : Int) ∧ 5 * (s : Int) < 2147483648 := by omega
  have u2 : -2147483648 ≤ ((5 * s : Nat) : Int) + 1 ∧ ((5 * s : Nat) : Int) + 1 < 2147483648 := by omega
  have u3 : -2147483648 ≤ ((5 * s + 1 : Nat) : Int) + (b : Int) ∧ ((5 * s + 1 : Nat) : Int) + (b : Int) < 2147483648 := by omega
  have v1 : 5 * (s : Int) = ((5 * s : Nat) : Int) := by omega
  have v2 : ((5 * s : Nat) : Int) + 1 = ((5 * s + 1 : Nat) : Int) := by omega
  have v3 : ((5 * s + 1 : Nat) : Int) + (b : Int) = ((5 * s + 1 + b : Nat) : Int) := by omega
  have b3 : (((5 * s + 1 + b : Nat) : Int) < 40) = True := eq_true (by omega)
  have u4 : -2147483648 ≤ 1000 - c (n + 13) (5 * s + 1 + b) ∧ 1000 - c (n + 13) (5 * s + 1 + b) < 2147483648 := by omega
  induction k with
  | zero =>
    intro i hi
    have : i = y := hi
    subst this
    rw [eq_Mod_comesTo_39, if_neg (Int.lt_irrefl _)]
  | succ k ih =>
    intro i hi
    have hlt : (i : Int) < (y : Int) := by omega
    have r := oy_rng S hs hb hv i
    by_cases e : oyV (1000 - c (n + 13) (5 * s + 1 + b)) i v = 0
    · have e2 := oyV_zero _ e (k + 1)
      rw [hi] at e2
      rw [eq_Mod_comesTo_39, if_pos hlt, e, e2, if_neg (Int.lt_irrefl _)]
    · have e3 : 0 < oyV (1000 - c (n + 13) (5 * s + 1 + b)) i v := by omega
      have t := tm_w (q := 1000 - c (n + 13) (5 * s + 1 + b)) (d := 1000) r (by omega) (by omega) (by decide) (by decide)
      have t2 : tm (oyV (1000 - c (n + 13) (5 * s + 1 + b)) i v) (1000 - c (n + 13) (5 * s + 1 + b)) 1000 = oyV (1000 - c (n + 13) (5 * s + 1 + b)) (i + 1) v := rfl
      rw [t2] at t
      have i1 := ih (i + 1) (by omega)
      rw [eq_Mod_comesTo_39, if_pos hlt, if_pos e3]
      simp only [px_rd_mk, px_wr_mk, Int.reduceToNat, Int.toNat_natCast, if_true, if_false, Option.bind_some, px_up_cell, px_up_slot, px_up_eq, ne_eq, Nat.reduceEqDiff, not_false_eq_true, Int.reduceEq, Int.reduceLT, Int.reduceLE, Int.reduceNeg, decide_true, decide_false, Bool.and_true, Bool.true_and, Bool.and_false, Bool.false_and, and_self, and_true, true_and, and_false, false_and, bi_T, bi_F, not_true_eq_false, Bool.false_eq_true, kg_123, ka_127, ir_123_0 hI, ir_123_12 hI, ir_123_13 hI, ir_123_14 hI, ir_123_15 hI, ir_123_16 hI, ir_123_17 hI, ir_123_18 hI, ir_123_19 hI, ir_123_20 hI, ir_123_21 hI, ir_123_30 hI, ir_123_31 hI, ir_123_32 hI, ir_123_33 hI, ir_123_34 hI, ir_123_35 hI, ir_123_36 hI, ir_123_37 hI, ir_123_38 hI, ir_123_39 hI, ir_123_41 hI, ir_123_42 hI, ir_123_44 hI, ir_123_45 hI, ir_123_46 hI, ir_123_50 hI, ir_123_54 hI, ir_123_55 hI, ir_123_56 hI, ir_123_57 hI, ir_123_58 hI, ir_123_59 hI, ir_123_60 hI, ir_123_61 hI, ir_123_62 hI, hm 127 (by decide) (by decide), (px_w_n u1).trans v1, (px_w_n u2).trans v2, (px_w_n u3).trans v3, b3, Int.natCast_nonneg, s1, px_w_n u4, t, px_w_s (show i < 1000000 by omega)]
      exact i1
theorem R_co2 {n : Nat} {c h : hp} (C : LD n c h) {b : Nat} (hb : b < 4) {v : Int} (hv : 0 ≤ v ∧ v ≤ 9000) (x1 x2 x3 x4 x6 : Int) {B : Nat} (hB : c 48 4 = (B : Int)) (k : Nat) : ∀ i : Nat, i + k = B → px_R (mm_Mod_comesTo, 85, [(2, 123), (0, x1), (0, x2), (0, x3), (0, x4), (0, (b : Int)), (0, x6), (0, bdV n c b i v), (0, (i : Int))], [], (K0, h)) = px_R (mm_Mod_comesTo, 124, [(2, 123), (0, x1), (0, x2), (0, x3), (0, x4), (0, (b : Int)), (0, x6), (0, bdV n c b B v), (0, 0)], [], (K0, h)) := by
  have CC := C
  obtain ⟨hn, hI, S, L, hm⟩ := C
  have hB4 := L.2.1
  induction k with
  | zero =>
    intro i hi
    have : i = B := hi
    subst this
    have hlt : ((i : Int) < (i : Int)) = False := by simp
    rw [eq_Mod_comesTo_85]
    simp only [px_rd_mk, px_wr_mk, Int.reduceToNat, Int.toNat_natCast, if_true, if_false, Option.bind_some, px_up_cell, px_up_slot, px_up_eq, ne_eq, Nat.reduceEqDiff, not_false_eq_true, Int.reduceEq, Int.reduceLT, Int.reduceLE, Int.reduceNeg, decide_true, decide_false, Bool.and_true, Bool.true_and, Bool.and_false, Bool.false_and, and_self, and_true, true_and, and_false, false_and, bi_T, bi_F, not_true_eq_false, Bool.false_eq_true, kg_123, hB4.1, hB, hlt]
  | succ k ih =>
    intro i hi
    have hlt : ((i : Int) < (B : Int)) = True := eq_true (by omega)
    have hlt4 : ((i : Int) < 4) = True := eq_true (by omega)
    have r := bdV_rng S L hb hv i (by omega)
    have rl := lbV_rng S L hb (i := i) (by omega)
    have t := tm_w r rl.1 rl.2 (by decide) (by decide)
    have t2 : tm (bdV n c b i v) (lbV n c b i) 100 = bdV n c b (i + 1) v := rfl
    rw [t2] at t
    have i1 := ih (i + 1) (by omega)
    rw [eq_Mod_comesTo_85]
    simp only [px_rd_mk, px_wr_mk, Int.reduceToNat, Int.toNat_natCast, if_true, if_false, Option.bind_some, px_up_cell, px_up_slot, px_up_eq, ne_eq, Nat.reduceEqDiff, not_false_eq_true, Int.reduceEq, Int.reduceLT, Int.reduceLE, Int.reduceNeg, decide_true, decide_false, Bool.and_true, Bool.true_and, Bool.and_false, Bool.false_and, and_self, and_true, true_and, and_false, false_and, bi_T, bi_F, not_true_eq_false, Bool.false_eq_true, kg_123, ka_135, ir_123_0 hI, ir_123_12 hI, ir_123_13 hI, ir_123_14 hI, ir_123_15 hI, ir_123_16 hI, ir_123_17 hI, ir_123_18 hI, ir_123_19 hI, ir_123_20 hI, ir_123_21 hI, ir_123_30 hI, ir_123_31 hI, ir_123_32 hI, ir_123_33 hI, ir_123_34 hI, ir_123_35 hI, ir_123_36 hI, ir_123_37 hI, ir_123_38 hI, ir_123_39 hI, ir_123_41 hI, ir_123_42 hI, ir_123_44 hI, ir_123_45 hI, ir_123_46 hI, ir_123_50 hI, ir_123_54 hI, ir_123_55 hI, ir_123_56 hI, ir_123_57 hI, ir_123_58 hI, ir_123_59 hI, ir_123_60 hI, ir_123_61 hI, ir_123_62 hI, hB4.1, hB, hlt, hlt4, Int.natCast_nonneg, R_letsBy CC hb (i := i) (by omega), t, px_w_s (show i < 1000000 by omega)]
    exact i1
theorem R_co3 {n : Nat} {c h : hp} (C : LD n c h) {v : Int} (hv : 0 ≤ v ∧ v ≤ 9000) (x1 x2 x3 x4 x5 : Int) {T : Nat} (hT : (T : Int) ≤ c 48 6) (k : Nat) : ∀ i : Nat, i + k = T → px_R (mm_Mod_comesTo, 124, [(2, 123), (0, x1), (0, x2), (0, x3), (0, x4), (0, x5), (0, (T : Int)), (0, tsV c i v), (0, (i : Int))], [], (K0, h)) = some (tsV c T v, (K0, h)) := by
  obtain ⟨hn, hI, S, L, hm⟩ := C
  have hT4 := L.2.2.1
  induction k with
  | zero =>
    intro i hi
    have : i = T := hi
    subst this
    rw [eq_Mod_comesTo_124, if_neg (Int.lt_irrefl _)]
  | succ k ih =>
    intro i hi
    have hlt : ((i : Int) < (T : Int)) = True := eq_true (by omega)
    have hlt4 : ((i : Int) < 4) = True := eq_true (by omega)
    have r := tsV_rng L hv i (by omega)
    have rl := (L.2.2.2.2 i (by omega))
    have u2 : -2147483648 ≤ 100 - c 50 i ∧ 100 - c 50 i < 2147483648 := by omega
    have t := tm_w (q := 100 - c 50 i) (d := 100) r (by omega) (by omega) (by decide) (by decide)
    have t2 : tm (tsV c i v) (100 - c 50 i) 100 = tsV c (i + 1) v := rfl
    rw [t2] at t
    have i1 := ih (i + 1) (by omega)
    rw [eq_Mod_comesTo_124]
    simp only [px_rd_mk, px_wr_mk, Int.reduceToNat, Int.toNat_natCast, if_true, if_false, Option.bind_some, px_up_cell, px_up_slot, px_up_eq, ne_eq, Nat.reduceEqDiff, not_false_eq_true, Int.reduceEq, Int.reduceLT, Int.reduceLE, Int.reduceNeg, decide_true, decide_false, Bool.and_true, Bool.true_and, Bool.and_false, Bool.false_and, and_self, and_true, true_and, and_false, false_and, bi_T, bi_F, not_true_eq_false, Bool.false_eq_true, kg_123, ka_136, ir_123_0 hI, ir_123_12 hI, ir_123_13 hI, ir_123_14 hI, ir_123_15 hI, ir_123_16 hI, ir_123_17 hI, ir_123_18 hI, ir_123_19 hI, ir_123_20 hI, ir_123_21 hI, ir_123_30 hI, ir_123_31 hI, ir_123_32 hI, ir_123_33 hI, ir_123_34 hI, ir_123_35 hI, ir_123_36 hI, ir_123_37 hI, ir_123_38 hI, ir_123_39 hI, ir_123_41 hI, ir_123_42 hI, ir_123_44 hI, ir_123_45 hI, ir_123_46 hI, ir_123_50 hI, ir_123_54 hI, ir_123_55 hI, ir_123_56 hI, ir_123_57 hI, ir_123_58 hI, ir_123_59 hI, ir_123_60 hI, ir_123_61 hI, ir_123_62 hI, hlt, hlt4, Int.natCast_nonneg, rl.1, px_w_n u2, t, px_w_s (show i < 1000000 by omega)]
    exact i1
theorem R_comesTo {n : Nat} {c h : hp} (C : LD n c h) {s t y : Nat} (hs : (s : Int) < c (n + 1) 0) (ht : (t : Int) < c (n + 1) 1) (hy : y ≤ 400) {loud : Int} (hl : 0 ≤ loud ∧ loud ≤ 9) {b : Nat} (hb : b < 4) {k : Nat} (hk : (k : Int) ≤ c 48 6) : px_R (mm_Mod_comesTo, 0, [(2, 123), (0, (s : Int)), (0, (t : Int)), (0, (y : Int)), (0, loud), (0, (b : Int)), (0, (k : Int)), (9, 0), (9, 0)], [], (K0, h)) = some (coV n c s t y loud b k, (K0, h)) := by
  have CC := C
  obtain ⟨hn, hI, S, L, hm⟩ := C
  have hc := S.2.1 1 (by decide)
  have hl1 : lim 1 = 4 := rfl
  obtain ⟨s1, s2, s3⟩ := S.2.2.2.2.2.2.1 t ht b hb
  have r1 := en_rng S L (s := s) ht hb hl
  have r2 := oy_rng S hs hb r1 y
  obtain ⟨B, hB⟩ := Int.eq_ofNat_of_zero_le L.2.1.2.1
  have hB2 : (c 48 4).toNat = B := by omega
  have r3 := bdV_rng S L hb r2 B (by omega)
  have l1 := R_co1 CC hs hb r1 hy (t : Int) loud (k : Int) y 0 (Nat.zero_add y)
  have l2 := R_co2 CC hb r2 (s : Int) (t : Int) (y : Int) loud (k : Int) hB B 0 (Nat.zero_add B)
  have l3 := R_co3 CC r3 (s : Int) (t : Int) (y : Int) loud (b : Int) hk k 0 (Nat.zero_add k)
  have u1 : -2147483648 ≤ 4 * (t : Int) ∧ 4 * (t : Int) < 2147483648 := by omega
  have u3 : -2147483648 ≤ ((4 * t : Nat) : Int) + (b : Int) ∧ ((4 * t : Nat) : Int) + (b : Int) < 2147483648 := by omega
  have v1 : 4 * (t : Int) = ((4 * t : Nat) : Int) := by omega
  have v3 : ((4 * t : Nat) : Int) + (b : Int) = ((4 * t + b : Nat) : Int) := by omega
  have b3 : (((4 * t + b : Nat) : Int) < 32) = True := eq_true (by omega)
  have ew := enV_w hl ⟨s2, s3⟩ (hsV_rng (bs := bsV n c s) L.1.2)
  rw [eq_Mod_comesTo_0]
  simp only [px_rd_mk, px_wr_mk, Int.reduceToNat, Int.toNat_natCast, if_true, if_false, Option.bind_some, px_up_cell, px_up_slot, px_up_eq, ne_eq, Nat.reduceEqDiff, not_false_eq_true, Int.reduceEq, Int.reduceLT, Int.reduceLE, Int.reduceNeg, decide_true, decide_false, Bool.and_true, Bool.true_and, Bool.and_false, Bool.false_and, and_self, and_true, true_and, and_false, false_and, bi_T, bi_F, not_true_eq_false, Bool.false_eq_true, kg_123, ka_128, ir_123_0 hI, ir_123_12 hI, ir_123_13 hI, ir_123_14 hI, ir_123_15 hI, ir_123_16 hI, ir_123_17 hI, ir_123_18 hI, ir_123_19 hI, ir_123_20 hI, ir_123_21 hI, ir_123_30 hI, ir_123_31 hI, ir_123_32 hI, ir_123_33 hI, ir_123_34 hI, ir_123_35 hI, ir_123_36 hI, ir_123_37 hI, ir_123_38 hI, ir_123_39 hI, ir_123_41 hI, ir_123_42 hI, ir_123_44 hI, ir_123_45 hI, ir_123_46 hI, ir_123_50 hI, ir_123_54 hI, ir_123_55 hI, ir_123_56 hI, ir_123_57 hI, ir_123_58 hI, ir_123_59 hI, ir_123_60 hI, ir_123_61 hI, ir_123_62 hI, hm 128 (by decide) (by decide), (px_w_n u1).trans v1, (px_w_n u3).trans v3, b3, Int.natCast_nonneg, s1, R_handsOf hI S hm hs L.1, ew]
  refine l1.trans (l2.trans (l3.trans ?_))
  unfold coV
  rw [hB2]
theorem R_throughOf {n : Nat} {c h : hp} (C : LD n c h) {s t y : Nat} (hs : (s : Int) < c (n + 1) 0) (ht : (t : Int) < c (n + 1) 1) (hy : y ≤ 400) {loud : Int} (hl : 0 ≤ loud ∧ loud ≤ 9) {b : Nat} (hb : b < 4) : px_R (mm_Mod_throughOf, 0, [(2, 123), (0, (s : Int)), (0, (t : Int)), (0, (y : Int)), (0, loud), (0, (b : Int))], [], (K0, h)) = some (arV n c s t y loud b, (K0, h)) := by
  have CC := C
  obtain ⟨hn, hI, S, L, hm⟩ := C
  have hc := S.2.1 1 (by decide)
  have hl1 : lim 1 = 4 := rfl
  obtain ⟨s1, s2, s3⟩ := S.2.2.2.2.2.2.1 t ht b hb
  obtain ⟨B, hB⟩ := Int.eq_ofNat_of_zero_le L.2.1.2.1
  have hB2 : (c 48 4).toNat = B := by omega
  obtain ⟨T, hT⟩ := Int.eq_ofNat_of_zero_le L.2.2.1.2.1
  have hT2 : (c 48 6).toNat = T := by omega
  have r1 := en_rng S L (s := s) ht hb hl
  have r2 := oy_rng S hs hb r1 y
  have r3 := tsV_rng L (bdV_rng S L hb r2 B (by omega)) T (by omega)
  have co := R_comesTo CC hs ht hy hl hb (k := T) (by omega)
  have eco : coV n c s t y loud b T = tsV c T (bdV n c b B (oyV (1000 - c (n + 13) (5 * s + 1 + b)) y (enV loud (c (n + 14) (5 * t + b)) (hsV (bsV n c s) (c 48 3))))) := by unfold coV; rw [hB2]
  have u1 : -2147483648 ≤ 4 * (t : Int) ∧ 4 * (t : Int) < 2147483648 := by omega
  have u3 : -2147483648 ≤ ((4 * t : Nat) : Int) + (b : Int) ∧ ((4 * t : Nat) : Int) + (b : Int) < 2147483648 := by omega
  have v1 : 4 * (t : Int) = ((4 * t : Nat) : Int) := by omega
  have v3 : ((4 * t : Nat) : Int) + (b : Int) = ((4 * t + b : Nat) : Int) := by omega
  have b3 : (((4 * t + b : Nat) : Int) < 32) = True := eq_true (by omega)
  rw [eq_Mod_throughOf_0]
  simp only [px_rd_mk, px_wr_mk, Int.reduceToNat, Int.toNat_natCast, if_true, if_false, Option.bind_some, px_up_cell, px_up_slot, px_up_eq, ne_eq, Nat.reduceEqDiff, not_false_eq_true, Int.reduceEq, Int.reduceLT, Int.reduceLE, Int.reduceNeg, decide_true, decide_false, Bool.and_true, Bool.true_and, Bool.and_false, Bool.false_and, and_self, and_true, true_and, and_false, false_and, bi_T, bi_F, not_true_eq_false, Bool.false_eq_true, kg_123, ka_128, ir_123_0 hI, ir_123_12 hI, ir_123_13 hI, ir_123_14 hI, ir_123_15 hI, ir_123_16 hI, ir_123_17 hI, ir_123_18 hI, ir_123_19 hI, ir_123_20 hI, ir_123_21 hI, ir_123_30 hI, ir_123_31 hI, ir_123_32 hI, ir_123_33 hI, ir_123_34 hI, ir_123_35 hI, ir_123_36 hI, ir_123_37 hI, ir_123_38 hI, ir_123_39 hI, ir_123_41 hI, ir_123_42 hI, ir_123_44 hI, ir_123_45 hI, ir_123_46 hI, ir_123_50 hI, ir_123_54 hI, ir_123_55 hI, ir_123_56 hI, ir_123_57 hI, ir_123_58 hI, ir_123_59 hI, ir_123_60 hI, ir_123_61 hI, ir_123_62 hI, hm 128 (by decide) (by decide), L.2.2.1.1, hT, co, eco, (px_w_n u1).trans v1, (px_w_n u3).trans v3, b3, Int.natCast_nonneg, s1, tm_w r3 s2 s3 (show (0 : Int) < 100 by decide) (by decide)]
  unfold arV lvV
  rw [hB2, hT2]
theorem arV_rng {n : Nat} {h mh : hp} (S : ST n h) (L : LBm n h mh) {s t : Nat} (hs : (s : Int) < h (n + 1) 0) (ht : (t : Int) < h (n + 1) 1) (y : Nat) {loud : Int} (hl : 0 ≤ loud ∧ loud ≤ 9) {b : Nat} (hb : b < 4) : 0 ≤ arV n h s t y loud b ∧ arV n h s t y loud b ≤ 9000 := by
  obtain ⟨s1, s2, s3⟩ := S.2.2.2.2.2.2.1 t ht b hb
  have r1 := en_rng S L (s := s) ht hb hl
  have r2 := oy_rng S hs hb r1 y
  have r3 := tsV_rng L (bdV_rng S L hb r2 (h 48 4).toNat (by have := L.2.1; omega)) (h 48 6).toNat (by have := L.2.2.1; omega)
  have r4 := tm_rng r3.1 s2 s3 (show (0 : Int) < 100 by decide)
  unfold arV lvV
  omega
