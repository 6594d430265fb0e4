/-! What comes through a line: bends and ties, the whole. -/
theorem px_w_s {i : Nat} (h : i < 1000000) : px_w ((i : Int) + 1) = ((i + 1 : Nat) : Int) := by
  rw [px_w_id (by omega) (by omega)]
  omega
theorem lb_pre {n : Nat} {h : hp} (S : ST n h) {l b : Nat} (hl : (l : Int) < h (n + 1) 5) (hb : b < 4) : l < 4 ∧ ((h (n + 18) (5 * l) - h (n + 18) (5 * l + 1 + b)).natAbs : Int) ≤ 9 ∧ (-2147483648 < h (n + 18) (5 * l) - h (n + 18) (5 * l + 1 + b) ∧ h (n + 18) (5 * l) - h (n + 18) (5 * l + 1 + b) < 2147483648) := by
  have hc := S.2.1 5 (by decide)
  obtain ⟨⟨s1, s2, s3⟩, s4⟩ := S.2.2.2.2.2.2.2.2.2.2 l hl
  obtain ⟨s5, s6, s7⟩ := s4 b hb
  have : lim 5 = 4 := rfl
  omega
theorem R_bends_loop {n : Nat} (hn : n = 4 ∨ n = 26) {h : hp} (hI : IR h) (S : ST n h) {mh : hp} (L : LBm n h mh) {b : Nat} (hb : b < 4) {v : Int} (hv : 0 ≤ v ∧ v ≤ 9000) (x2 x4 : Int) {B : Nat} (hB : h 48 4 = (B : Int)) (k : Nat) : ∀ i : Nat, i + k = B → ∀ y7 y8 : pv, ∃ z7 z8 : pv, px_R (mm_Line_overBends, 6, [(2, 48), (2, (n : Int)), (0, x2), (0, (b : Int)), (0, x4), (0, bdV n h b i v), (0, (i : Int)), y7, y8], [], (K0, h)) = px_R (mm_Line_overBends, 90, [(2, 48), (2, (n : Int)), (0, x2), (0, (b : Int)), (0, x4), (0, bdV n h b B v), (0, 0), z7, z8], [], (K0, h)) := by
  have hB4 := L.2.1
  induction k with
  | zero =>
    intro i hi y7 y8
    have : i = B := hi
    subst this
    refine ⟨y7, y8, ?_⟩
    have hlt : ((i : Int) < (i : Int)) = False := by simp
    rw [eq_Line_overBends_6]
    simp only [px_rd_mk, px_wr_mk, Int.reduceToNat, Int.toNat_natCast, if_true, if_false, Option.bind_some, px_up_cell, px_up_slot, px_up_eq, ne_eq, Nat.reduceEqDiff, not_false_eq_true, Int.reduceEq, Int.reduceLT, Int.reduceLE, Int.reduceNeg, decide_true, decide_false, Bool.and_true, Bool.true_and, Bool.and_false, Bool.false_and, and_self, and_true, true_and, and_false, false_and, bi_T, bi_F, not_true_eq_false, Bool.false_eq_true, kg_48, hB, hlt]
  | succ k ih =>
    intro i hi y7 y8
    have hlt : ((i : Int) < (B : Int)) = True := by simp; omega
    have hi4 : (i : Int) < h 48 4 := by omega
    have hlt4 : ((i : Int) < 4) = True := by simp; omega
    have r := bdV_rng S L hb hv i (by omega)
    have u3 : (i : Int) + 1 = ((i + 1 : Nat) : Int) := by omega
    have u1 : -2147483648 ≤ (i : Int) + 1 ∧ (i : Int) + 1 < 2147483648 := by omega
    have rl := lbV_rng S L hb hi4
    have t := tm_w r rl.1 rl.2 (by decide) (by decide)
    have t2 : tm (bdV n h b i v) (lbV n h b i) 100 = bdV n h b (i + 1) v := rfl
    rw [t2] at t
    by_cases e : h 49 i = -1
    · have el : lbV n h b i = 0 := if_pos e
      rw [el] at t
      obtain ⟨z7, z8, ez⟩ := ih (i + 1) (by omega) (0, 0) y8
      refine ⟨z7, z8, Eq.trans ?_ ez⟩
      rw [eq_Line_overBends_6]
      simp only [px_rd_mk, px_wr_mk, Int.reduceToNat, Int.toNat_natCast, if_true, if_false, Option.bind_some, px_up_cell, px_up_slot, px_up_eq, ne_eq, Nat.reduceEqDiff, not_false_eq_true, Int.reduceEq, Int.reduceLT, Int.reduceLE, Int.reduceNeg, decide_true, decide_false, Bool.and_true, Bool.true_and, Bool.and_false, Bool.false_and, and_self, and_true, true_and, and_false, false_and, bi_T, bi_F, not_true_eq_false, Bool.false_eq_true, kg_48, ka_49, ir_48_5 hI, ir_48_7 hI, hB, hlt, hlt4, Int.natCast_nonneg, e, t, px_w_s (show i < 1000000 by omega)]
    · obtain ⟨q, hq⟩ := L.2.2.2.1 i hi4
      have hq2 : 0 ≤ h 49 i ∧ h 49 i < h (n + 1) 5 := by omega
      obtain ⟨l, hl⟩ := Int.eq_ofNat_of_zero_le hq2.1
      have el : lbV n h b i = 100 - 10 * ((h (n + 18) (5 * l) - h (n + 18) (5 * l + 1 + b)).natAbs : Int) := by
        unfold lbV
        rw [if_neg e, hl]
        rfl
      have lp := lb_pre S (l := l) (b := b) (by omega) hb
      rw [el] at t
      have e1 := R_Str_number hn hI (x1 := 5) (x2 := (l : Int)) (x3 := 0) 5 l 0 rfl rfl rfl (by decide) (by omega)
      have e2 := R_Str_ofBand hn hI (x1 := 5) (x2 := (l : Int)) (x3 := (b : Int)) 5 l b rfl rfl rfl (by decide) (by omega)
      rw [show n + 13 + 5 = n + 18 from rfl, show 5 * l + 0 = 5 * l from rfl] at e1
      rw [show n + 13 + 5 = n + 18 from rfl, if_pos (Or.inr rfl)] at e2
      have ab := px_ab_nat lp.2.2.1 lp.2.2.2
      have uu : -2147483648 ≤ h (n + 18) (5 * l) - h (n + 18) (5 * l + 1 + b) ∧ h (n + 18) (5 * l) - h (n + 18) (5 * l + 1 + b) < 2147483648 := by omega
      have ne : ((l : Int) = -1) = False := eq_false (by omega)
      generalize hA : (((h (n + 18) (5 * l) - h (n + 18) (5 * l + 1 + b)).natAbs : Nat) : Int) = A at *
      have ua : -2147483648 ≤ 10 * A ∧ 10 * A < 2147483648 := by omega
      have ub : -2147483648 ≤ 100 - 10 * A ∧ 100 - 10 * A < 2147483648 := by omega
      obtain ⟨z7, z8, ez⟩ := ih (i + 1) (by omega) (0, 100 - 10 * A) (0, h (n + 18) (5 * l))
      refine ⟨z7, z8, Eq.trans ?_ ez⟩
      rw [eq_Line_overBends_6]
      simp only [px_rd_mk, px_wr_mk, Int.reduceToNat, Int.toNat_natCast, if_true, if_false, Option.bind_some, px_up_cell, px_up_slot, px_up_eq, ne_eq, Nat.reduceEqDiff, not_false_eq_true, Int.reduceEq, Int.reduceLT, Int.reduceLE, Int.reduceNeg, decide_true, decide_false, Bool.and_true, Bool.true_and, Bool.and_false, Bool.false_and, and_self, and_true, true_and, and_false, false_and, bi_T, bi_F, not_true_eq_false, Bool.false_eq_true, kg_48, ka_49, ir_48_5 hI, ir_48_7 hI, hB, hlt, hlt4, Int.natCast_nonneg, hl, ne, sgo hn, e1, e2, px_w_n uu, ab, px_w_n ua, px_w_n ub, t, px_w_s (show i < 1000000 by omega)]
theorem R_ties_loop {n : Nat} {h : hp} (hI : IR h) {mh : hp} (L : LBm n h mh) {v : Int} (hv : 0 ≤ v ∧ v ≤ 9000) (x1 x2 x3 : Int) {T : Nat} (hT : (T : Int) ≤ h 48 6) (k : Nat) : ∀ i : Nat, i + k = T → ∀ y7 y8 : pv, px_R (mm_Line_overBends, 90, [(2, 48), (2, x1), (0, x2), (0, x3), (0, (T : Int)), (0, tsV h i v), (0, (i : Int)), y7, y8], [], (K0, h)) = some (tsV h T v, (K0, h)) := by
  have hT4 := L.2.2.1
  induction k with
  | zero =>
    intro i hi y7 y8
    have : i = T := hi
    subst this
    rw [eq_Line_overBends_90, if_neg (Int.lt_irrefl _)]
  | succ k ih =>
    intro i hi y7 y8
    have hlt : ((i : Int) < (T : Int)) = True := by simp; omega
    have hlt4 : ((i : Int) < 4) = True := by simp; omega
    have r := tsV_rng L hv i (by omega)
    have u3 : (i : Int) + 1 = ((i + 1 : Nat) : Int) := by omega
    have u1 : -2147483648 ≤ (i : Int) + 1 ∧ (i : Int) + 1 < 2147483648 := by omega
    have rl := (L.2.2.2.2 i (by omega)).2
    have u2 : -2147483648 ≤ 100 - h 50 i ∧ 100 - h 50 i < 2147483648 := by omega
    have t := tm_w (q := 100 - h 50 i) (d := 100) r (by omega) (by omega) (by decide) (by decide)
    have t2 : tm (tsV h i v) (100 - h 50 i) 100 = tsV h (i + 1) v := rfl
    rw [t2] at t
    have i1 := ih (i + 1) (by omega) y7 y8
    rw [eq_Line_overBends_90]
    simp only [px_rd_mk, px_wr_mk, Int.reduceToNat, Int.toNat_natCast, if_true, if_false, Option.bind_some, px_up_cell, px_up_slot, px_up_eq, ne_eq, Nat.reduceEqDiff, not_false_eq_true, Int.reduceEq, Int.reduceLT, Int.reduceLE, Int.reduceNeg, decide_true, decide_false, Bool.and_true, Bool.true_and, Bool.and_false, Bool.false_and, and_self, and_true, true_and, and_false, false_and, bi_T, bi_F, not_true_eq_false, Bool.false_eq_true, kg_48, ka_50, ir_48_5 hI, ir_48_7 hI, hlt, hlt4, Int.natCast_nonneg, px_w_n u2, t, px_w_s (show i < 1000000 by omega)]
    exact i1
theorem R_overBends {n : Nat} (hn : n = 4 ∨ n = 26) {h : hp} (hI : IR h) (S : ST n h) {mh : hp} (L : LBm n h mh) {b : Nat} (hb : b < 4) {v : Int} (hv : 0 ≤ v ∧ v ≤ 9000) {T : Nat} (hT : (T : Int) ≤ h 48 6) : px_R (mm_Line_overBends, 0, [(2, 48), (2, (n : Int)), (0, v), (0, (b : Int)), (0, (T : Int)), (9, 0), (9, 0), (9, 0), (9, 0)], [], (K0, h)) = some (tsV h T (bdV n h b (h 48 4).toNat v), (K0, h)) := by
  obtain ⟨B, hB⟩ := Int.eq_ofNat_of_zero_le L.2.1.2.1
  obtain ⟨z7, z8, e⟩ := R_bends_loop hn hI S L hb hv v (T : Int) hB B 0 (Nat.zero_add B) (9, 0) (9, 0)
  have e2 := R_ties_loop hI L (bdV_rng S L hb hv B (by omega)) (n : Int) v (b : Int) hT T 0 (Nat.zero_add T) z7 z8
  have hB2 : (h 48 4).toNat = B := by omega
  rw [eq_Line_overBends_0, hB2]
  exact e.trans e2
/-- what goes into the first yard -/
def enV (loud tb hands : Int) : Int := tm (tm (1000 * loud) tb 100) hands 100
theorem enV_rng {loud tb hands : Int} (h1 : 0 ≤ loud ∧ loud ≤ 9) (h2 : 0 ≤ tb ∧ tb ≤ 100) (h3 : 0 ≤ hands ∧ hands ≤ 100) : 0 ≤ enV loud tb hands ∧ enV loud tb hands ≤ 9000 := by
  have a := tm_rng (v := 1000 * loud) (by omega) h2.1 h2.2 (by decide)
  have b := tm_rng a.1 h3.1 h3.2 (by decide)
  unfold enV
  omega
theorem enV_w {loud tb hands : Int} (h1 : 0 ≤ loud ∧ loud ≤ 9) (h2 : 0 ≤ tb ∧ tb ≤ 100) (h3 : 0 ≤ hands ∧ hands ≤ 100) : px_w (Int.tdiv (px_w ((px_w (Int.tdiv (px_w ((px_w (1000 * loud)) * tb)) 100)) * hands)) 100) = enV loud tb hands := by
  have a := tm_rng (v := 1000 * loud) (by omega) h2.1 h2.2 (by decide)
  have u1 : -2147483648 ≤ 1000 * loud ∧ 1000 * loud < 2147483648 := by omega
  have g1 : 0 ≤ 1000 * loud ∧ 1000 * loud ≤ 9000 := by omega
  have g2 : 0 ≤ tm (1000 * loud) tb 100 ∧ tm (1000 * loud) tb 100 ≤ 9000 := by omega
  rw [px_w_n u1, tm_w g1 h2.1 h2.2 (by decide) (by decide), tm_w g2 h3.1 h3.2 (by decide) (by decide)]
  rfl
theorem R_enters {n : Nat} (hn : n = 4 ∨ n = 26) {h : hp} (hI : IR h) (S : ST n h) {t : Nat} (h1 : h 48 1 = (t : Int)) (ht : (t : Int) < h (n + 1) 1) {b : Nat} (hb : b < 4) {hands loud : Int} (hl : 0 ≤ loud ∧ loud ≤ 9) (hh : 0 ≤ hands ∧ hands ≤ 100) : px_R (mm_Line_enters, 0, [(2, 48), (2, (n : Int)), (0, hands), (0, loud), (0, (b : Int)), (9, 0)], [], (K0, h)) = some (enV loud (h (n + 14) (5 * t + b)) hands, (K0, h)) := by
  have hc := S.2.1 1 (by decide)
  have hl1 : lim 1 = 4 := rfl
  obtain ⟨s1, s2, s3⟩ := S.2.2.2.2.2.2.1 t ht b hb
  have e1 := R_Str_ofBand hn hI (x1 := 1) (x2 := (t : Int)) (x3 := (b : Int)) 1 t b rfl rfl rfl (by decide) (by omega)
  rw [show n + 13 + 1 = n + 14 from rfl, if_neg (by decide), show 5 * t + 0 + b = 5 * t + b from rfl] at e1
  rw [eq_Line_enters_0]
  simp only [px_rd_mk, px_wr_mk, Int.reduceToNat, Int.toNat_natCast, if_true, if_false, Option.bind_some, px_up_cell, px_up_slot, px_up_eq, ne_eq, Nat.reduceEqDiff, not_false_eq_true, Int.reduceEq, Int.reduceLT, Int.reduceLE, Int.reduceNeg, decide_true, decide_false, Bool.and_true, Bool.true_and, Bool.and_false, Bool.false_and, and_self, and_true, true_and, and_false, false_and, bi_T, bi_F, not_true_eq_false, Bool.false_eq_true, kg_48, sgo hn, h1, e1, enV_w hl ⟨s2, s3⟩ hh]
theorem R_overYards {n : Nat} (hn : n = 4 ∨ n = 26) {h : hp} (hI : IR h) (S : ST n h) {s : Nat} (h0 : h 48 0 = (s : Int)) (hs : (s : Int) < h (n + 1) 0) {b : Nat} (hb : b < 4) {v : Int} (hv : 0 ≤ v ∧ v ≤ 9000) {m : Nat} (hm : m ≤ 400) : px_R (mm_Line_overYards, 0, [(2, 48), (2, (n : Int)), (0, v), (0, (b : Int)), (0, (m : Int)), (9, 0), (9, 0), (9, 0)], [], (K0, h)) = some (oyV (1000 - h (n + 13) (5 * s + 1 + b)) m v, (K0, h)) := by
  have hc := S.2.1 0 (by decide)
  have hl1 : lim 0 = 4 := rfl
  obtain ⟨s1, s2, s3⟩ := (S.2.2.2.2.2.1 s hs).2 b hb
  have e1 := R_Str_ofBand hn hI (x1 := 0) (x2 := (s : Int)) (x3 := (b : Int)) 0 s b rfl rfl rfl (by decide) (by omega)
  rw [show n + 13 + 0 = n + 13 from rfl, if_pos (Or.inl rfl)] at e1
  have u1 : -2147483648 ≤ 1000 - h (n + 13) (5 * s + 1 + b) ∧ 1000 - h (n + 13) (5 * s + 1 + b) < 2147483648 := by omega
  have l := R_oy_loop (q := 1000 - h (n + 13) (5 * s + 1 + b)) (by omega) hv hm 48 (n : Int) v (b : Int) (K0, h) m 0 (Nat.zero_add m)
  rw [eq_Line_overYards_0]
  simp only [px_rd_mk, px_wr_mk, Int.reduceToNat, Int.toNat_natCast, if_true, if_false, Option.bind_some, px_up_cell, px_up_slot, px_up_eq, ne_eq, Nat.reduceEqDiff, not_false_eq_true, Int.reduceEq, Int.reduceLT, Int.reduceLE, Int.reduceNeg, decide_true, decide_false, Bool.and_true, Bool.true_and, Bool.and_false, Bool.false_and, and_self, and_true, true_and, and_false, false_and, bi_T, bi_F, not_true_eq_false, Bool.false_eq_true, kg_48, sgo hn, h0, e1, px_w_n u1]
  exact l
/-- what comes to the tin behind so many ties, and through it -/
def coV (n : Nat) (h : hp) (s t y : Nat) (loud : Int) (b k : Nat) : Int := tsV h k (bdV n h b (h 48 4).toNat (oyV (1000 - h (n + 13) (5 * s + 1 + b)) y (enV loud (h (n + 14) (5 * t + b)) (hsV (bsV n h s) (h 48 3)))))
def lvV (n : Nat) (h : hp) (t : Nat) (b : Nat) (v : Int) : Int := tm (tsV h (h 48 6).toNat (bdV n h b (h 48 4).toNat v)) (h (n + 14) (5 * t + b)) 100
def arV (n : Nat) (h : hp) (s t y : Nat) (loud : Int) (b : Nat) : Int := lvV n h t b (oyV (1000 - h (n + 13) (5 * s + 1 + b)) y (enV loud (h (n + 14) (5 * t + b)) (hsV (bsV n h s) (h 48 3))))
theorem R_leaves {n : Nat} (hn : n = 4 ∨ n = 26) {h : hp} (hI : IR h) (S : ST n h) {mh : hp} (L : LBm n h mh) {t : Nat} (h1 : h 48 1 = (t : Int)) (ht : (t : Int) < h (n + 1) 1) {b : Nat} (hb : b < 4) {v : Int} (hv : 0 ≤ v ∧ v ≤ 9000) : px_R (mm_Line_leaves, 0, [(2, 48), (2, (n : Int)), (0, v), (0, (b : Int))], [], (K0, h)) = some (lvV n h t b v, (K0, h)) := by
  have hc := S.2.1 1 (by decide)
  have hl1 : lim 1 = 4 := rfl
  obtain ⟨s1, s2, s3⟩ := S.2.2.2.2.2.2.1 t ht b hb
  have e1 := R_Str_ofBand hn hI (x1 := 1) (x2 := (t : Int)) (x3 := (b : Int)) 1 t b rfl rfl rfl (by decide) (by omega)
  rw [show n + 13 + 1 = n + 14 from rfl, if_neg (by decide), show 5 * t + 0 + b = 5 * t + b from rfl] at e1
  obtain ⟨T, hT⟩ := Int.eq_ofNat_of_zero_le L.2.2.1.2.1
  obtain ⟨B, hB⟩ := Int.eq_ofNat_of_zero_le L.2.1.2.1
  have e2 := R_overBends hn hI S L hb hv (T := T) (by omega)
  have r := tsV_rng L (bdV_rng S L hb hv B (by omega)) T (by omega)
  have hB2 : (h 48 4).toNat = B := by omega
  have hT2 : (h 48 6).toNat = T := by omega
  rw [hB2] at e2
  rw [eq_Line_leaves_0]
  simp only [px_rd_mk, px_wr_mk, Int.reduceToNat, Int.toNat_natCast, if_true, if_false, Option.bind_some, px_up_cell, px_up_slot, px_up_eq, ne_eq, Nat.reduceEqDiff, not_false_eq_true, Int.reduceEq, Int.reduceLT, Int.reduceLE, Int.reduceNeg, decide_true, decide_false, Bool.and_true, Bool.true_and, Bool.and_false, Bool.false_and, and_self, and_true, true_and, and_false, false_and, bi_T, bi_F, not_true_eq_false, Bool.false_eq_true, kg_48, sgo hn, h1, hT, e2, e1, tm_w r s2 s3 (show (0 : Int) < 100 by decide) (by decide)]
  unfold lvV
  rw [hB2, hT2]
theorem en_rng {n : Nat} {h : hp} (S : ST n h) {mh : hp} (L : LBm n h mh) {s t : Nat} (ht : (t : Int) < h (n + 1) 1) {b : Nat} (hb : b < 4) {loud : Int} (hl : 0 ≤ loud ∧ loud ≤ 9) : 0 ≤ enV loud (h (n + 14) (5 * t + b)) (hsV (bsV n h s) (h 48 3)) ∧ enV loud (h (n + 14) (5 * t + b)) (hsV (bsV n h s) (h 48 3)) ≤ 9000 := by
  obtain ⟨s1, s2, s3⟩ := S.2.2.2.2.2.2.1 t ht b hb
  exact enV_rng hl ⟨s2, s3⟩ (hsV_rng L.1.2)
theorem oy_rng {n : Nat} {h : hp} (S : ST n h) {s : Nat} (hs : (s : Int) < h (n + 1) 0) {b : Nat} (hb : b < 4) {v : Int} (hv : 0 ≤ v ∧ v ≤ 9000) (m : Nat) : 0 ≤ oyV (1000 - h (n + 13) (5 * s + 1 + b)) m v ∧ oyV (1000 - h (n + 13) (5 * s + 1 + b)) m v ≤ 9000 := by
  obtain ⟨s1, s2, s3⟩ := (S.2.2.2.2.2.1 s hs).2 b hb
  exact oyV_rng ⟨by omega, by omega⟩ hv m
theorem R_arrives {n : Nat} (hn : n = 4 ∨ n = 26) {h : hp} (hI : IR h) (S : ST n h) {mh : hp} (L : LBm n h mh) {s t y : Nat} (h0 : h 48 0 = (s : Int)) (hs : (s : Int) < h (n + 1) 0) (h1 : h 48 1 = (t : Int)) (ht : (t : Int) < h (n + 1) 1) (h2 : h 48 2 = (y : Int)) (hy : y ≤ 400) {loud : Int} (hl : 0 ≤ loud ∧ loud ≤ 9) {b : Nat} (hb : b < 4) : px_R (mm_Line_arrives, 0, [(2, 48), (2, (n : Int)), (0, loud), (0, (b : Int))], [], (K0, h)) = some (arV n h s t y loud b, (K0, h)) := by
  have r1 := en_rng S L (s := s) ht hb hl
  have r2 := oy_rng S hs hb r1 y
  rw [eq_Line_arrives_0]
  simp only [px_rd_mk, px_wr_mk, Int.reduceToNat, Int.toNat_natCast, if_true, if_false, Option.bind_some, px_up_cell, px_up_slot, px_up_eq, ne_eq, Nat.reduceEqDiff, not_false_eq_true, Int.reduceEq, Int.reduceLT, Int.reduceLE, Int.reduceNeg, decide_true, decide_false, Bool.and_true, Bool.true_and, Bool.and_false, Bool.false_and, and_self, and_true, true_and, and_false, false_and, bi_T, bi_F, not_true_eq_false, Bool.false_eq_true, kg_48, R_handsOn hn hI S h0 hs L.1.2, R_enters hn hI S h1 ht hb hl (hsV_rng L.1.2), h2, R_overYards hn hI S h0 hs hb r1 hy, R_leaves hn hI S L h1 ht hb r2]
  rfl
theorem R_tiedOff {n : Nat} (hn : n = 4 ∨ n = 26) {h : hp} (hI : IR h) (S : ST n h) {mh : hp} (L : LBm n h mh) {s t y : Nat} (h0 : h 48 0 = (s : Int)) (hs : (s : Int) < h (n + 1) 0) (h1 : h 48 1 = (t : Int)) (ht : (t : Int) < h (n + 1) 1) (h2 : h 48 2 = (y : Int)) (hy : y ≤ 400) {loud : Int} (hl : 0 ≤ loud ∧ loud ≤ 9) {b : Nat} (hb : b < 4) {k : Nat} (hk : (k : Int) < h 48 6) : px_R (mm_Line_tiedOff, 0, [(2, 48), (2, (n : Int)), (0, (k : Int)), (0, loud), (0, (b : Int)), (9, 0)], [], (K0, h)) = some (tm (coV n h s t y loud b k) (h 50 k) 100, (K0, h)) := by
  have r1 := en_rng S L (s := s) ht hb hl
  have r2 := oy_rng S hs hb r1 y
  obtain ⟨B, hB⟩ := Int.eq_ofNat_of_zero_le L.2.1.2.1
  have hB2 : (h 48 4).toNat = B := by omega
  have r3 := tsV_rng L (bdV_rng S L hb r2 B (by omega)) k (by omega)
  have hT4 := L.2.2.1
  have hlt4 : ((k : Int) < 4) = True := by simp; omega
  have q := (L.2.2.2.2 k hk).2
  have e2 := R_overBends hn hI S L hb r2 (T := k) (by omega)
  rw [hB2] at e2
  rw [eq_Line_tiedOff_0]
  simp only [px_rd_mk, px_wr_mk, Int.reduceToNat, Int.toNat_natCast, if_true, if_false, Option.bind_some, px_up_cell, px_up_slot, px_up_eq, ne_eq, Nat.reduceEqDiff, not_false_eq_true, Int.reduceEq, Int.reduceLT, Int.reduceLE, Int.reduceNeg, decide_true, decide_false, Bool.and_true, Bool.true_and, Bool.and_false, Bool.false_and, and_self, and_true, true_and, and_false, false_and, bi_T, bi_F, not_true_eq_false, Bool.false_eq_true, kg_48, ka_50, R_handsOn hn hI S h0 hs L.1.2, R_enters hn hI S h1 ht hb hl (hsV_rng L.1.2), h2, R_overYards hn hI S h0 hs hb r1 hy, e2, ir_48_5 hI, ir_48_7 hI, hlt4, Int.natCast_nonneg, tm_w r3 q.1 q.2 (show (0 : Int) < 100 by decide) (by decide)]
  unfold coV
  rw [hB2]
