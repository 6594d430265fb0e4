/-! What comes through a line. -/
theorem some_c {a b : Int} {w : pw} (h : a = b) : (some (a, w) : Option pr) = some (b, w) := by rw [h]
def tm (v q d : Int) : Int := Int.tdiv (v * q) d
theorem tm_rng {v q d : Int} (hv : 0 ≤ v) (hq : 0 ≤ q) (hd : q ≤ d) (h0 : 0 < d) : 0 ≤ tm v q d ∧ tm v q d ≤ v := by
  have h1 : 0 ≤ v * q := Int.mul_nonneg hv hq
  have h2 : v * q ≤ v * d := Int.mul_le_mul_of_nonneg_left hd hv
  unfold tm
  rw [Int.tdiv_eq_ediv_of_nonneg h1]
  exact ⟨Int.ediv_nonneg h1 (by omega), Int.ediv_le_of_le_mul h0 h2⟩
theorem tm_w {v q d : Int} (hv : 0 ≤ v ∧ v ≤ 9000) (hq : 0 ≤ q) (hd : q ≤ d) (h0 : 0 < d) (hd2 : d ≤ 1000) : px_w (Int.tdiv (px_w (v * q)) d) = tm v q d := by
  have h1 : 0 ≤ v * q := Int.mul_nonneg hv.1 hq
  have h2 : v * q ≤ 9000 * 1000 := Int.le_trans (Int.mul_le_mul_of_nonneg_right hv.2 hq) (Int.mul_le_mul_of_nonneg_left (by omega) (by decide))
  have r := tm_rng hv.1 hq hd h0
  have u1 : -2147483648 ≤ v * q ∧ v * q < 2147483648 := by omega
  have u2 : -2147483648 ≤ tm v q d ∧ tm v q d < 2147483648 := by omega
  rw [px_w_n u1]
  exact px_w_n u2
def itr (f : Nat → Int → Int) : Nat → Int → Int
  | 0, v => v
  | k + 1, v => f k (itr f k v)
theorem itr_rng {f : Nat → Int → Int} {m : Nat} {M : Int} (hf : ∀ i v, i < m → 0 ≤ v → v ≤ M → 0 ≤ f i v ∧ f i v ≤ M) {v : Int} (hv : 0 ≤ v ∧ v ≤ M) : ∀ i, i ≤ m → 0 ≤ itr f i v ∧ itr f i v ≤ M
  | 0, _ => hv
  | i + 1, hi => by
    have := itr_rng hf hv i (by omega)
    exact hf i _ (by omega) this.1 this.2
def oyV (q : Int) (m : Nat) (v : Int) : Int := itr (fun _ v => tm v q 1000) m v
theorem oyV_rng {q : Int} (hq : 0 ≤ q ∧ q ≤ 1000) {v : Int} (hv : 0 ≤ v ∧ v ≤ 9000) (m : Nat) : 0 ≤ oyV q m v ∧ oyV q m v ≤ 9000 := by
  refine itr_rng (m := m) (fun i v _ h1 h2 => ?_) hv m (Nat.le_refl m)
  have := tm_rng h1 hq.1 hq.2 (by decide)
  omega
theorem oyV_zero (q : Int) {v : Int} {i : Nat} (h : oyV q i v = 0) : ∀ k, oyV q (i + k) v = 0
  | 0 => h
  | k + 1 => by
    show tm (oyV q (i + k) v) q 1000 = 0
    rw [oyV_zero q h k]
    unfold tm
    rw [Int.zero_mul]
    rfl
theorem R_oy_loop {q v : Int} (hq : 0 ≤ q ∧ q ≤ 1000) (hv : 0 ≤ v ∧ v ≤ 9000) {m : Nat} (hm : m ≤ 400) (x0 x1 x2 x3 : Int) (w : pw) (n : Nat) : ∀ i : Nat, i + n = m → px_R (mm_Line_overYards, 22, [(2, x0), (2, x1), (0, x2), (0, x3), (0, (m : Int)), (0, q), (0, oyV q i v), (0, (i : Int))], [], w) = some (oyV q m v, w) := by
  induction n with
  | zero =>
    intro i hi
    have : i = m := hi
    subst this
    rw [eq_Line_overYards_22, if_neg (Int.lt_irrefl _)]
  | succ n ih =>
    intro i hi
    have r := oyV_rng hq hv i
    have u3 : (i : Int) + 1 = ((i + 1 : Nat) : Int) := by omega
    have u1 : -2147483648 ≤ (i : Int) + 1 ∧ (i : Int) + 1 < 2147483648 := by omega
    rw [eq_Line_overYards_22, if_pos (by omega), tm_w r hq.1 hq.2 (by decide) (by decide), px_w_n u1, u3]
    exact ih (i + 1) (by omega)
/-- the bends and ties, the pull: what holds of them on both sides -/
def LBm (n : Nat) (h mh : hp) : Prop := (mh 123 27 = h 48 3 ∧ 0 ≤ h 48 3 ∧ h 48 3 ≤ 99)
  ∧ (mh 123 28 = h 48 4 ∧ 0 ≤ h 48 4 ∧ h 48 4 ≤ 4)
  ∧ (mh 123 29 = h 48 6 ∧ 0 ≤ h 48 6 ∧ h 48 6 ≤ 4)
  ∧ (∀ i : Nat, (i : Int) < h 48 4 → mh 135 i = h 49 i ∧ (h 49 i = -1 ∨ (0 ≤ h 49 i ∧ h 49 i < h (n + 1) 5)))
  ∧ (∀ i : Nat, (i : Int) < h 48 6 → mh 136 i = h 50 i ∧ 0 ≤ h 50 i ∧ h 50 i ≤ 100)
def LB (n : Nat) (h : hp) : Prop := LBm n h h
theorem LI_LB {n : Nat} {h : hp} (L : LI n h) : LB n h := L.2.2.2
/-- what is let by by bend i in a band -/
def lbV (n : Nat) (h : hp) (b i : Nat) : Int := if h 49 i = -1 then 0 else 100 - 10 * ((h (n + 18) (5 * (h 49 i).toNat) - h (n + 18) (5 * (h 49 i).toNat + 1 + b)).natAbs : Int)
def bdV (n : Nat) (h : hp) (b m : Nat) (v : Int) : Int := itr (fun i v => tm v (lbV n h b i) 100) m v
def tsV (h : hp) (m : Nat) (v : Int) : Int := itr (fun i v => tm v (100 - h 50 i) 100) m v
theorem lbV_rng {n : Nat} {h : hp} (S : ST n h) {mh : hp} (L : LBm n h mh) {b i : Nat} (hb : b < 4) (hi : (i : Int) < h 48 4) : 0 ≤ lbV n h b i ∧ lbV n h b i ≤ 100 := by
  unfold lbV
  by_cases e : h 49 i = -1
  · rw [if_pos e]; decide
  · rw [if_neg e]
    obtain ⟨q, hq⟩ := (L.2.2.2.1 i hi)
    have hq2 : 0 ≤ h 49 i ∧ h 49 i < h (n + 1) 5 := by omega
    obtain ⟨⟨s1, s2, s3⟩, s4⟩ := S.2.2.2.2.2.2.2.2.2.2 (h 49 i).toNat (by omega)
    obtain ⟨s5, s6, s7⟩ := s4 b hb
    omega
theorem bdV_rng {n : Nat} {h : hp} (S : ST n h) {mh : hp} (L : LBm n h mh) {b : Nat} (hb : b < 4) {v : Int} (hv : 0 ≤ v ∧ v ≤ 9000) (m : Nat) (hm : (m : Int) ≤ h 48 4) : 0 ≤ bdV n h b m v ∧ bdV n h b m v ≤ 9000 := by
  refine itr_rng (m := m) (fun i v hi h1 h2 => ?_) hv m (Nat.le_refl m)
  have r := lbV_rng S L hb (i := i) (by omega)
  have := tm_rng h1 r.1 r.2 (by decide)
  omega
theorem tsV_rng {n : Nat} {h : hp} {mh : hp} (L : LBm n h mh) {v : Int} (hv : 0 ≤ v ∧ v ≤ 9000) (m : Nat) (hm : (m : Int) ≤ h 48 6) : 0 ≤ tsV h m v ∧ tsV h m v ≤ 9000 := by
  refine itr_rng (m := m) (fun i v hi h1 h2 => ?_) hv m (Nat.le_refl m)
  have r := (L.2.2.2.2 i (by omega)).2
  have := tm_rng (q := 100 - h 50 i) h1 (by omega) (by omega) (show (0 : Int) < 100 by decide)
  omega
/-- what the string bears -/
def bsV (n : Nat) (h : hp) (s : Nat) : Int := px_mx 0 (Int.tdiv (h (n + 13) (5 * s) * (100 - h (n + 19) 0)) 100 - h (n + 20) 0)
theorem bs_pre {n : Nat} {h : hp} (S : ST n h) {s : Nat} (hs : (s : Int) < h (n + 1) 0) : (0 ≤ Int.tdiv (h (n + 13) (5 * s) * (100 - h (n + 19) 0)) 100 ∧ Int.tdiv (h (n + 13) (5 * s) * (100 - h (n + 19) 0)) 100 ≤ 99) ∧ (0 ≤ h (n + 20) 0 ∧ h (n + 20) 0 ≤ 50) ∧ (0 ≤ 100 - h (n + 19) 0 ∧ 100 - h (n + 19) 0 ≤ 100) ∧ (0 ≤ h (n + 13) (5 * s) ∧ h (n + 13) (5 * s) ≤ 99) := by
  obtain ⟨s1, s2, s3, s4, s5, s6, s7⟩ := S
  obtain ⟨⟨q1, q2, q3⟩, q4⟩ := s6 s hs
  have := tm_rng (v := h (n + 13) (5 * s)) (q := 100 - h (n + 19) 0) (d := 100) (by omega) (by omega) (by omega) (by decide)
  unfold tm at this
  omega
theorem bsV_rng {n : Nat} {h : hp} (S : ST n h) {s : Nat} (hs : (s : Int) < h (n + 1) 0) : 0 ≤ bsV n h s ∧ bsV n h s ≤ 99 := by
  have := bs_pre S hs
  unfold bsV px_mx
  split <;> omega
theorem R_strength {n : Nat} (hn : n = 4 ∨ n = 26) {h : hp} (hI : IR h) (S : ST n h) {s : Nat} (h0 : h 48 0 = (s : Int)) (hs : (s : Int) < h (n + 1) 0) : px_R (mm_Line_strength, 0, [(2, 48), (2, (n : Int)), (9, 0)], [], (K0, h)) = some (bsV n h s, (K0, h)) := by
  have hc := ST_n S (k := 0) (by decide)
  obtain ⟨p1, p2, p3, p4⟩ := bs_pre S hs
  have e1 := R_Str_number hn hI (x1 := 0) (x2 := (s : Int)) (x3 := 0) 0 s 0 rfl rfl rfl (by decide) (by omega)
  have e2 := R_Str_number hn hI (x1 := 6) (x2 := 0) (x3 := 0) 6 0 0 rfl rfl rfl (by decide) (by decide)
  have e3 := R_Str_number hn hI (x1 := 7) (x2 := 0) (x3 := 0) 7 0 0 rfl rfl rfl (by decide) (by decide)
  have u1 : -2147483648 ≤ 100 - h (n + 19) 0 ∧ 100 - h (n + 19) 0 < 2147483648 := by omega
  have u4 : -2147483648 ≤ Int.tdiv (h (n + 13) (5 * s) * (100 - h (n + 19) 0)) 100 - h (n + 20) 0 ∧ Int.tdiv (h (n + 13) (5 * s) * (100 - h (n + 19) 0)) 100 - h (n + 20) 0 < 2147483648 := by omega
  have t := tm_w (v := h (n + 13) (5 * s)) (q := 100 - h (n + 19) 0) (d := 100) (by omega) p3.1 p3.2 (by decide) (by decide)
  rw [eq_Line_strength_0]
  simp only [px_rd_mk, px_wr_mk, Int.reduceToNat, Int.toNat_natCast, if_true, if_false, Option.bind_some, px_up_cell, px_up_slot, px_up_eq, ne_eq, Nat.reduceEqDiff, not_false_eq_true, Int.reduceEq, Int.reduceLT, Int.reduceLE, Int.reduceNeg, decide_true, decide_false, Bool.and_true, Bool.true_and, Bool.and_false, Bool.false_and, and_self, and_true, true_and, and_false, false_and, bi_T, bi_F, not_true_eq_false, Bool.false_eq_true, kg_48, sgo hn, h0, e1, e2, e3]
  rw [show n + 13 + 6 = n + 19 from rfl, show n + 13 + 7 = n + 20 from rfl, px_w_n u1]
  rw [show n + 13 + 0 = n + 13 from rfl, show 5 * s + 0 = 5 * s from rfl, show 5 * 0 + 0 = 0 from rfl, t]
  unfold tm
  rw [px_w_n u4]
  rfl
theorem R_bearsOf {n : Nat} {c h : hp} (hI : IR h) (S : ST n c) (hm : ∀ a : Nat, 125 ≤ a → a < 135 → h a = c a) {s : Nat} (hs : (s : Int) < c (n + 1) 0) : px_R (mm_Mod_bearsOf, 0, [(2, 123), (0, (s : Int)), (9, 0)], [], (K0, h)) = some (bsV n c s, (K0, h)) := by
  have hc := ST_n S (k := 0) (by decide)
  obtain ⟨p1, p2, p3, p4⟩ := bs_pre S hs
  have hb1 : (decide ((0 : Int) ≤ ((5 * s : Nat) : Int)) && decide (((5 * s : Nat) : Int) < 40)) = true := by simp; omega
  have u0 : -2147483648 ≤ 5 * (s : Int) ∧ 5 * (s : Int) < 2147483648 := by omega
  have u1 : -2147483648 ≤ 100 - c (n + 19) 0 ∧ 100 - c (n + 19) 0 < 2147483648 := by omega
  have u4 : -2147483648 ≤ Int.tdiv (c (n + 13) (5 * s) * (100 - c (n + 19) 0)) 100 - c (n + 20) 0 ∧ Int.tdiv (c (n + 13) (5 * s) * (100 - c (n + 19) 0)) 100 - c (n + 20) 0 < 2147483648 := by omega
  have e5 : 5 * (s : Int) = ((5 * s : Nat) : Int) := by omega
  have t := tm_w (v := c (n + 13) (5 * s)) (q := 100 - c (n + 19) 0) (d := 100) (by omega) p3.1 p3.2 (by decide) (by decide)
  have w0 : px_w (5 * (s : Int)) = ((5 * s : Nat) : Int) := (px_w_n u0).trans e5
  rw [eq_Mod_bearsOf_0]
  simp only [px_rd_mk, px_wr_mk, Int.reduceToNat, Int.toNat_natCast, if_true, if_false, Option.bind_some, px_up_cell, px_up_slot, px_up_eq, ne_eq, Nat.reduceEqDiff, not_false_eq_true, Int.reduceEq, Int.reduceLT, Int.reduceLE, Int.reduceNeg, decide_true, decide_false, Bool.and_true, Bool.true_and, Bool.and_false, Bool.false_and, and_self, and_true, true_and, and_false, false_and, bi_T, bi_F, not_true_eq_false, Bool.false_eq_true, kg_123, ka_125, ka_127, ir_123_0 hI, ir_123_12 hI, ir_123_13 hI, ir_123_14 hI, ir_123_15 hI, ir_123_16 hI, ir_123_17 hI, ir_123_18 hI, ir_123_19 hI, ir_123_20 hI, ir_123_21 hI, ir_123_30 hI, ir_123_31 hI, ir_123_32 hI, ir_123_33 hI, ir_123_34 hI, ir_123_35 hI, ir_123_36 hI, ir_123_37 hI, ir_123_38 hI, ir_123_39 hI, ir_123_41 hI, ir_123_42 hI, ir_123_44 hI, ir_123_45 hI, ir_123_46 hI, ir_123_50 hI, ir_123_54 hI, ir_123_55 hI, ir_123_56 hI, ir_123_57 hI, ir_123_58 hI, ir_123_59 hI, ir_123_60 hI, ir_123_61 hI, ir_123_62 hI, hm 125 (by decide) (by decide), hm 127 (by decide) (by decide), w0, hb1, S.2.2.1.1, S.2.2.2.1.1, (S.2.2.2.2.2.1 s hs).1.1, px_w_n u1, t]
  unfold tm
  rw [px_w_n u4]
  unfold bsV px_mx
  (repeat' split) <;> first | rfl | (exfalso; omega) | exact some_c (by omega)
def hsV (bs p : Int) : Int := if p = 0 then 0 else if bs < p then 0 else if 2 * p < bs then Int.tdiv (200 * p) bs else 100
theorem hs_pre {bs p : Int} (hp : 0 ≤ p ∧ p ≤ 99) (hb : 2 * p < bs) : 0 ≤ Int.tdiv (200 * p) bs ∧ Int.tdiv (200 * p) bs ≤ 100 := by
  rw [Int.tdiv_eq_ediv_of_nonneg (by omega)]
  exact ⟨Int.ediv_nonneg (by omega) (by omega), Int.ediv_le_of_le_mul (by omega) (by omega)⟩
theorem hsV_rng {bs p : Int} (hp : 0 ≤ p ∧ p ≤ 99) : 0 ≤ hsV bs p ∧ hsV bs p ≤ 100 := by
  unfold hsV
  (repeat' split) <;> first | decide | exact hs_pre hp (by assumption)
theorem R_handsOn {n : Nat} (hn : n = 4 ∨ n = 26) {h : hp} (hI : IR h) (S : ST n h) {s : Nat} (h0 : h 48 0 = (s : Int)) (hs : (s : Int) < h (n + 1) 0) (hp : 0 ≤ h 48 3 ∧ h 48 3 ≤ 99) : px_R (mm_Line_handsOn, 0, [(2, 48), (2, (n : Int)), (9, 0)], [], (K0, h)) = some (hsV (bsV n h s) (h 48 3), (K0, h)) := by
  have r := bsV_rng S hs
  have u1 : -2147483648 ≤ 2 * h 48 3 ∧ 2 * h 48 3 < 2147483648 := by omega
  have u2 : -2147483648 ≤ 200 * h 48 3 ∧ 200 * h 48 3 < 2147483648 := by omega
  rw [eq_Line_handsOn_0]
  simp only [px_rd_mk, px_wr_mk, Int.reduceToNat, Int.toNat_natCast, if_true, if_false, Option.bind_some, px_up_cell, px_up_slot, px_up_eq, ne_eq, Nat.reduceEqDiff, not_false_eq_true, Int.reduceEq, Int.reduceLT, Int.reduceLE, Int.reduceNeg, decide_true, decide_false, Bool.and_true, Bool.true_and, Bool.and_false, Bool.false_and, and_self, and_true, true_and, and_false, false_and, bi_T, bi_F, not_true_eq_false, Bool.false_eq_true, kg_48, R_strength hn hI S h0 hs, px_w_n u1, px_w_n u2]
  unfold hsV
  by_cases e1 : h 48 3 = 0
  · rw [if_pos e1, if_pos e1]
  · rw [if_neg e1, if_neg e1]
    by_cases e2 : bsV n h s < h 48 3
    · rw [if_pos e2, if_pos e2]
    · rw [if_neg e2, if_neg e2]
      by_cases e3 : 2 * h 48 3 < bsV n h s
      · have e4 : ¬ bsV n h s = 0 := by omega
        have r3 := hs_pre hp e3
        have u5 : -2147483648 ≤ Int.tdiv (200 * h 48 3) (bsV n h s) ∧ Int.tdiv (200 * h 48 3) (bsV n h s) < 2147483648 := by omega
        rw [if_pos e3, if_pos e3, if_pos (by simp [e4]), px_w_n u5]
      · rw [if_neg e3, if_neg e3]
theorem R_handsOf {n : Nat} {c h : hp} (hI : IR h) (S : ST n c) (hm : ∀ a : Nat, 125 ≤ a → a < 135 → h a = c a) {s : Nat} (hs : (s : Int) < c (n + 1) 0) (hp : h 123 27 = c 48 3 ∧ 0 ≤ c 48 3 ∧ c 48 3 ≤ 99) : px_R (mm_Mod_handsOf, 0, [(2, 123), (0, (s : Int)), (9, 0)], [], (K0, h)) = some (hsV (bsV n c s) (c 48 3), (K0, h)) := by
  have r := bsV_rng S hs
  have u1 : -2147483648 ≤ 2 * c 48 3 ∧ 2 * c 48 3 < 2147483648 := by omega
  have u2 : -2147483648 ≤ 200 * c 48 3 ∧ 200 * c 48 3 < 2147483648 := by omega
  rw [eq_Mod_handsOf_0]
  simp only [px_rd_mk, px_wr_mk, Int.reduceToNat, Int.toNat_natCast, if_true, if_false, Option.bind_some, px_up_cell, px_up_slot, px_up_eq, ne_eq, Nat.reduceEqDiff, not_false_eq_true, Int.reduceEq, Int.reduceLT, Int.reduceLE, Int.reduceNeg, decide_true, decide_false, Bool.and_true, Bool.true_and, Bool.and_false, Bool.false_and, and_self, and_true, true_and, and_false, false_and, bi_T, bi_F, not_true_eq_false, Bool.false_eq_true, kg_123, R_bearsOf hI S hm hs, hp.1, px_w_n u1, px_w_n u2]
  unfold hsV
  by_cases e1 : c 48 3 = 0
  · rw [if_pos e1, if_pos e1]
  · rw [if_neg e1, if_neg e1]
    by_cases e2 : bsV n c s < c 48 3
    · rw [if_pos e2, if_pos e2]
    · rw [if_neg e2, if_neg e2]
      by_cases e3 : 2 * c 48 3 < bsV n c s
      · have e4 : ¬ bsV n c s = 0 := by omega
        have r3 := hs_pre hp.2 e3
        have u5 : -2147483648 ≤ Int.tdiv (200 * c 48 3) (bsV n c s) ∧ Int.tdiv (200 * c 48 3) (bsV n c s) < 2147483648 := by omega
        rw [if_pos e3, if_pos e3, if_pos (by simp [e4]), px_w_n u5]
      · rw [if_neg e3, if_neg e3]
