/-! Yards between houses. -/
def btw (v e : Int) : Prop := px_mn 0 e ≤ v ∧ v ≤ px_mx 0 e
theorem btw_iff (v e : Int) : btw v e ↔ v * (v - e) ≤ 0 := by
  unfold btw px_mn px_mx
  constructor
  · rintro ⟨h1, h2⟩
    by_cases he : e < 0
    · rw [if_pos he] at h1
      rw [if_neg (by omega)] at h2
      exact Int.mul_nonpos_of_nonpos_of_nonneg h2 (by omega)
    · rw [if_neg he] at h1
      by_cases h0 : 0 < e
      · rw [if_pos h0] at h2
        exact Int.mul_nonpos_of_nonneg_of_nonpos h1 (by omega)
      · rw [if_neg h0] at h2
        have : v = 0 := by omega
        subst this
        omega
  · intro h
    by_cases a : v < 0 ∧ v < e
    · have := Int.mul_pos_of_neg_of_neg a.1 (show v - e < 0 by omega)
      omega
    · by_cases b : 0 < v ∧ e < v
      · have := Int.mul_pos b.1 (show 0 < v - e by omega)
        omega
      · (repeat' split) <;> omega
theorem bar_iff (u v d e : Int) : (u * e = v * d ∧ btw u d ∧ btw v e) ↔ (u * (v - e) = v * (u - d) ∧ u * (u - d) + v * (v - e) ≤ 0) := by
  rw [btw_iff, btw_iff]
  have c : u * (v - e) = v * (u - d) ↔ u * e = v * d := by grind
  rw [c]
  constructor
  · rintro ⟨h1, h2, h3⟩
    exact ⟨h1, by omega⟩
  · rintro ⟨h1, h2⟩
    have p : (u * (u - d)) * (v * (v - e)) = (u * (v - e)) * (u * (v - e)) := by grind
    have q : 0 ≤ (u * (v - e)) * (u * (v - e)) := by
      rcases Int.le_total 0 (u * (v - e)) with z | z
      · exact Int.mul_nonneg z z
      · exact Int.mul_nonneg_of_nonpos_of_nonpos z z
    rw [← p] at q
    generalize u * (u - d) = S at *
    generalize v * (v - e) = T at *
    refine ⟨h1, ?_, ?_⟩
    · rcases Int.lt_or_le 0 S with z | z
      · have := Int.mul_neg_of_pos_of_neg z (show T < 0 by omega)
        omega
      · exact z
    · rcases Int.lt_or_le 0 T with z | z
      · have := Int.mul_neg_of_neg_of_pos (show S < 0 by omega) z
        omega
      · exact z
def btb (v e : Int) : Bool := decide (px_mn 0 e ≤ v) && decide (v ≤ px_mx 0 e)
theorem btb_iff (v e : Int) : btb v e = true ↔ btw v e := by
  unfold btb btw
  simp
theorem R_isBetween (v e : Int) (w : pw) : px_R (mm_Wish_isBetween, 0, [(0, v), (0, e)], [], w) = some (if btb v e = true then 1 else 0, w) := by
  rw [eq_Wish_isBetween_0]
  by_cases h1 : v < px_mn 0 e
  · rw [if_pos h1, if_neg (fun q => by have := (btb_iff v e).mp q; unfold btw at this; omega)]
  · rw [if_neg h1]
    by_cases h2 : px_mx 0 e < v
    · rw [if_pos h2, if_neg (fun q => by have := (btb_iff v e).mp q; unfold btw at this; omega)]
    · rw [if_neg h2, if_pos ((btb_iff v e).mpr ⟨by omega, by omega⟩)]
/-- post p bars houses a and b -/
def brd (n : Nat) (h : hp) (a b p : Nat) : Bool := decide ((h (n + 17) (5 * p) - h (n + 16) (5 * a)) * (h (n + 16) (5 * b + 1) - h (n + 16) (5 * a + 1)) = (h (n + 17) (5 * p + 1) - h (n + 16) (5 * a + 1)) * (h (n + 16) (5 * b) - h (n + 16) (5 * a))) && (btb (h (n + 17) (5 * p) - h (n + 16) (5 * a)) (h (n + 16) (5 * b) - h (n + 16) (5 * a)) && btb (h (n + 17) (5 * p + 1) - h (n + 16) (5 * a + 1)) (h (n + 16) (5 * b + 1) - h (n + 16) (5 * a + 1)))
/-- whether one of so many from i on -/
def anf (f : Nat → Bool) : Nat → Nat → Bool
  | _, 0 => false
  | i, k + 1 => f i || anf f (i + 1) k
def yrd (sq : Int) : Nat → Nat → Int
  | i, 0 => (i : Int)
  | i, k + 1 => if ((i * i : Nat) : Int) < sq then yrd sq (i + 1) k else (i : Int)
def sqV (n : Nat) (h : hp) (a b : Nat) : Int := (h (n + 16) (5 * b) - h (n + 16) (5 * a)) * (h (n + 16) (5 * b) - h (n + 16) (5 * a)) + (h (n + 16) (5 * b + 1) - h (n + 16) (5 * a + 1)) * (h (n + 16) (5 * b + 1) - h (n + 16) (5 * a + 1))
theorem sq_rng {d : Int} (h : -99 ≤ d ∧ d ≤ 99) : 0 ≤ d * d ∧ d * d ≤ 9801 := by
  constructor
  · rcases Int.le_total 0 d with z | z
    · exact Int.mul_nonneg z z
    · exact Int.mul_nonneg_of_nonpos_of_nonpos z z
  · have h1 : 0 ≤ (99 - d) * (99 + d) := Int.mul_nonneg (by omega) (by omega)
    have h2 : (99 - d) * (99 + d) = 9801 - d * d := by grind
    omega
theorem mu_rng {d e : Int} (h : -99 ≤ d ∧ d ≤ 99) (h2 : -99 ≤ e ∧ e ≤ 99) : -9801 ≤ d * e ∧ d * e ≤ 9801 := by
  have a1 := sq_rng h
  have a2 := sq_rng h2
  have a3 : 0 ≤ (d - e) * (d - e) := by
    rcases Int.le_total 0 (d - e) with z | z
    · exact Int.mul_nonneg z z
    · exact Int.mul_nonneg_of_nonpos_of_nonpos z z
  have a4 : 0 ≤ (d + e) * (d + e) := by
    rcases Int.le_total 0 (d + e) with z | z
    · exact Int.mul_nonneg z z
    · exact Int.mul_nonneg_of_nonpos_of_nonpos z z
  have b1 : (d - e) * (d - e) = d * d - 2 * (d * e) + e * e := by grind
  have b2 : (d + e) * (d + e) = d * d + 2 * (d * e) + e * e := by grind
  omega
theorem px_ww {d e : Int} (h : -99 ≤ d ∧ d ≤ 99) (h2 : -99 ≤ e ∧ e ≤ 99) : px_w (px_w d * px_w e) = d * e := by
  have a := mu_rng h h2
  have u1 : -2147483648 ≤ d ∧ d < 2147483648 := by omega
  have u2 : -2147483648 ≤ e ∧ e < 2147483648 := by omega
  have u3 : -2147483648 ≤ d * e ∧ d * e < 2147483648 := by omega
  rw [px_w_n u1, px_w_n u2, px_w_n u3]
theorem ii_w {i : Nat} (hi : i ≤ 141) : px_w ((i : Int) * (i : Int)) = ((i * i : Nat) : Int) := by
  have : i * i ≤ 141 * 141 := Nat.mul_le_mul hi hi
  rw [← Int.natCast_mul, px_w_id (by omega) (by omega)]
theorem apart_sq {sq : Int} (x0 x1 x2 x3 x4 x5 x6 : Int) (y9 y10 : pv) (w : pw) (k : Nat) : ∀ i : Nat, i + k = 141 → px_R (mm_Wish_apart, 163, [(2, x0), (0, x1), (0, x2), (0, x3), (0, x4), (0, x5), (0, x6), (0, sq), (0, (i : Int)), y9, y10], [], w) = some (yrd sq i k, w) := by
  induction k with
  | zero =>
    intro i hi
    have : i = 141 := hi
    subst this
    rw [eq_Wish_apart_163, if_neg (by decide)]
    rfl
  | succ k ih =>
    intro i hi
    rw [eq_Wish_apart_163, if_pos (by omega), ii_w (by omega), px_w_s (by omega), ih (i + 1) (by omega), yrd]
    split <;> rfl
theorem yardsOf_sq {dx dy : Int} (hd : -99 ≤ dx ∧ dx ≤ 99) (he : -99 ≤ dy ∧ dy ≤ 99) (x0 x1 x2 : Int) (w : pw) (k : Nat) : ∀ i : Nat, i + k = 141 → px_R (mm_Mod_yardsOf, 32, [(2, x0), (0, x1), (0, x2), (0, dx), (0, dy), (0, (i : Int))], [], w) = some (yrd (dx * dx + dy * dy) i k, w) := by
  have a := sq_rng hd
  have b := sq_rng he
  have u1 : -2147483648 ≤ dx * dx ∧ dx * dx < 2147483648 := by omega
  have u2 : -2147483648 ≤ dy * dy ∧ dy * dy < 2147483648 := by omega
  have u3 : -2147483648 ≤ dx * dx + dy * dy ∧ dx * dx + dy * dy < 2147483648 := by omega
  induction k with
  | zero =>
    intro i hi
    have : i = 141 := hi
    subst this
    rw [eq_Mod_yardsOf_32, ii_w (by decide), px_w_n u1, px_w_n u2, px_w_n u3, if_neg (by omega)]
    rfl
  | succ k ih =>
    intro i hi
    rw [eq_Mod_yardsOf_32, ii_w (by omega), px_w_n u1, px_w_n u2, px_w_n u3, px_w_s (by omega), ih (i + 1) (by omega), yrd]
    split <;> rfl
theorem ho_rng {n : Nat} {h : hp} (S : ST n h) {a b : Nat} (ha : (a : Int) < h (n + 1) 3) (hb : (b : Int) < h (n + 1) 3) : (-99 ≤ h (n + 16) (5 * b) - h (n + 16) (5 * a) ∧ h (n + 16) (5 * b) - h (n + 16) (5 * a) ≤ 99) ∧ (-99 ≤ h (n + 16) (5 * b + 1) - h (n + 16) (5 * a + 1) ∧ h (n + 16) (5 * b + 1) - h (n + 16) (5 * a + 1) ≤ 99) := by
  obtain ⟨a1, a2⟩ := S.2.2.2.2.2.2.2.2.1 a ha
  obtain ⟨b1, b2⟩ := S.2.2.2.2.2.2.2.2.1 b hb
  omega
theorem po_rng {n : Nat} {h : hp} (S : ST n h) {a p : Nat} (ha : (a : Int) < h (n + 1) 3) (hp : (p : Int) < h (n + 1) 4) : (-99 ≤ h (n + 17) (5 * p) - h (n + 16) (5 * a) ∧ h (n + 17) (5 * p) - h (n + 16) (5 * a) ≤ 99) ∧ (-99 ≤ h (n + 17) (5 * p + 1) - h (n + 16) (5 * a + 1) ∧ h (n + 17) (5 * p + 1) - h (n + 16) (5 * a + 1) ≤ 99) := by
  obtain ⟨a1, a2⟩ := S.2.2.2.2.2.2.2.2.1 a ha
  obtain ⟨b1, b2⟩ := S.2.2.2.2.2.2.2.2.2.1 p hp
  omega
theorem sqV_rng {n : Nat} {h : hp} (S : ST n h) {a b : Nat} (ha : (a : Int) < h (n + 1) 3) (hb : (b : Int) < h (n + 1) 3) : 0 ≤ sqV n h a b ∧ sqV n h a b ≤ 19602 := by
  have r := ho_rng S ha hb
  have r1 := sq_rng r.1
  have r2 := sq_rng r.2
  unfold sqV
  omega
/-- yards of the string between two houses, or -1 -/
def apV (n : Nat) (h : hp) (a b : Nat) : Int := if anf (brd n h a b) 0 (h (n + 1) 4).toNat = true then -1 else yrd (sqV n h a b) 0 141
theorem apart_loop {n : Nat} (hn : n = 4 ∨ n = 26) {h : hp} (hI : IR h) (S : ST n h) {a b : Nat} (ha : (a : Int) < h (n + 1) 3) (hb : (b : Int) < h (n + 1) 3) {P : Nat} (hP : h (n + 1) 4 = (P : Int)) (k : Nat) : ∀ i : Nat, i + k = P → ∀ y8 y9 y10 : pv, px_R (mm_Wish_apart, 38, [(2, (n : Int)), (0, (a : Int)), (0, (b : Int)), (0, h (n + 16) (5 * a)), (0, h (n + 16) (5 * a + 1)), (0, h (n + 16) (5 * b)), (0, h (n + 16) (5 * b + 1)), (0, (i : Int)), y8, y9, y10], [], (K0, h)) = some (if anf (brd n h a b) i k = true then -1 else yrd (sqV n h a b) 0 141, (K0, h)) := by
  have c4 := ST_n S (k := 4) (by decide)
  have c44 := (S.2.1 4 (by decide)).2.2
  have l4 : lim 4 = 4 := rfl
  have rh := ho_rng S ha hb
  induction k with
  | zero =>
    intro i hi y8 y9 y10
    have : i = P := hi
    subst this
    have hlt : ((i : Int) < (i : Int)) = False := eq_false (by omega)
    have q1 := sq_rng rh.1
    have q2 := sq_rng rh.2
    have u3 : -2147483648 ≤ (h (n + 16) (5 * b) - h (n + 16) (5 * a)) * (h (n + 16) (5 * b) - h (n + 16) (5 * a)) + (h (n + 16) (5 * b + 1) - h (n + 16) (5 * a + 1)) * (h (n + 16) (5 * b + 1) - h (n + 16) (5 * a + 1)) ∧ (h (n + 16) (5 * b) - h (n + 16) (5 * a)) * (h (n + 16) (5 * b) - h (n + 16) (5 * a)) + (h (n + 16) (5 * b + 1) - h (n + 16) (5 * a + 1)) * (h (n + 16) (5 * b + 1) - h (n + 16) (5 * a + 1)) < 2147483648 := by omega
    have u1 : -2147483648 ≤ (h (n + 16) (5 * b) - h (n + 16) (5 * a)) * (h (n + 16) (5 * b) - h (n + 16) (5 * a)) ∧ (h (n + 16) (5 * b) - h (n + 16) (5 * a)) * (h (n + 16) (5 * b) - h (n + 16) (5 * a)) < 2147483648 := by omega
    have u2 : -2147483648 ≤ (h (n + 16) (5 * b + 1) - h (n + 16) (5 * a + 1)) * (h (n + 16) (5 * b + 1) - h (n + 16) (5 * a + 1)) ∧ (h (n + 16) (5 * b + 1) - h (n + 16) (5 * a + 1)) * (h (n + 16) (5 * b + 1) - h (n + 16) (5 * a + 1)) < 2147483648 := by omega
    have ap := apart_sq (sq := sqV n h a b) (n : Int) (a : Int) (b : Int) (h (n + 16) (5 * a)) (h (n + 16) (5 * a + 1)) (h (n + 16) (5 * b)) (h (n + 16) (5 * b + 1)) y9 y10 (K0, h) 141 0 rfl
    rw [eq_Wish_apart_38]
    simp only [px_rd_mk, px_wr_mk, Int.reduceToNat, Int.toNat_natCast, if_true, if_false, Option.bind_some, px_up_cell, px_up_slot, px_up_eq, ne_eq, Nat.reduceEqDiff, not_false_eq_true, Int.reduceEq, Int.reduceLT, Int.reduceLE, Int.reduceNeg, decide_true, decide_false, Bool.and_true, Bool.true_and, Bool.and_false, Bool.false_and, and_self, and_true, true_and, and_false, false_and, bi_T, bi_F, not_true_eq_false, Bool.false_eq_true, sgo hn, sr1 hn hI, sga1 hn, hP, hlt, px_ww rh.1 rh.1, px_ww rh.2 rh.2, px_w_n u3]
    rw [anf, if_neg (by decide)]
    exact ap
  | succ k ih =>
    intro i hi y8 y9 y10
    have hi4 : (i : Int) < h (n + 1) 4 := by omega
    have hlt : ((i : Int) < (P : Int)) = True := eq_true (by omega)
    have rp := po_rng S ha hi4
    have e1 := R_Str_number hn hI (x1 := 4) (x2 := (i : Int)) (x3 := 0) 4 i 0 rfl rfl rfl (by decide) (by omega)
    have e2 := R_Str_number hn hI (x1 := 4) (x2 := (i : Int)) (x3 := 1) 4 i 1 rfl rfl rfl (by decide) (by omega)
    rw [show n + 13 + 4 = n + 17 from rfl] at e1 e2
    rw [show 5 * i + 0 = 5 * i from rfl] at e1
    have u1 : -2147483648 ≤ h (n + 17) (5 * i) - h (n + 16) (5 * a) ∧ h (n + 17) (5 * i) - h (n + 16) (5 * a) < 2147483648 := by omega
    have u2 : -2147483648 ≤ h (n + 17) (5 * i + 1) - h (n + 16) (5 * a + 1) ∧ h (n + 17) (5 * i + 1) - h (n + 16) (5 * a + 1) < 2147483648 := by omega
    have u3 : -2147483648 ≤ h (n + 16) (5 * b) - h (n + 16) (5 * a) ∧ h (n + 16) (5 * b) - h (n + 16) (5 * a) < 2147483648 := by omega
    have u4 : -2147483648 ≤ h (n + 16) (5 * b + 1) - h (n + 16) (5 * a + 1) ∧ h (n + 16) (5 * b + 1) - h (n + 16) (5 * a + 1) < 2147483648 := by omega
    rw [eq_Wish_apart_38]
    simp only [px_rd_mk, px_wr_mk, Int.reduceToNat, Int.toNat_natCast, if_true, if_false, Option.bind_some, px_up_cell, px_up_slot, px_up_eq, ne_eq, Nat.reduceEqDiff, not_false_eq_true, Int.reduceEq, Int.reduceLT, Int.reduceLE, Int.reduceNeg, decide_true, decide_false, Bool.and_true, Bool.true_and, Bool.and_false, Bool.false_and, and_self, and_true, true_and, and_false, false_and, bi_T, bi_F, not_true_eq_false, Bool.false_eq_true, sgo hn, sr1 hn hI, sga1 hn, hP, hlt, e1, e2, px_ww rp.1 rh.2, px_ww rp.2 rh.1]
    rw [eq_Wish_apart_97, eq_Wish_apart_97]
    simp only [px_rd_mk, px_wr_mk, Int.reduceToNat, Int.toNat_natCast, if_true, if_false, Option.bind_some, px_up_cell, px_up_slot, px_up_eq, ne_eq, Nat.reduceEqDiff, not_false_eq_true, Int.reduceEq, Int.reduceLT, Int.reduceLE, Int.reduceNeg, decide_true, decide_false, Bool.and_true, Bool.true_and, Bool.and_false, Bool.false_and, and_self, and_true, true_and, and_false, false_and, bi_T, bi_F, not_true_eq_false, Bool.false_eq_true, px_w_n u1, px_w_n u2, px_w_n u3, px_w_n u4, R_isBetween, px_w_s (show i < 1000000 by omega), ih (i + 1) (by omega)]
    have eb : brd n h a b i = (decide ((h (n + 17) (5 * i) - h (n + 16) (5 * a)) * (h (n + 16) (5 * b + 1) - h (n + 16) (5 * a + 1)) = (h (n + 17) (5 * i + 1) - h (n + 16) (5 * a + 1)) * (h (n + 16) (5 * b) - h (n + 16) (5 * a))) && (btb (h (n + 17) (5 * i) - h (n + 16) (5 * a)) (h (n + 16) (5 * b) - h (n + 16) (5 * a)) && btb (h (n + 17) (5 * i + 1) - h (n + 16) (5 * a + 1)) (h (n + 16) (5 * b + 1) - h (n + 16) (5 * a + 1)))) := rfl
    rw [anf, eb]
    by_cases c1 : (h (n + 17) (5 * i) - h (n + 16) (5 * a)) * (h (n + 16) (5 * b + 1) - h (n + 16) (5 * a + 1)) = (h (n + 17) (5 * i + 1) - h (n + 16) (5 * a + 1)) * (h (n + 16) (5 * b) - h (n + 16) (5 * a))
    · rw [if_pos c1, decide_eq_true c1, Bool.true_and]
      cases d1 : btb (h (n + 17) (5 * i) - h (n + 16) (5 * a)) (h (n + 16) (5 * b) - h (n + 16) (5 * a))
      · simp only [px_rd_mk, px_wr_mk, Int.reduceToNat, Int.toNat_natCast, if_true, if_false, Option.bind_some, px_up_cell, px_up_slot, px_up_eq, ne_eq, Nat.reduceEqDiff, not_false_eq_true, Int.reduceEq, Int.reduceLT, Int.reduceLE, Int.reduceNeg, decide_true, decide_false, Bool.and_true, Bool.true_and, Bool.and_false, Bool.false_and, and_self, and_true, true_and, and_false, false_and, bi_T, bi_F, not_true_eq_false, Bool.false_eq_true, Bool.false_or]
      · cases d2 : btb (h (n + 17) (5 * i + 1) - h (n + 16) (5 * a + 1)) (h (n + 16) (5 * b + 1) - h (n + 16) (5 * a + 1))
        · simp only [px_rd_mk, px_wr_mk, Int.reduceToNat, Int.toNat_natCast, if_true, if_false, Option.bind_some, px_up_cell, px_up_slot, px_up_eq, ne_eq, Nat.reduceEqDiff, not_false_eq_true, Int.reduceEq, Int.reduceLT, Int.reduceLE, Int.reduceNeg, decide_true, decide_false, Bool.and_true, Bool.true_and, Bool.and_false, Bool.false_and, and_self, and_true, true_and, and_false, false_and, bi_T, bi_F, not_true_eq_false, Bool.false_eq_true, Bool.false_or]
        · simp only [px_rd_mk, px_wr_mk, Int.reduceToNat, Int.toNat_natCast, if_true, if_false, Option.bind_some, px_up_cell, px_up_slot, px_up_eq, ne_eq, Nat.reduceEqDiff, not_false_eq_true, Int.reduceEq, Int.reduceLT, Int.reduceLE, Int.reduceNeg, decide_true, decide_false, Bool.and_true, Bool.true_and, Bool.and_false, Bool.false_and, and_self, and_true, true_and, and_false, false_and, bi_T, bi_F, not_true_eq_false, Bool.false_eq_true, Bool.true_or]
    · rw [if_neg c1, decide_eq_false c1, Bool.false_and, Bool.false_or]
theorem R_apart {n : Nat} (hn : n = 4 ∨ n = 26) {h : hp} (hI : IR h) (S : ST n h) {a b : Nat} (ha : (a : Int) < h (n + 1) 3) (hb : (b : Int) < h (n + 1) 3) : px_R (mm_Wish_apart, 0, [(2, (n : Int)), (0, (a : Int)), (0, (b : Int)), (9, 0), (9, 0), (9, 0), (9, 0), (9, 0), (9, 0), (9, 0), (9, 0)], [], (K0, h)) = some (apV n h a b, (K0, h)) := by
  have c3 := ST_n S (k := 3) (by decide)
  have c33 := (S.2.1 3 (by decide)).2.2
  have l3 : lim 3 = 5 := rfl
  have c4 := ST_n S (k := 4) (by decide)
  obtain ⟨P, hP⟩ := Int.eq_ofNat_of_zero_le c4.2.1
  have e1 := R_Str_number hn hI (x1 := 3) (x2 := (a : Int)) (x3 := 0) 3 a 0 rfl rfl rfl (by decide) (by omega)
  have e2 := R_Str_number hn hI (x1 := 3) (x2 := (a : Int)) (x3 := 1) 3 a 1 rfl rfl rfl (by decide) (by omega)
  have e3 := R_Str_number hn hI (x1 := 3) (x2 := (b : Int)) (x3 := 0) 3 b 0 rfl rfl rfl (by decide) (by omega)
  have e4 := R_Str_number hn hI (x1 := 3) (x2 := (b : Int)) (x3 := 1) 3 b 1 rfl rfl rfl (by decide) (by omega)
  rw [show n + 13 + 3 = n + 16 from rfl] at e1 e2 e3 e4
  rw [show 5 * a + 0 = 5 * a from rfl] at e1
  rw [show 5 * b + 0 = 5 * b from rfl] at e3
  have l := apart_loop hn hI S ha hb hP P 0 (Nat.zero_add P) (9, 0) (9, 0) (9, 0)
  have hP2 : (h (n + 1) 4).toNat = P := by omega
  rw [eq_Wish_apart_0]
  simp only [px_rd_mk, px_wr_mk, Int.reduceToNat, Int.toNat_natCast, if_true, if_false, Option.bind_some, px_up_cell, px_up_slot, px_up_eq, ne_eq, Nat.reduceEqDiff, not_false_eq_true, Int.reduceEq, Int.reduceLT, Int.reduceLE, Int.reduceNeg, decide_true, decide_false, Bool.and_true, Bool.true_and, Bool.and_false, Bool.false_and, and_self, and_true, true_and, and_false, false_and, bi_T, bi_F, not_true_eq_false, Bool.false_eq_true, sgo hn, e1, e2, e3, e4]
  unfold apV
  rw [hP2]
  exact l
theorem brd_m {n : Nat} {h : hp} {a b p : Nat} : brd n h a b p = true ↔ ((h (n + 17) (5 * p) - h (n + 16) (5 * a)) * (h (n + 17) (5 * p + 1) - h (n + 16) (5 * b + 1)) = (h (n + 17) (5 * p + 1) - h (n + 16) (5 * a + 1)) * (h (n + 17) (5 * p) - h (n + 16) (5 * b)) ∧ (h (n + 17) (5 * p) - h (n + 16) (5 * a)) * (h (n + 17) (5 * p) - h (n + 16) (5 * b)) + (h (n + 17) (5 * p + 1) - h (n + 16) (5 * a + 1)) * (h (n + 17) (5 * p + 1) - h (n + 16) (5 * b + 1)) ≤ 0) := by
  unfold brd
  rw [Bool.and_eq_true, Bool.and_eq_true, btb_iff, btb_iff, decide_eq_true_eq, bar_iff]
  have e1 : h (n + 17) (5 * p + 1) - h (n + 16) (5 * a + 1) - (h (n + 16) (5 * b + 1) - h (n + 16) (5 * a + 1)) = h (n + 17) (5 * p + 1) - h (n + 16) (5 * b + 1) := by omega
  have e2 : h (n + 17) (5 * p) - h (n + 16) (5 * a) - (h (n + 16) (5 * b) - h (n + 16) (5 * a)) = h (n + 17) (5 * p) - h (n + 16) (5 * b) := by omega
  rw [e1, e2]
theorem barred_loop {n : Nat} {h : hp} (hI : IR h) (S : ST n h) {a b : Nat} (ha : (a : Int) < h (n + 1) 3) (hb : (b : Int) < h (n + 1) 3) {P : Nat} (hP : h (n + 1) 4 = (P : Int)) (k : Nat) : ∀ i : Nat, i + k = P → ∀ y4 y5 y6 y7 : pv, px_R (mm_Mod_isBarred, 2, [(2, 123), (0, (a : Int)), (0, (b : Int)), (0, (i : Int)), y4, y5, y6, y7], [], (K0, h)) = some (if anf (brd n h a b) i k = true then 1 else 0, (K0, h)) := by
  have c4 := ST_n S (k := 4) (by decide)
  have c44 := (S.2.1 4 (by decide)).2.2
  have l4 : lim 4 = 4 := rfl
  have c3 := (S.2.1 3 (by decide)).2.2
  have l3 : lim 3 = 5 := rfl
  induction k with
  | zero =>
    intro i hi y4 y5 y6 y7
    have : i = P := hi
    subst this
    have hlt : ((i : Int) < (i : Int)) = False := eq_false (by omega)
    rw [eq_Mod_isBarred_2]
    simp only [px_rd_mk, px_wr_mk, Int.reduceToNat, Int.toNat_natCast, if_true, if_false, Option.bind_some, px_up_cell, px_up_slot, px_up_eq, ne_eq, Nat.reduceEqDiff, not_false_eq_true, Int.reduceEq, Int.reduceLT, Int.reduceLE, Int.reduceNeg, decide_true, decide_false, Bool.and_true, Bool.true_and, Bool.and_false, Bool.false_and, and_self, and_true, true_and, and_false, false_and, bi_T, bi_F, not_true_eq_false, Bool.false_eq_true, kg_123, ka_125, ir_123_0 hI, ir_123_12 hI, ir_123_13 hI, ir_123_14 hI, ir_123_15 hI, ir_123_16 hI, ir_123_17 hI, ir_123_18 hI, ir_123_19 hI, ir_123_20 hI, ir_123_21 hI, ir_123_30 hI, ir_123_31 hI, ir_123_32 hI, ir_123_33 hI, ir_123_34 hI, ir_123_35 hI, ir_123_36 hI, ir_123_37 hI, ir_123_38 hI, ir_123_39 hI, ir_123_41 hI, ir_123_42 hI, ir_123_44 hI, ir_123_45 hI, ir_123_46 hI, ir_123_50 hI, ir_123_54 hI, ir_123_55 hI, ir_123_56 hI, ir_123_57 hI, ir_123_58 hI, ir_123_59 hI, ir_123_60 hI, ir_123_61 hI, ir_123_62 hI, c4.1, hP, hlt, anf]
  | succ k ih =>
    intro i hi y4 y5 y6 y7
    have hi4 : (i : Int) < h (n + 1) 4 := by omega
    have hlt : ((i : Int) < (P : Int)) = True := eq_true (by omega)
    have ra := po_rng S ha hi4
    have rb := po_rng S hb hi4
    have ga : (decide ((0 : Int) ≤ (a : Int)) && decide ((a : Int) < 10)) = true := gd_ok (by omega)
    have gb : (decide ((0 : Int) ≤ (b : Int)) && decide ((b : Int) < 10)) = true := gd_ok (by omega)
    have gi : (decide ((0 : Int) ≤ (i : Int)) && decide ((i : Int) < 8)) = true := gd_ok (by omega)
    obtain ⟨⟨a1, _⟩, ⟨a2, _⟩⟩ := S.2.2.2.2.2.2.2.2.1 a ha
    obtain ⟨⟨b1, _⟩, ⟨b2, _⟩⟩ := S.2.2.2.2.2.2.2.2.1 b hb
    obtain ⟨⟨p1, _⟩, ⟨p2, _⟩⟩ := S.2.2.2.2.2.2.2.2.2.1 i hi4
    have q1 := mu_rng ra.1 rb.1
    have q2 := mu_rng ra.2 rb.2
    have u3 : -2147483648 ≤ (h (n + 17) (5 * i) - h (n + 16) (5 * a)) * (h (n + 17) (5 * i) - h (n + 16) (5 * b)) + (h (n + 17) (5 * i + 1) - h (n + 16) (5 * a + 1)) * (h (n + 17) (5 * i + 1) - h (n + 16) (5 * b + 1)) ∧ (h (n + 17) (5 * i) - h (n + 16) (5 * a)) * (h (n + 17) (5 * i) - h (n + 16) (5 * b)) + (h (n + 17) (5 * i + 1) - h (n + 16) (5 * a + 1)) * (h (n + 17) (5 * i + 1) - h (n + 16) (5 * b + 1)) < 2147483648 := by omega
    rw [eq_Mod_isBarred_2]
    simp only [px_rd_mk, px_wr_mk, Int.reduceToNat, Int.toNat_natCast, if_true, if_false, Option.bind_some, px_up_cell, px_up_slot, px_up_eq, ne_eq, Nat.reduceEqDiff, not_false_eq_true, Int.reduceEq, Int.reduceLT, Int.reduceLE, Int.reduceNeg, decide_true, decide_false, Bool.and_true, Bool.true_and, Bool.and_false, Bool.false_and, and_self, and_true, true_and, and_false, false_and, bi_T, bi_F, not_true_eq_false, Bool.false_eq_true, kg_123, ka_125, ka_130, ka_131, ka_132, ka_133, ir_123_0 hI, ir_123_12 hI, ir_123_13 hI, ir_123_14 hI, ir_123_15 hI, ir_123_16 hI, ir_123_17 hI, ir_123_18 hI, ir_123_19 hI, ir_123_20 hI, ir_123_21 hI, ir_123_30 hI, ir_123_31 hI, ir_123_32 hI, ir_123_33 hI, ir_123_34 hI, ir_123_35 hI, ir_123_36 hI, ir_123_37 hI, ir_123_38 hI, ir_123_39 hI, ir_123_41 hI, ir_123_42 hI, ir_123_44 hI, ir_123_45 hI, ir_123_46 hI, ir_123_50 hI, ir_123_54 hI, ir_123_55 hI, ir_123_56 hI, ir_123_57 hI, ir_123_58 hI, ir_123_59 hI, ir_123_60 hI, ir_123_61 hI, ir_123_62 hI, c4.1, hP, hlt, ga, gb, gi, a1, a2, b1, b2, p1, p2, px_ww ra.1 rb.2, px_ww ra.2 rb.1, px_ww ra.1 rb.1, px_ww ra.2 rb.2, px_w_n u3, px_w_s (show i < 1000000 by omega), ih (i + 1) (by omega)]
    rw [anf]
    have bm := brd_m (n := n) (h := h) (a := a) (b := b) (p := i)
    generalize (h (n + 17) (5 * i) - h (n + 16) (5 * a)) * (h (n + 17) (5 * i) - h (n + 16) (5 * b)) + (h (n + 17) (5 * i + 1) - h (n + 16) (5 * a + 1)) * (h (n + 17) (5 * i + 1) - h (n + 16) (5 * b + 1)) = dot at *
    by_cases c1 : (h (n + 17) (5 * i) - h (n + 16) (5 * a)) * (h (n + 17) (5 * i + 1) - h (n + 16) (5 * b + 1)) = (h (n + 17) (5 * i + 1) - h (n + 16) (5 * a + 1)) * (h (n + 17) (5 * i) - h (n + 16) (5 * b))
    · rw [if_pos c1]
      by_cases c2 : 0 < dot
      · have f : brd n h a b i = false := by
          cases e : brd n h a b i
          · rfl
          · have := (bm.mp e).2; omega
        rw [if_pos c2, f, Bool.false_or]
      · have f : brd n h a b i = true := bm.mpr ⟨c1, by omega⟩
        rw [if_neg c2, f, Bool.true_or, if_pos rfl]
    · have f : brd n h a b i = false := by
        cases e : brd n h a b i
        · rfl
        · exact absurd (bm.mp e).1 c1
      rw [if_neg c1, f, Bool.false_or]
