/-! The smallest methods. -/
def bi (p : Prop) [Decidable p] : Int := if p then 1 else 0
theorem bi_t {p : Prop} [Decidable p] (h : p) : bi p = 1 := if_pos h
theorem bi_f {p : Prop} [Decidable p] (h : ¬ p) : bi p = 0 := if_neg h
theorem bi_0 (p : Prop) [Decidable p] : (bi p = 0) = ¬ p := by
  by_cases h : p
  · rw [bi_t h]; simp [h]
  · rw [bi_f h]; simp [h]
theorem bi_1 (p : Prop) [Decidable p] : (bi p = 1) = p := by
  by_cases h : p
  · rw [bi_t h]; simp [h]
  · rw [bi_f h]; simp [h]
theorem bi_ok (p : Prop) [Decidable p] : (decide (0 ≤ bi p) && decide (bi p < 2)) = true := by
  by_cases h : p
  · rw [bi_t h]; rfl
  · rw [bi_f h]; rfl
theorem bi_c {p q : Prop} [Decidable p] [Decidable q] (h : p ↔ q) : bi p = bi q := by
  by_cases hp : p
  · rw [bi_t hp, bi_t (h.mp hp)]
  · rw [bi_f hp, bi_f (fun z => hp (h.mpr z))]
theorem R_Tin_within (a b c : Int) (w : pw) : px_R (mm_Tin_within, 0, [(0, a), (0, b), (0, c)], [], w) = some (bi (b ≤ a ∧ a ≤ c), w) := by
  rw [eq_Tin_within_0]
  unfold bi
  (repeat' split) <;> first | rfl | (exfalso; omega)
theorem R_Mod_in (a b c : Int) (w : pw) : px_R (mm_Mod_in, 0, [(0, a), (0, b), (0, c)], [], w) = some (bi (b ≤ a ∧ a ≤ c), w) := by
  rw [eq_Mod_in_0]
  unfold bi
  (repeat' split) <;> first | rfl | (exfalso; omega)
theorem R_Tin_isBand (a : Int) (w : pw) : px_R (mm_Tin_isBand, 0, [(0, a)], [], w) = some (bi (0 ≤ a ∧ a ≤ 3), w) := by
  rw [eq_Tin_isBand_0, R_Tin_within, Option.bind_some, if_pos (bi_ok _)]
theorem R_Mod_isBand (a : Int) (w : pw) : px_R (mm_Mod_isBand, 0, [(0, a)], [], w) = some (bi (0 ≤ a ∧ a ≤ 3), w) := by
  rw [eq_Mod_isBand_0, R_Mod_in, Option.bind_some, if_pos (bi_ok _)]
theorem R_Mod_isSlot (a : Int) (w : pw) : px_R (mm_Mod_isSlot, 0, [(0, a)], [], w) = some (bi (0 ≤ a ∧ a ≤ 2), w) := by
  rw [eq_Mod_isSlot_0, R_Mod_in, Option.bind_some, if_pos (bi_ok _)]
theorem R_Tape_isBlank (a : Int) (w : pw) : px_R (mm_Tape_isBlank, 0, [(0, a)], [], w) = some (bi (a = 32 ∨ a = 10), w) := by
  rw [eq_Tape_isBlank_0]
  unfold bi
  (repeat' split) <;> first | rfl | (exfalso; omega)
theorem R_Tape_isLetter (a : Int) (w : pw) : px_R (mm_Tape_isLetter, 0, [(0, a)], [], w) = some (bi (97 ≤ a ∧ a ≤ 122), w) := by
  rw [eq_Tape_isLetter_0]
  unfold bi
  (repeat' split) <;> first | rfl | (exfalso; omega)
theorem R_Tape_isDigit (a : Int) (w : pw) : px_R (mm_Tape_isDigit, 0, [(0, a)], [], w) = some (bi (48 ≤ a ∧ a ≤ 57), w) := by
  rw [eq_Tape_isDigit_0]
  unfold bi
  (repeat' split) <;> first | rfl | (exfalso; omega)
theorem R_Mod_isSmall (a : Int) (w : pw) : px_R (mm_Mod_isSmall, 0, [(0, a)], [], w) = some (bi (97 ≤ a ∧ a ≤ 122), w) := by
  rw [eq_Mod_isSmall_0]
  unfold bi
  (repeat' split) <;> first | rfl | (exfalso; omega)
theorem R_Mod_isDigit (a : Int) (w : pw) : px_R (mm_Mod_isDigit, 0, [(0, a)], [], w) = some (bi (48 ≤ a ∧ a ≤ 57), w) := by
  rw [eq_Mod_isDigit_0]
  unfold bi
  (repeat' split) <;> first | rfl | (exfalso; omega)
theorem R_Str_isNamed (a : Int) (w : pw) : px_R (mm_Str_isNamed, 0, [(0, a)], [], w) = some (bi (a < 6 ∧ ¬ a = 4), w) := by
  rw [eq_Str_isNamed_0]
  unfold bi
  (repeat' split) <;> first | rfl | (exfalso; omega)
/-- kept within low and high -/
def clp (lo hi x : Int) : Int := if hi < x then hi else if x < lo then lo else x
theorem clp_rng {lo hi : Int} (h : lo ≤ hi) (x : Int) : lo ≤ clp lo hi x ∧ clp lo hi x ≤ hi := by
  unfold clp
  (repeat' split) <;> omega
theorem R_Mod_bounded (a : Int) (w : pw) : px_R (mm_Mod_bounded, 0, [(0, a)], [], w) = some (clp (-999999) 999999 a, w) := by
  rw [eq_Mod_bounded_0]
  unfold clp
  (repeat' split) <;> rfl
theorem R_Row_bounded (a : Int) (w : pw) : px_R (mm_Row_bounded, 0, [(0, a)], [], w) = some (clp (-999999) 999999 a, w) := by
  rw [eq_Row_bounded_0]
  have : px_mx (-999999) (px_mn 999999 a) = clp (-999999) 999999 a := by
    unfold px_mx px_mn clp
    (repeat' split) <;> omega
  rw [this]
theorem R_Mod_heard (a : Int) (w : pw) : px_R (mm_Mod_heard, 0, [(0, a)], [], w) = some (clp 0 9 a, w) := by
  rw [eq_Mod_heard_0]
  unfold clp
  (repeat' split) <;> first | rfl | (exfalso; omega)
theorem R_Mod_plain {a : Int} (h : -2147483648 < a) (h2 : a < 2147483648) (w : pw) : px_R (mm_Mod_plain, 0, [(0, a)], [], w) = some ((a.natAbs : Int), w) := by
  rw [eq_Mod_plain_0]
  split
  · rw [px_w_id (by omega) (by omega)]
    congr 2
    omega
  · congr 2
    omega
theorem px_ab_nat {a : Int} (h : -2147483648 < a) (h2 : a < 2147483648) : px_ab a = (a.natAbs : Int) := by
  unfold px_ab
  split
  · omega
  · rw [px_w_id (by omega) (by omega)]; omega
theorem R_Row_part {v q : Int} (hv : -1000000 ≤ v ∧ v ≤ 1000000) (hq : 0 ≤ q ∧ q ≤ 100) (w : pw) : px_R (mm_Row_part, 0, [(0, v), (0, q)], [], w) = some (Int.tdiv (v * q) 100, w) := by
  rw [eq_Row_part_0]
  have h1 : v * q ≤ 1000000 * 100 := by
    have := Int.mul_le_mul_of_nonneg_right hv.2 hq.1
    have := Int.mul_le_mul_of_nonneg_left hq.2 (show (0 : Int) ≤ 1000000 by decide)
    omega
  have h2 : -(1000000 * 100) ≤ v * q := by
    have := Int.mul_le_mul_of_nonneg_right (show -1000000 ≤ v from hv.1) hq.1
    have := Int.mul_le_mul_of_nonneg_left hq.2 (show (0 : Int) ≤ 1000000 by decide)
    omega
  rw [px_w_id (x := v * q) (by omega) (by omega)]
  have h3 : -(1000000 * 100) ≤ Int.tdiv (v * q) 100 ∧ Int.tdiv (v * q) 100 ≤ 1000000 * 100 := by
    generalize v * q = z at *
    rcases Int.le_total 0 z with h | h
    · rw [Int.tdiv_eq_ediv_of_nonneg h]; omega
    · have e : z = -(-z) := by omega
      rw [e, Int.neg_tdiv, Int.tdiv_eq_ediv_of_nonneg (by omega)]; omega
  rw [px_w_id (by omega) (by omega)]
theorem R_Tin_isOne {h : hp} (hI : IR h) {n : Nat} (hn : n = 4 ∨ n = 26) (h8 : h 1 8 = (n : Int)) {k : Nat} (hk : k < 9) (x : Int) (hN : 0 ≤ h (n + 1) k ∧ h (n + 1) k ≤ 100) : px_R (mm_Tin_isOne, 0, [(2, 1), (0, (k : Int)), (0, x)], [], (K0, h)) = some (bi (0 ≤ x ∧ x < h (n + 1) k), (K0, h)) := by
  have hk1 : (decide ((0 : Int) ≤ (k : Int)) && decide ((k : Int) < 9)) = true := by simp; omega
  rw [eq_Tin_isOne_0]
  rcases hn with rfl | rfl
  · have hN : 0 ≤ h 5 k ∧ h 5 k ≤ 100 := hN
    have h8 : h 1 8 = 4 := h8
    simp only [px_rd_mk, kg_1, kg_4, Int.reduceToNat, h8, ir_4_1 hI, ka_5, hk1, if_true, Int.toNat_natCast, Nat.reduceAdd]
    rw [R_Tin_within, Option.bind_some, if_pos (bi_ok _), px_w_id (by omega) (by omega)]
    rw [bi_c (q := 0 ≤ x ∧ x < h 5 k) (by omega)]
  · have hN : 0 ≤ h 27 k ∧ h 27 k ≤ 100 := hN
    have h8 : h 1 8 = 26 := h8
    simp only [px_rd_mk, kg_1, kg_26, Int.reduceToNat, h8, ir_26_1 hI, ka_27, hk1, if_true, Int.toNat_natCast, Nat.reduceAdd]
    rw [R_Tin_within, Option.bind_some, if_pos (bi_ok _), px_w_id (by omega) (by omega)]
    rw [bi_c (q := 0 ≤ x ∧ x < h 27 k) (by omega)]
theorem R_Mod_is {h : hp} (hI : IR h) {k : Nat} (hk : k < 18) (x : Int) (hN : 0 ≤ h 125 k ∧ h 125 k ≤ 100) : px_R (mm_Mod_is, 0, [(2, 123), (0, (k : Int)), (0, x)], [], (K0, h)) = some (bi (0 ≤ x ∧ x < h 125 k), (K0, h)) := by
  have hk1 : (decide ((0 : Int) ≤ (k : Int)) && decide ((k : Int) < 18)) = true := by simp; omega
  rw [eq_Mod_is_0]
  simp only [px_rd_mk, kg_123, Int.reduceToNat, ir_123_12 hI, ka_125, hk1, if_true, Int.toNat_natCast]
  rw [R_Mod_in, Option.bind_some, if_pos (bi_ok _), px_w_id (by omega) (by omega)]
  rw [bi_c (q := 0 ≤ x ∧ x < h 125 k) (by omega)]
