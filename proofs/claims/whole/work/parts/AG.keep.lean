/-! end, feed; keep, take, stretch. -/
theorem C_end {h : hp} (C : CI h) (x : Int) : AL h mm_Tin_end mm_Mod_end [(2, 1), (0, x)] [(2, 123), (0, x)] := by
  have C2 := C
  obtain ⟨n, ⟨hn, h8, h9⟩, hI, hT, hK, hS, hL, hR, hC, hKs, hW, hB⟩ := C2
  by_cases hx : 0 ≤ x ∧ x ≤ h 2 1
  · have F : Fr [] [(2, 1), (123, 1)] h (px_up (px_up h 2 1 x) 123 1 x) := Fr_up (Fr_up (Fr_rf _ _ _) _ rfl) _ rfl
    have n1 : ¬ (x < 0) := by omega
    have n2 : ¬ (h 2 1 < x) := by omega
    have ht := hT.2.1
    refine ⟨x, px_up h 2 1 x, px_up (px_up h 2 1 x) 123 1 x, ?_, ?_, ⟨n, SP_F F rfl ⟨hn, h8, h9⟩, IR_Fr hI F (by decide), ⟨rfl, ⟨hx.1, Int.le_trans hx.2 ht.2⟩, hT.2.2⟩, FK_F F rfl hK, ST_F hn F rfl hS, LI_F hn F rfl hL, RW_F F rfl hR, CR_F F rfl hC, KS_F F rfl hKs, WI_F hn F rfl hW, BK_F hn F rfl hB⟩⟩
    · rw [eq_Tin_end_0]
      simp only [px_rd_mk, px_wr_mk, Int.reduceToNat, Int.toNat_natCast, if_true, if_false, Option.bind_some, px_up_cell, px_up_slot, px_up_eq, ne_eq, Nat.reduceEqDiff, not_false_eq_true, Int.reduceEq, Int.reduceLT, Int.reduceLE, Int.reduceNeg, decide_true, decide_false, Bool.and_true, Bool.true_and, Bool.and_false, Bool.false_and, and_self, and_true, true_and, and_false, false_and, bi_T, bi_F, not_true_eq_false, Bool.false_eq_true, kg_1, kg_2, ir_1_0 hI, ir_1_1 hI, ir_1_2 hI, ir_1_3 hI, ir_1_4 hI, ir_1_5 hI, ir_1_6 hI, ir_1_7 hI, R_Tin_within, bi_t hx]
    · rw [eq_Mod_end_0, if_neg n1]
      simp only [px_rd_mk, px_wr_mk, Int.reduceToNat, Int.toNat_natCast, if_true, if_false, Option.bind_some, px_up_cell, px_up_slot, px_up_eq, ne_eq, Nat.reduceEqDiff, not_false_eq_true, Int.reduceEq, Int.reduceLT, Int.reduceLE, Int.reduceNeg, decide_true, decide_false, Bool.and_true, Bool.true_and, Bool.and_false, Bool.false_and, and_self, and_true, true_and, and_false, false_and, bi_T, bi_F, not_true_eq_false, Bool.false_eq_true, kg_123, hT.1, n2]
  · refine AL_same C (-1) ?_ ?_
    · rw [eq_Tin_end_0]
      simp only [px_rd_mk, px_wr_mk, Int.reduceToNat, Int.toNat_natCast, if_true, if_false, Option.bind_some, px_up_cell, px_up_slot, px_up_eq, ne_eq, Nat.reduceEqDiff, not_false_eq_true, Int.reduceEq, Int.reduceLT, Int.reduceLE, Int.reduceNeg, decide_true, decide_false, Bool.and_true, Bool.true_and, Bool.and_false, Bool.false_and, and_self, and_true, true_and, and_false, false_and, bi_T, bi_F, not_true_eq_false, Bool.false_eq_true, kg_1, kg_2, ir_1_0 hI, ir_1_1 hI, ir_1_2 hI, ir_1_3 hI, ir_1_4 hI, ir_1_5 hI, ir_1_6 hI, ir_1_7 hI, R_Tin_within, bi_f hx]
    · rw [eq_Mod_end_0]
      by_cases h0 : x < 0
      · rw [if_pos h0]
      · have n2 : h 2 1 < x := by omega
        rw [if_neg h0]
        simp only [px_rd_mk, px_wr_mk, Int.reduceToNat, Int.toNat_natCast, if_true, if_false, Option.bind_some, px_up_cell, px_up_slot, px_up_eq, ne_eq, Nat.reduceEqDiff, not_false_eq_true, Int.reduceEq, Int.reduceLT, Int.reduceLE, Int.reduceNeg, decide_true, decide_false, Bool.and_true, Bool.true_and, Bool.and_false, Bool.false_and, and_self, and_true, true_and, and_false, false_and, bi_T, bi_F, not_true_eq_false, Bool.false_eq_true, kg_123, hT.1, n2]
/-- copied within a cell, from s to d, so many -/
def cpy (h : hp) (c d s i : Nat) : hp := fun a b => if a = c ∧ d ≤ b ∧ b < d + i then h c (b - d + s) else h a b
theorem cpy_0 (h : hp) (c d s : Nat) : cpy h c d s 0 = h := by
  funext a b
  unfold cpy
  rw [if_neg (by omega)]
theorem cpy_o (h : hp) (c d s i : Nat) {a : Nat} (b : Nat) (ha : a ≠ c) : cpy h c d s i a b = h a b := if_neg fun q => ha q.1
theorem cpy_in (h : hp) (c d s i : Nat) {b : Nat} (hb : d ≤ b ∧ b < d + i) : cpy h c d s i c b = h c (b - d + s) := if_pos ⟨rfl, hb⟩
theorem cpy_no (h : hp) (c d s i : Nat) {b : Nat} (hb : ¬ (d ≤ b ∧ b < d + i)) : cpy h c d s i c b = h c b := if_neg fun q => hb q.2
theorem cpy_s (h : hp) (c d s i : Nat) : px_up (cpy h c d s i) c (d + i) (h c (s + i)) = cpy h c d s (i + 1) := by
  funext a b
  unfold px_up
  by_cases e : a = c ∧ b = d + i
  · rw [if_pos e]
    unfold cpy
    rw [if_pos (by omega), show b - d + s = s + i by omega]
  · rw [if_neg e]
    unfold cpy
    by_cases e2 : a = c ∧ d ≤ b ∧ b < d + i
    · rw [if_pos e2, if_pos (by omega)]
    · rw [if_neg e2, if_neg (by omega)]
theorem cpy_Fr (h : hp) (c d s i : Nat) : Fr [c] [] h (cpy h c d s i) := fun a b e => by
  rw [fin_f] at e
  simp at e
  exact cpy_o h c d s i b e
theorem keep_1 {h : hp} (hI : IR h) {s : Nat} (hs : s < 3) (n : Nat) : ∀ i : Nat, i + n = 162 → px_R (mm_Mod_keep, 19, [(2, 123), (0, (s : Int)), (0, (i : Int))], [], (K0, cpy h 140 (162 * (s + 1)) 0 i)) = px_R (mm_Mod_keep, 54, [(2, 123), (0, (s : Int)), (0, 0)], [], (K0, cpy h 140 (162 * (s + 1)) 0 162)) := by
  induction n with
  | zero =>
    intro i hi
    have : i = 162 := hi
    subst this
    rw [eq_Mod_keep_19, if_neg (by decide)]
  | succ n ih =>
    intro i hi
    have hlt : ((i : Int) < 162) = True := by simp; omega
    have hb : (decide ((0 : Int) ≤ (i : Int)) && decide ((i : Int) < 648)) = true := by simp; omega
    have hb2 : (decide ((0 : Int) ≤ ((162 * (s + 1) + i : Nat) : Int)) && decide (((162 * (s + 1) + i : Nat) : Int) < 648)) = true := by simp; omega
    have q : cpy h 140 (162 * (s + 1)) 0 i 123 35 = 140 := (cpy_o _ _ _ _ _ _ (by decide)).trans (ir_123_35 hI)
    have q2 : cpy h 140 (162 * (s + 1)) 0 i 140 i = h 140 (0 + i) := by rw [cpy_no _ _ _ _ _ (by omega), Nat.zero_add]
    have w3 : px_w ((i : Int) + 1) = ((i + 1 : Nat) : Int) := by rw [px_w_id (by omega) (by omega)]; omega
    have w4 : px_w (px_w (162 * px_w ((s : Int) + 1)) + (i : Int)) = ((162 * (s + 1) + i : Nat) : Int) := by
      rw [px_w_id (x := (s : Int) + 1) (by omega) (by omega), px_w_id (x := 162 * ((s : Int) + 1)) (by omega) (by omega), px_w_id (by omega) (by omega)]
      omega
    rw [eq_Mod_keep_19]
    simp only [px_rd_mk, px_wr_mk, Int.reduceToNat, Int.toNat_natCast, if_true, if_false, Option.bind_some, px_up_cell, px_up_slot, px_up_eq, ne_eq, Nat.reduceEqDiff, not_false_eq_true, Int.reduceEq, Int.reduceLT, Int.reduceLE, Int.reduceNeg, decide_true, decide_false, Bool.and_true, Bool.true_and, Bool.and_false, Bool.false_and, and_self, and_true, true_and, and_false, false_and, bi_T, bi_F, not_true_eq_false, Bool.false_eq_true, kg_123, ka_140, q, hlt, hb, hb2, q2, w3, w4]
    rw [cpy_s]
    exact ih (i + 1) (by omega)
theorem keep_2 {h : hp} (hI : IR h) {s : Nat} (hs : s < 3) : px_R (mm_Mod_keep, 54, [(2, 123), (0, (s : Int)), (0, 0)], [], (K0, h)) = some (h 140 1, (K0, cpy h 141 (2 * (s + 1)) 0 2)) := by
  have hb2 : (decide ((0 : Int) ≤ ((2 * (s + 1) + 0 : Nat) : Int)) && decide (((2 * (s + 1) + 0 : Nat) : Int) < 8)) = true := by simp; omega
  have hb3 : (decide ((0 : Int) ≤ ((2 * (s + 1) + 1 : Nat) : Int)) && decide (((2 * (s + 1) + 1 : Nat) : Int) < 8)) = true := by simp; omega
  have w4 : px_w (px_w (2 * px_w ((s : Int) + 1)) + 0) = ((2 * (s + 1) + 0 : Nat) : Int) := by
    rw [px_w_id (x := (s : Int) + 1) (by omega) (by omega), px_w_id (x := 2 * ((s : Int) + 1)) (by omega) (by omega), px_w_id (by omega) (by omega)]
    omega
  have w5 : px_w (px_w (2 * px_w ((s : Int) + 1)) + 1) = ((2 * (s + 1) + 1 : Nat) : Int) := by
    rw [px_w_id (x := (s : Int) + 1) (by omega) (by omega), px_w_id (x := 2 * ((s : Int) + 1)) (by omega) (by omega), px_w_id (by omega) (by omega)]
    omega
  have e0 : h = cpy h 141 (2 * (s + 1)) 0 0 := (cpy_0 _ _ _ _).symm
  have e1 : px_up h 141 (2 * (s + 1) + 0) (h 141 0) = cpy h 141 (2 * (s + 1)) 0 1 := by
    have := cpy_s h 141 (2 * (s + 1)) 0 0
    rw [cpy_0] at this
    exact this
  have q : cpy h 141 (2 * (s + 1)) 0 1 123 36 = 141 := (cpy_o _ _ _ _ _ _ (by decide)).trans (ir_123_36 hI)
  have q2 : cpy h 141 (2 * (s + 1)) 0 1 141 1 = h 141 (0 + 1) := cpy_no _ _ _ _ _ (by omega)
  have q3 : cpy h 141 (2 * (s + 1)) 0 2 123 35 = 140 := (cpy_o _ _ _ _ _ _ (by decide)).trans (ir_123_35 hI)
  have q4 : cpy h 141 (2 * (s + 1)) 0 2 140 1 = h 140 1 := cpy_o _ _ _ _ _ _ (by decide)
  rw [eq_Mod_keep_54]
  simp only [px_rd_mk, px_wr_mk, Int.reduceToNat, Int.toNat_natCast, if_true, if_false, Option.bind_some, px_up_cell, px_up_slot, px_up_eq, ne_eq, Nat.reduceEqDiff, not_false_eq_true, Int.reduceEq, Int.reduceLT, Int.reduceLE, Int.reduceNeg, decide_true, decide_false, Bool.and_true, Bool.true_and, Bool.and_false, Bool.false_and, and_self, and_true, true_and, and_false, false_and, bi_T, bi_F, not_true_eq_false, Bool.false_eq_true, kg_123, ka_140, ka_141, ir_123_0 hI, ir_123_12 hI, ir_123_13 hI, ir_123_14 hI, ir_123_15 hI, ir_123_16 hI, ir_123_17 hI, ir_123_18 hI, ir_123_19 hI, ir_123_20 hI, ir_123_21 hI, ir_123_30 hI, ir_123_31 hI, ir_123_32 hI, ir_123_33 hI, ir_123_34 hI, ir_123_35 hI, ir_123_36 hI, ir_123_37 hI, ir_123_38 hI, ir_123_39 hI, ir_123_41 hI, ir_123_42 hI, ir_123_44 hI, ir_123_45 hI, ir_123_46 hI, ir_123_50 hI, ir_123_54 hI, ir_123_55 hI, ir_123_56 hI, ir_123_57 hI, ir_123_58 hI, ir_123_59 hI, ir_123_60 hI, ir_123_61 hI, ir_123_62 hI, hb2, w4, e1, show px_w (0 + 1) = 1 from rfl]
  rw [eq_Mod_keep_54]
  simp only [px_rd_mk, px_wr_mk, Int.reduceToNat, Int.toNat_natCast, if_true, if_false, Option.bind_some, px_up_cell, px_up_slot, px_up_eq, ne_eq, Nat.reduceEqDiff, not_false_eq_true, Int.reduceEq, Int.reduceLT, Int.reduceLE, Int.reduceNeg, decide_true, decide_false, Bool.and_true, Bool.true_and, Bool.and_false, Bool.false_and, and_self, and_true, true_and, and_false, false_and, bi_T, bi_F, not_true_eq_false, Bool.false_eq_true, kg_123, ka_140, ka_141, q, hb3, w5, q2, cpy_s, show px_w (1 + 1) = 2 from rfl]
  rw [eq_Mod_keep_54]
  simp only [px_rd_mk, px_wr_mk, Int.reduceToNat, Int.toNat_natCast, if_true, if_false, Option.bind_some, px_up_cell, px_up_slot, px_up_eq, ne_eq, Nat.reduceEqDiff, not_false_eq_true, Int.reduceEq, Int.reduceLT, Int.reduceLE, Int.reduceNeg, decide_true, decide_false, Bool.and_true, Bool.true_and, Bool.and_false, Bool.false_and, and_self, and_true, true_and, and_false, false_and, bi_T, bi_F, not_true_eq_false, Bool.false_eq_true, kg_123, ka_140, ka_141, q3, q4]
theorem take_1 {h : hp} (hI : IR h) {s : Nat} (hs : s < 3) (n : Nat) : ∀ i : Nat, i + n = 162 → px_R (mm_Mod_take, 24, [(2, 123), (0, (s : Int)), (0, (i : Int))], [], (K0, cpy h 140 0 (162 * (s + 1)) i)) = px_R (mm_Mod_take, 59, [(2, 123), (0, (s : Int)), (0, 0)], [], (K0, cpy h 140 0 (162 * (s + 1)) 162)) := by
  induction n with
  | zero =>
    intro i hi
    have : i = 162 := hi
    subst this
    rw [eq_Mod_take_24, if_neg (by decide)]
  | succ n ih =>
    intro i hi
    have hlt : ((i : Int) < 162) = True := by simp; omega
    have hb : (decide ((0 : Int) ≤ (i : Int)) && decide ((i : Int) < 648)) = true := by simp; omega
    have hb2 : (decide ((0 : Int) ≤ ((162 * (s + 1) + i : Nat) : Int)) && decide (((162 * (s + 1) + i : Nat) : Int) < 648)) = true := by simp; omega
    have q : cpy h 140 0 (162 * (s + 1)) i 123 35 = 140 := (cpy_o _ _ _ _ _ _ (by decide)).trans (ir_123_35 hI)
    have q2 : cpy h 140 0 (162 * (s + 1)) i 140 (162 * (s + 1) + i) = h 140 (162 * (s + 1) + i) := by rw [cpy_no _ _ _ _ _ (by omega)]
    have w3 : px_w ((i : Int) + 1) = ((i + 1 : Nat) : Int) := by rw [px_w_id (by omega) (by omega)]; omega
    have w4 : px_w (px_w (162 * px_w ((s : Int) + 1)) + (i : Int)) = ((162 * (s + 1) + i : Nat) : Int) := by
      rw [px_w_id (x := (s : Int) + 1) (by omega) (by omega), px_w_id (x := 162 * ((s : Int) + 1)) (by omega) (by omega), px_w_id (by omega) (by omega)]
      omega
    have cs := cpy_s h 140 0 (162 * (s + 1)) i
    rw [Nat.zero_add] at cs
    rw [eq_Mod_take_24]
    simp only [px_rd_mk, px_wr_mk, Int.reduceToNat, Int.toNat_natCast, if_true, if_false, Option.bind_some, px_up_cell, px_up_slot, px_up_eq, ne_eq, Nat.reduceEqDiff, not_false_eq_true, Int.reduceEq, Int.reduceLT, Int.reduceLE, Int.reduceNeg, decide_true, decide_false, Bool.and_true, Bool.true_and, Bool.and_false, Bool.false_and, and_self, and_true, true_and, and_false, false_and, bi_T, bi_F, not_true_eq_false, Bool.false_eq_true, kg_123, ka_140, q, hlt, hb, hb2, q2, w3, w4, cs]
    exact ih (i + 1) (by omega)
theorem take_2 {h : hp} (hI : IR h) {s : Nat} (hs : s < 3) : px_R (mm_Mod_take, 59, [(2, 123), (0, (s : Int)), (0, 0)], [], (K0, h)) = some (h 140 1, (K0, cpy h 141 0 (2 * (s + 1)) 2)) := by
  have hb2 : (decide ((0 : Int) ≤ ((2 * (s + 1) + 0 : Nat) : Int)) && decide (((2 * (s + 1) + 0 : Nat) : Int) < 8)) = true := by simp; omega
  have hb3 : (decide ((0 : Int) ≤ ((2 * (s + 1) + 1 : Nat) : Int)) && decide (((2 * (s + 1) + 1 : Nat) : Int) < 8)) = true := by simp; omega
  have w4 : px_w (px_w (2 * px_w ((s : Int) + 1)) + 0) = ((2 * (s + 1) + 0 : Nat) : Int) := by
    rw [px_w_id (x := (s : Int) + 1) (by omega) (by omega), px_w_id (x := 2 * ((s : Int) + 1)) (by omega) (by omega), px_w_id (by omega) (by omega)]
    omega
  have w5 : px_w (px_w (2 * px_w ((s : Int) + 1)) + 1) = ((2 * (s + 1) + 1 : Nat) : Int) := by
    rw [px_w_id (x := (s : Int) + 1) (by omega) (by omega), px_w_id (x := 2 * ((s : Int) + 1)) (by omega) (by omega), px_w_id (by omega) (by omega)]
    omega
  have e1 : px_up h 141 0 (h 141 (2 * (s + 1) + 0)) = cpy h 141 0 (2 * (s + 1)) 1 := by
    have := cpy_s h 141 0 (2 * (s + 1)) 0
    rw [cpy_0] at this
    exact this
  have e2 : px_up (cpy h 141 0 (2 * (s + 1)) 1) 141 1 (h 141 (2 * (s + 1) + 1)) = cpy h 141 0 (2 * (s + 1)) 2 := cpy_s h 141 0 (2 * (s + 1)) 1
  have q : cpy h 141 0 (2 * (s + 1)) 1 123 36 = 141 := (cpy_o _ _ _ _ _ _ (by decide)).trans (ir_123_36 hI)
  have q2 : cpy h 141 0 (2 * (s + 1)) 1 141 (2 * (s + 1) + 1) = h 141 (2 * (s + 1) + 1) := cpy_no _ _ _ _ _ (by omega)
  have q3 : cpy h 141 0 (2 * (s + 1)) 2 123 35 = 140 := (cpy_o _ _ _ _ _ _ (by decide)).trans (ir_123_35 hI)
  have q4 : cpy h 141 0 (2 * (s + 1)) 2 140 1 = h 140 1 := cpy_o _ _ _ _ _ _ (by decide)
  rw [eq_Mod_take_59]
  simp only [px_rd_mk, px_wr_mk, Int.reduceToNat, Int.toNat_natCast, if_true, if_false, Option.bind_some, px_up_cell, px_up_slot, px_up_eq, ne_eq, Nat.reduceEqDiff, not_false_eq_true, Int.reduceEq, Int.reduceLT, Int.reduceLE, Int.reduceNeg, decide_true, decide_false, Bool.and_true, Bool.true_and, Bool.and_false, Bool.false_and, and_self, and_true, true_and, and_false, false_and, bi_T, bi_F, not_true_eq_false, Bool.false_eq_true, kg_123, ka_140, ka_141, ir_123_0 hI, ir_123_12 hI, ir_123_13 hI, ir_123_14 hI, ir_123_15 hI, ir_123_16 hI, ir_123_17 hI, ir_123_18 hI, ir_123_19 hI, ir_123_20 hI, ir_123_21 hI, ir_123_30 hI, ir_123_31 hI, ir_123_32 hI, ir_123_33 hI, ir_123_34 hI, ir_123_35 hI, ir_123_36 hI, ir_123_37 hI, ir_123_38 hI, ir_123_39 hI, ir_123_41 hI, ir_123_42 hI, ir_123_44 hI, ir_123_45 hI, ir_123_46 hI, ir_123_50 hI, ir_123_54 hI, ir_123_55 hI, ir_123_56 hI, ir_123_57 hI, ir_123_58 hI, ir_123_59 hI, ir_123_60 hI, ir_123_61 hI, ir_123_62 hI, hb2, w4, e1, show px_w (0 + 1) = 1 from rfl]
  rw [eq_Mod_take_59]
  simp only [px_rd_mk, px_wr_mk, Int.reduceToNat, Int.toNat_natCast, if_true, if_false, Option.bind_some, px_up_cell, px_up_slot, px_up_eq, ne_eq, Nat.reduceEqDiff, not_false_eq_true, Int.reduceEq, Int.reduceLT, Int.reduceLE, Int.reduceNeg, decide_true, decide_false, Bool.and_true, Bool.true_and, Bool.and_false, Bool.false_and, and_self, and_true, true_and, and_false, false_and, bi_T, bi_F, not_true_eq_false, Bool.false_eq_true, kg_123, ka_140, ka_141, q, hb3, w5, q2, e2, show px_w (1 + 1) = 2 from rfl]
  rw [eq_Mod_take_59]
  simp only [px_rd_mk, px_wr_mk, Int.reduceToNat, Int.toNat_natCast, if_true, if_false, Option.bind_some, px_up_cell, px_up_slot, px_up_eq, ne_eq, Nat.reduceEqDiff, not_false_eq_true, Int.reduceEq, Int.reduceLT, Int.reduceLE, Int.reduceNeg, decide_true, decide_false, Bool.and_true, Bool.true_and, Bool.and_false, Bool.false_and, and_self, and_true, true_and, and_false, false_and, bi_T, bi_F, not_true_eq_false, Bool.false_eq_true, kg_123, ka_140, ka_141, q3, q4]
theorem bec_107_101 {h : hp} (hI : IR h) : ∃ g : hp, px_R (mm_Row_become, 0, [(2, 107), (2, 101), (9, 0)], [], (K0, h)) = some (0, (K0, g)) ∧ Fr [108, 109, 110, 111] [(107, 0), (107, 1), (107, 2), (107, 3)] h g ∧ (g 107 0 = h 101 0 ∧ g 107 1 = h 101 1 ∧ g 107 2 = h 101 2 ∧ g 107 3 = h 101 3) ∧ ∀ b : Nat, b < 40 → g 108 b = h 102 b ∧ g 109 b = h 103 b ∧ g 110 b = h 104 b ∧ g 111 b = h 105 b := by
  have lp := px_lp (fun s : List pv × hp => px_R (mm_Row_become, 34, s.1, [], (K0, s.2))) (fun i s => s.1 = [(2, 107), (2, 101), (0, (i : Int))] ∧ Fr [108, 109, 110, 111] [(107, 0), (107, 1), (107, 2), (107, 3)] h s.2 ∧ (s.2 107 0 = h 101 0 ∧ s.2 107 1 = h 101 1 ∧ s.2 107 2 = h 101 2 ∧ s.2 107 3 = h 101 3) ∧ ∀ b : Nat, b < i → s.2 108 b = h 102 b ∧ s.2 109 b = h 103 b ∧ s.2 110 b = h 104 b ∧ s.2 111 b = h 105 b) 40 (by
    rintro i ⟨ls, g⟩ hi ⟨h1, h2, h3, h4⟩
    simp only at h1 h2 h3 h4
    subst h1
    have hlt : ((i : Int) < 40) = True := by simp; omega
    have hb : (decide ((0 : Int) ≤ (i : Int)) && decide (True)) = true := by simp
    have w3 : px_w ((i : Int) + 1) = ((i + 1 : Nat) : Int) := by rw [px_w_id (by omega) (by omega)]; omega
    have I := IR_Fr hI h2 (by decide)
    have f1 := h2 102 i rfl
    have f2 := h2 103 i rfl
    have f3 := h2 104 i rfl
    have f4 := h2 105 i rfl
    refine ⟨([(2, 107), (2, 101), (0, ((i + 1 : Nat) : Int))], px_up (px_up (px_up (px_up g 108 i (h 102 i)) 109 i (h 103 i)) 110 i (h 104 i)) 111 i (h 105 i)), ?_, rfl, Fr_up (Fr_up (Fr_up (Fr_up h2 _ rfl) _ rfl) _ rfl) _ rfl, h3, ?_⟩
    · show px_R (mm_Row_become, 34, _, [], (K0, g)) = _
      rw [eq_Row_become_34]
      simp only [px_rd_mk, px_wr_mk, Int.reduceToNat, Int.toNat_natCast, if_true, if_false, Option.bind_some, px_up_cell, px_up_slot, px_up_eq, ne_eq, Nat.reduceEqDiff, not_false_eq_true, Int.reduceEq, Int.reduceLT, Int.reduceLE, Int.reduceNeg, decide_true, decide_false, Bool.and_true, Bool.true_and, Bool.and_false, Bool.false_and, and_self, and_true, true_and, and_false, false_and, bi_T, bi_F, not_true_eq_false, Bool.false_eq_true, kg_107, kg_101, ka_108, ka_109, ka_110, ka_111, ka_102, ka_103, ka_104, ka_105, ir_107_4 I, ir_107_5 I, ir_107_6 I, ir_107_7 I, ir_101_4 I, ir_101_5 I, ir_101_6 I, ir_101_7 I, hlt, hb, w3, Int.natCast_nonneg, f1, f2, f3, f4, eq_Row_become_88]
    · intro b hb
      simp only [px_up_cell, px_up_slot, px_up_eq, ne_eq, Nat.reduceEqDiff, not_false_eq_true, px_up_at]
      by_cases e : b = i
      · rw [if_pos e, if_pos e, if_pos e, if_pos e, e]
        exact ⟨rfl, rfl, rfl, rfl⟩
      · rw [if_neg e, if_neg e, if_neg e, if_neg e]
        exact h4 b (by omega)) 40 0
  have F0 : Fr [108, 109, 110, 111] [(107, 0), (107, 1), (107, 2), (107, 3)] h (px_up (px_up (px_up (px_up h 107 0 (h 101 0)) 107 1 (h 101 1)) 107 2 (h 101 2)) 107 3 (h 101 3)) := Fr_up (Fr_up (Fr_up (Fr_up (Fr_rf _ _ _) _ rfl) _ rfl) _ rfl) _ rfl
  obtain ⟨⟨ls, g⟩, e1, e2, e3, e4, e5⟩ := lp ([(2, 107), (2, 101), (0, 0)], px_up (px_up (px_up (px_up h 107 0 (h 101 0)) 107 1 (h 101 1)) 107 2 (h 101 2)) 107 3 (h 101 3)) rfl ⟨rfl, F0, ⟨rfl, rfl, rfl, rfl⟩, fun b hb => absurd hb (by omega)⟩
  simp only at e1 e2 e3 e4 e5
  subst e2
  refine ⟨g, ?_, e3, e4, e5⟩
  rw [eq_Row_become_0]
  simp only [px_rd_mk, px_wr_mk, Int.reduceToNat, Int.toNat_natCast, if_true, if_false, Option.bind_some, px_up_cell, px_up_slot, px_up_eq, ne_eq, Nat.reduceEqDiff, not_false_eq_true, Int.reduceEq, Int.reduceLT, Int.reduceLE, Int.reduceNeg, decide_true, decide_false, Bool.and_true, Bool.true_and, Bool.and_false, Bool.false_and, and_self, and_true, true_and, and_false, false_and, bi_T, bi_F, not_true_eq_false, Bool.false_eq_true, kg_107, kg_101]
  rw [eq_Row_become_32, e1, eq_Row_become_34, if_neg (by decide)]
theorem bec_112_101 {h : hp} (hI : IR h) : ∃ g : hp, px_R (mm_Row_become, 0, [(2, 112), (2, 101), (9, 0)], [], (K0, h)) = some (0, (K0, g)) ∧ Fr [113, 114, 115, 116] [(112, 0), (112, 1), (112, 2), (112, 3)] h g ∧ (g 112 0 = h 101 0 ∧ g 112 1 = h 101 1 ∧ g 112 2 = h 101 2 ∧ g 112 3 = h 101 3) ∧ ∀ b : Nat, b < 40 → g 113 b = h 102 b ∧ g 114 b = h 103 b ∧ g 115 b = h 104 b ∧ g 116 b = h 105 b := by
  have lp := px_lp (fun s : List pv × hp => px_R (mm_Row_become, 34, s.1, [], (K0, s.2))) (fun i s => s.1 = [(2, 112), (2, 101), (0, (i : Int))] ∧ Fr [113, 114, 115, 116] [(112, 0), (112, 1), (112, 2), (112, 3)] h s.2 ∧ (s.2 112 0 = h 101 0 ∧ s.2 112 1 = h 101 1 ∧ s.2 112 2 = h 101 2 ∧ s.2 112 3 = h 101 3) ∧ ∀ b : Nat, b < i → s.2 113 b = h 102 b ∧ s.2 114 b = h 103 b ∧ s.2 115 b = h 104 b ∧ s.2 116 b = h 105 b) 40 (by
    rintro i ⟨ls, g⟩ hi ⟨h1, h2, h3, h4⟩
    simp only at h1 h2 h3 h4
    subst h1
    have hlt : ((i : Int) < 40) = True := by simp; omega
    have hb : (decide ((0 : Int) ≤ (i : Int)) && decide (True)) = true := by simp
    have w3 : px_w ((i : Int) + 1) = ((i + 1 : Nat) : Int) := by rw [px_w_id (by omega) (by omega)]; omega
    have I := IR_Fr hI h2 (by decide)
    have f1 := h2 102 i rfl
    have f2 := h2 103 i rfl
    have f3 := h2 104 i rfl
    have f4 := h2 105 i rfl
    refine ⟨([(2, 112), (2, 101), (0, ((i + 1 : Nat) : Int))], px_up (px_up (px_up (px_up g 113 i (h 102 i)) 114 i (h 103 i)) 115 i (h 104 i)) 116 i (h 105 i)), ?_, rfl, Fr_up (Fr_up (Fr_up (Fr_up h2 _ rfl) _ rfl) _ rfl) _ rfl, h3, ?_⟩
    · show px_R (mm_Row_become, 34, _, [], (K0, g)) = _
      rw [eq_Row_become_34]
      simp only [px_rd_mk, px_wr_mk, Int.reduceToNat, Int.toNat_natCast, if_true, if_false, Option.bind_some, px_up_cell, px_up_slot, px_up_eq, ne_eq, Nat.reduceEqDiff, not_false_eq_true, Int.reduceEq, Int.reduceLT, Int.reduceLE, Int.reduceNeg, decide_true, decide_false, Bool.and_true, Bool.true_and, Bool.and_false, Bool.false_and, and_self, and_true, true_and, and_false, false_and, bi_T, bi_F, not_true_eq_false, Bool.false_eq_true, kg_112, kg_101, ka_113, ka_114, ka_115, ka_116, ka_102, ka_103, ka_104, ka_105, ir_112_4 I, ir_112_5 I, ir_112_6 I, ir_112_7 I, ir_101_4 I, ir_101_5 I, ir_101_6 I, ir_101_7 I, hlt, hb, w3, Int.natCast_nonneg, f1, f2, f3, f4, eq_Row_become_88]
    · intro b hb
      simp only [px_up_cell, px_up_slot, px_up_eq, ne_eq, Nat.reduceEqDiff, not_false_eq_true, px_up_at]
      by_cases e : b = i
      · rw [if_pos e, if_pos e, if_pos e, if_pos e, e]
        exact ⟨rfl, rfl, rfl, rfl⟩
      · rw [if_neg e, if_neg e, if_neg e, if_neg e]
        exact h4 b (by omega)) 40 0
  have F0 : Fr [113, 114, 115, 116] [(112, 0), (112, 1), (112, 2), (112, 3)] h (px_up (px_up (px_up (px_up h 112 0 (h 101 0)) 112 1 (h 101 1)) 112 2 (h 101 2)) 112 3 (h 101 3)) := Fr_up (Fr_up (Fr_up (Fr_up (Fr_rf _ _ _) _ rfl) _ rfl) _ rfl) _ rfl
  obtain ⟨⟨ls, g⟩, e1, e2, e3, e4, e5⟩ := lp ([(2, 112), (2, 101), (0, 0)], px_up (px_up (px_up (px_up h 112 0 (h 101 0)) 112 1 (h 101 1)) 112 2 (h 101 2)) 112 3 (h 101 3)) rfl ⟨rfl, F0, ⟨rfl, rfl, rfl, rfl⟩, fun b hb => absurd hb (by omega)⟩
  simp only at e1 e2 e3 e4 e5
  subst e2
  refine ⟨g, ?_, e3, e4, e5⟩
  rw [eq_Row_become_0]
  simp only [px_rd_mk, px_wr_mk, Int.reduceToNat, Int.toNat_natCast, if_true, if_false, Option.bind_some, px_up_cell, px_up_slot, px_up_eq, ne_eq, Nat.reduceEqDiff, not_false_eq_true, Int.reduceEq, Int.reduceLT, Int.reduceLE, Int.reduceNeg, decide_true, decide_false, Bool.and_true, Bool.true_and, Bool.and_false, Bool.false_and, and_self, and_true, true_and, and_false, false_and, bi_T, bi_F, not_true_eq_false, Bool.false_eq_true, kg_112, kg_101]
  rw [eq_Row_become_32, e1, eq_Row_become_34, if_neg (by decide)]
theorem bec_117_101 {h : hp} (hI : IR h) : ∃ g : hp, px_R (mm_Row_become, 0, [(2, 117), (2, 101), (9, 0)], [], (K0, h)) = some (0, (K0, g)) ∧ Fr [118, 119, 120, 121] [(117, 0), (117, 1), (117, 2), (117, 3)] h g ∧ (g 117 0 = h 101 0 ∧ g 117 1 = h 101 1 ∧ g 117 2 = h 101 2 ∧ g 117 3 = h 101 3) ∧ ∀ b : Nat, b < 40 → g 118 b = h 102 b ∧ g 119 b = h 103 b ∧ g 120 b = h 104 b ∧ g 121 b = h 105 b := by
  have lp := px_lp (fun s : List pv × hp => px_R (mm_Row_become, 34, s.1, [], (K0, s.2))) (fun i s => s.1 = [(2, 117), (2, 101), (0, (i : Int))] ∧ Fr [118, 119, 120, 121] [(117, 0), (117, 1), (117, 2), (117, 3)] h s.2 ∧ (s.2 117 0 = h 101 0 ∧ s.2 117 1 = h 101 1 ∧ s.2 117 2 = h 101 2 ∧ s.2 117 3 = h 101 3) ∧ ∀ b : Nat, b < i → s.2 118 b = h 102 b ∧ s.2 119 b = h 103 b ∧ s.2 120 b = h 104 b ∧ s.2 121 b = h 105 b) 40 (by
    rintro i ⟨ls, g⟩ hi ⟨h1, h2, h3, h4⟩
    simp only at h1 h2 h3 h4
    subst h1
    have hlt : ((i : Int) < 40) = True := by simp; omega
    have hb : (decide ((0 : Int) ≤ (i : Int)) && decide (True)) = true := by simp
    have w3 : px_w ((i : Int) + 1) = ((i + 1 : Nat) : Int) := by rw [px_w_id (by omega) (by omega)]; omega
    have I := IR_Fr hI h2 (by decide)
    have f1 := h2 102 i rfl
    have f2 := h2 103 i rfl
    have f3 := h2 104 i rfl
    have f4 := h2 105 i rfl
    refine ⟨([(2, 117), (2, 101), (0, ((i + 1 : Nat) : Int))], px_up (px_up (px_up (px_up g 118 i (h 102 i)) 119 i (h 103 i)) 120 i (h 104 i)) 121 i (h 105 i)), ?_, rfl, Fr_up (Fr_up (Fr_up (Fr_up h2 _ rfl) _ rfl) _ rfl) _ rfl, h3, ?_⟩
    · show px_R (mm_Row_become, 34, _, [], (K0, g)) = _
      rw [eq_Row_become_34]
      simp only [px_rd_mk, px_wr_mk, Int.reduceToNat, Int.toNat_natCast, if_true, if_false, Option.bind_some, px_up_cell, px_up_slot, px_up_eq, ne_eq, Nat.reduceEqDiff, not_false_eq_true, Int.reduceEq, Int.reduceLT, Int.reduceLE, Int.reduceNeg, decide_true, decide_false, Bool.and_true, Bool.true_and, Bool.and_false, Bool.false_and, and_self, and_true, true_and, and_false, false_and, bi_T, bi_F, not_true_eq_false, Bool.false_eq_true, kg_117, kg_101, ka_118, ka_119, ka_120, ka_121, ka_102, ka_103, ka_104, ka_105, ir_117_4 I, ir_117_5 I, ir_117_6 I, ir_117_7 I, ir_101_4 I, ir_101_5 I, ir_101_6 I, ir_101_7 I, hlt, hb, w3, Int.natCast_nonneg, f1, f2, f3, f4, eq_Row_become_88]
    · intro b hb
      simp only [px_up_cell, px_up_slot, px_up_eq, ne_eq, Nat.reduceEqDiff, not_false_eq_true, px_up_at]
      by_cases e : b = i
      · rw [if_pos e, if_pos e, if_pos e, if_pos e, e]
        exact ⟨rfl, rfl, rfl, rfl⟩
      · rw [if_neg e, if_neg e, if_neg e, if_neg e]
        exact h4 b (by omega)) 40 0
  have F0 : Fr [118, 119, 120, 121] [(117, 0), (117, 1), (117, 2), (117, 3)] h (px_up (px_up (px_up (px_up h 117 0 (h 101 0)) 117 1 (h 101 1)) 117 2 (h 101 2)) 117 3 (h 101 3)) := Fr_up (Fr_up (Fr_up (Fr_up (Fr_rf _ _ _) _ rfl) _ rfl) _ rfl) _ rfl
  obtain ⟨⟨ls, g⟩, e1, e2, e3, e4, e5⟩ := lp ([(2, 117), (2, 101), (0, 0)], px_up (px_up (px_up (px_up h 117 0 (h 101 0)) 117 1 (h 101 1)) 117 2 (h 101 2)) 117 3 (h 101 3)) rfl ⟨rfl, F0, ⟨rfl, rfl, rfl, rfl⟩, fun b hb => absurd hb (by omega)⟩
  simp only at e1 e2 e3 e4 e5
  subst e2
  refine ⟨g, ?_, e3, e4, e5⟩
  rw [eq_Row_become_0]
  simp only [px_rd_mk, px_wr_mk, Int.reduceToNat, Int.toNat_natCast, if_true, if_false, Option.bind_some, px_up_cell, px_up_slot, px_up_eq, ne_eq, Nat.reduceEqDiff, not_false_eq_true, Int.reduceEq, Int.reduceLT, Int.reduceLE, Int.reduceNeg, decide_true, decide_false, Bool.and_true, Bool.true_and, Bool.and_false, Bool.false_and, and_self, and_true, true_and, and_false, false_and, bi_T, bi_F, not_true_eq_false, Bool.false_eq_true, kg_117, kg_101]
  rw [eq_Row_become_32, e1, eq_Row_become_34, if_neg (by decide)]
theorem bec_101_107 {h : hp} (hI : IR h) : ∃ g : hp, px_R (mm_Row_become, 0, [(2, 101), (2, 107), (9, 0)], [], (K0, h)) = some (0, (K0, g)) ∧ Fr [102, 103, 104, 105] [(101, 0), (101, 1), (101, 2), (101, 3)] h g ∧ (g 101 0 = h 107 0 ∧ g 101 1 = h 107 1 ∧ g 101 2 = h 107 2 ∧ g 101 3 = h 107 3) ∧ ∀ b : Nat, b < 40 → g 102 b = h 108 b ∧ g 103 b = h 109 b ∧ g 104 b = h 110 b ∧ g 105 b = h 111 b := by
  have lp := px_lp (fun s : List pv × hp => px_R (mm_Row_become, 34, s.1, [], (K0, s.2))) (fun i s => s.1 = [(2, 101), (2, 107), (0, (i : Int))] ∧ Fr [102, 103, 104, 105] [(101, 0), (101, 1), (101, 2), (101, 3)] h s.2 ∧ (s.2 101 0 = h 107 0 ∧ s.2 101 1 = h 107 1 ∧ s.2 101 2 = h 107 2 ∧ s.2 101 3 = h 107 3) ∧ ∀ b : Nat, b < i → s.2 102 b = h 108 b ∧ s.2 103 b = h 109 b ∧ s.2 104 b = h 110 b ∧ s.2 105 b = h 111 b) 40 (by
    rintro i ⟨ls, g⟩ hi ⟨h1, h2, h3, h4⟩
    simp only at h1 h2 h3 h4
    subst h1
    have hlt : ((i : Int) < 40) = True := by simp; omega
    have hb : (decide ((0 : Int) ≤ (i : Int)) && decide (True)) = true := by simp
    have w3 : px_w ((i : Int) + 1) = ((i + 1 : Nat) : Int) := by rw [px_w_id (by omega) (by omega)]; omega
    have I := IR_Fr hI h2 (by decide)
    have f1 := h2 108 i rfl
    have f2 := h2 109 i rfl
    have f3 := h2 110 i rfl
    have f4 := h2 111 i rfl
    refine ⟨([(2, 101), (2, 107), (0, ((i + 1 : Nat) : Int))], px_up (px_up (px_up (px_up g 102 i (h 108 i)) 103 i (h 109 i)) 104 i (h 110 i)) 105 i (h 111 i)), ?_, rfl, Fr_up (Fr_up (Fr_up (Fr_up h2 _ rfl) _ rfl) _ rfl) _ rfl, h3, ?_⟩
    · show px_R (mm_Row_become, 34, _, [], (K0, g)) = _
      rw [eq_Row_become_34]
      simp only [px_rd_mk, px_wr_mk, Int.reduceToNat, Int.toNat_natCast, if_true, if_false, Option.bind_some, px_up_cell, px_up_slot, px_up_eq, ne_eq, Nat.reduceEqDiff, not_false_eq_true, Int.reduceEq, Int.reduceLT, Int.reduceLE, Int.reduceNeg, decide_true, decide_false, Bool.and_true, Bool.true_and, Bool.and_false, Bool.false_and, and_self, and_true, true_and, and_false, false_and, bi_T, bi_F, not_true_eq_false, Bool.false_eq_true, kg_101, kg_107, ka_102, ka_103, ka_104, ka_105, ka_108, ka_109, ka_110, ka_111, ir_101_4 I, ir_101_5 I, ir_101_6 I, ir_101_7 I, ir_107_4 I, ir_107_5 I, ir_107_6 I, ir_107_7 I, hlt, hb, w3, Int.natCast_nonneg, f1, f2, f3, f4, eq_Row_become_88]
    · intro b hb
      simp only [px_up_cell, px_up_slot, px_up_eq, ne_eq, Nat.reduceEqDiff, not_false_eq_true, px_up_at]
      by_cases e : b = i
      · rw [if_pos e, if_pos e, if_pos e, if_pos e, e]
        exact ⟨rfl, rfl, rfl, rfl⟩
      · rw [if_neg e, if_neg e, if_neg e, if_neg e]
        exact h4 b (by omega)) 40 0
  have F0 : Fr [102, 103, 104, 105] [(101, 0), (101, 1), (101, 2), (101, 3)] h (px_up (px_up (px_up (px_up h 101 0 (h 107 0)) 101 1 (h 107 1)) 101 2 (h 107 2)) 101 3 (h 107 3)) := Fr_up (Fr_up (Fr_up (Fr_up (Fr_rf _ _ _) _ rfl) _ rfl) _ rfl) _ rfl
  obtain ⟨⟨ls, g⟩, e1, e2, e3, e4, e5⟩ := lp ([(2, 101), (2, 107), (0, 0)], px_up (px_up (px_up (px_up h 101 0 (h 107 0)) 101 1 (h 107 1)) 101 2 (h 107 2)) 101 3 (h 107 3)) rfl ⟨rfl, F0, ⟨rfl, rfl, rfl, rfl⟩, fun b hb => absurd hb (by omega)⟩
  simp only at e1 e2 e3 e4 e5
  subst e2
  refine ⟨g, ?_, e3, e4, e5⟩
  rw [eq_Row_become_0]
  simp only [px_rd_mk, px_wr_mk, Int.reduceToNat, Int.toNat_natCast, if_true, if_false, Option.bind_some, px_up_cell, px_up_slot, px_up_eq, ne_eq, Nat.reduceEqDiff, not_false_eq_true, Int.reduceEq, Int.reduceLT, Int.reduceLE, Int.reduceNeg, decide_true, decide_false, Bool.and_true, Bool.true_and, Bool.and_false, Bool.false_and, and_self, and_true, true_and, and_false, false_and, bi_T, bi_F, not_true_eq_false, Bool.false_eq_true, kg_101, kg_107]
  rw [eq_Row_become_32, e1, eq_Row_become_34, if_neg (by decide)]
theorem bec_101_112 {h : hp} (hI : IR h) : ∃ g : hp, px_R (mm_Row_become, 0, [(2, 101), (2, 112), (9, 0)], [], (K0, h)) = some (0, (K0, g)) ∧ Fr [102, 103, 104, 105] [(101, 0), (101, 1), (101, 2), (101, 3)] h g ∧ (g 101 0 = h 112 0 ∧ g 101 1 = h 112 1 ∧ g 101 2 = h 112 2 ∧ g 101 3 = h 112 3) ∧ ∀ b : Nat, b < 40 → g 102 b = h 113 b ∧ g 103 b = h 114 b ∧ g 104 b = h 115 b ∧ g 105 b = h 116 b := by
  have lp := px_lp (fun s : List pv × hp => px_R (mm_Row_become, 34, s.1, [], (K0, s.2))) (fun i s => s.1 = [(2, 101), (2, 112), (0, (i : Int))] ∧ Fr [102, 103, 104, 105] [(101, 0), (101, 1), (101, 2), (101, 3)] h s.2 ∧ (s.2 101 0 = h 112 0 ∧ s.2 101 1 = h 112 1 ∧ s.2 101 2 = h 112 2 ∧ s.2 101 3 = h 112 3) ∧ ∀ b : Nat, b < i → s.2 102 b = h 113 b ∧ s.2 103 b = h 114 b ∧ s.2 104 b = h 115 b ∧ s.2 105 b = h 116 b) 40 (by
    rintro i ⟨ls, g⟩ hi ⟨h1, h2, h3, h4⟩
    simp only at h1 h2 h3 h4
    subst h1
    have hlt : ((i : Int) < 40) = True := by simp; omega
    have hb : (decide ((0 : Int) ≤ (i : Int)) && decide (True)) = true := by simp
    have w3 : px_w ((i : Int) + 1) = ((i + 1 : Nat) : Int) := by rw [px_w_id (by omega) (by omega)]; omega
    have I := IR_Fr hI h2 (by decide)
    have f1 := h2 113 i rfl
    have f2 := h2 114 i rfl
    have f3 := h2 115 i rfl
    have f4 := h2 116 i rfl
    refine ⟨([(2, 101), (2, 112), (0, ((i + 1 : Nat) : Int))], px_up (px_up (px_up (px_up g 102 i (h 113 i)) 103 i (h 114 i)) 104 i (h 115 i)) 105 i (h 116 i)), ?_, rfl, Fr_up (Fr_up (Fr_up (Fr_up h2 _ rfl) _ rfl) _ rfl) _ rfl, h3, ?_⟩
    · show px_R (mm_Row_become, 34, _, [], (K0, g)) = _
      rw [eq_Row_become_34]
      simp only [px_rd_mk, px_wr_mk, Int.reduceToNat, Int.toNat_natCast, if_true, if_false, Option.bind_some, px_up_cell, px_up_slot, px_up_eq, ne_eq, Nat.reduceEqDiff, not_false_eq_true, Int.reduceEq, Int.reduceLT, Int.reduceLE, Int.reduceNeg, decide_true, decide_false, Bool.and_true, Bool.true_and, Bool.and_false, Bool.false_and, and_self, and_true, true_and, and_false, false_and, bi_T, bi_F, not_true_eq_false, Bool.false_eq_true, kg_101, kg_112, ka_102, ka_103, ka_104, ka_105, ka_113, ka_114, ka_115, ka_116, ir_101_4 I, ir_101_5 I, ir_101_6 I, ir_101_7 I, ir_112_4 I, ir_112_5 I, ir_112_6 I, ir_112_7 I, hlt, hb, w3, Int.natCast_nonneg, f1, f2, f3, f4, eq_Row_become_88]
    · intro b hb
      simp only [px_up_cell, px_up_slot, px_up_eq, ne_eq, Nat.reduceEqDiff, not_false_eq_true, px_up_at]
      by_cases e : b = i
      · rw [if_pos e, if_pos e, if_pos e, if_pos e, e]
        exact ⟨rfl, rfl, rfl, rfl⟩
      · rw [if_neg e, if_neg e, if_neg e, if_neg e]
        exact h4 b (by omega)) 40 0
  have F0 : Fr [102, 103, 104, 105] [(101, 0), (101, 1), (101, 2), (101, 3)] h (px_up (px_up (px_up (px_up h 101 0 (h 112 0)) 101 1 (h 112 1)) 101 2 (h 112 2)) 101 3 (h 112 3)) := Fr_up (Fr_up (Fr_up (Fr_up (Fr_rf _ _ _) _ rfl) _ rfl) _ rfl) _ rfl
  obtain ⟨⟨ls, g⟩, e1, e2, e3, e4, e5⟩ := lp ([(2, 101), (2, 112), (0, 0)], px_up (px_up (px_up (px_up h 101 0 (h 112 0)) 101 1 (h 112 1)) 101 2 (h 112 2)) 101 3 (h 112 3)) rfl ⟨rfl, F0, ⟨rfl, rfl, rfl, rfl⟩, fun b hb => absurd hb (by omega)⟩
  simp only at e1 e2 e3 e4 e5
  subst e2
  refine ⟨g, ?_, e3, e4, e5⟩
  rw [eq_Row_become_0]
  simp only [px_rd_mk, px_wr_mk, Int.reduceToNat, Int.toNat_natCast, if_true, if_false, Option.bind_some, px_up_cell, px_up_slot, px_up_eq, ne_eq, Nat.reduceEqDiff, not_false_eq_true, Int.reduceEq, Int.reduceLT, Int.reduceLE, Int.reduceNeg, decide_true, decide_false, Bool.and_true, Bool.true_and, Bool.and_false, Bool.false_and, and_self, and_true, true_and, and_false, false_and, bi_T, bi_F, not_true_eq_false, Bool.false_eq_true, kg_101, kg_112]
  rw [eq_Row_become_32, e1, eq_Row_become_34, if_neg (by decide)]
theorem bec_101_117 {h : hp} (hI : IR h) : ∃ g : hp, px_R (mm_Row_become, 0, [(2, 101), (2, 117), (9, 0)], [], (K0, h)) = some (0, (K0, g)) ∧ Fr [102, 103, 104, 105] [(101, 0), (101, 1), (101, 2), (101, 3)] h g ∧ (g 101 0 = h 117 0 ∧ g 101 1 = h 117 1 ∧ g 101 2 = h 117 2 ∧ g 101 3 = h 117 3) ∧ ∀ b : Nat, b < 40 → g 102 b = h 118 b ∧ g 103 b = h 119 b ∧ g 104 b = h 120 b ∧ g 105 b = h 121 b := by
  have lp := px_lp (fun s : List pv × hp => px_R (mm_Row_become, 34, s.1, [], (K0, s.2))) (fun i s => s.1 = [(2, 101), (2, 117), (0, (i : Int))] ∧ Fr [102, 103, 104, 105] [(101, 0), (101, 1), (101, 2), (101, 3)] h s.2 ∧ (s.2 101 0 = h 117 0 ∧ s.2 101 1 = h 117 1 ∧ s.2 101 2 = h 117 2 ∧ s.2 101 3 = h 117 3) ∧ ∀ b : Nat, b < i → s.2 102 b = h 118 b ∧ s.2 103 b = h 119 b ∧ s.2 104 b = h 120 b ∧ s.2 105 b = h 121 b) 40 (by
    rintro i ⟨ls, g⟩ hi ⟨h1, h2, h3, h4⟩
    simp only at h1 h2 h3 h4
    subst h1
    have hlt : ((i : Int) < 40) = True := by simp; omega
    have hb : (decide ((0 : Int) ≤ (i : Int)) && decide (True)) = true := by simp
    have w3 : px_w ((i : Int) + 1) = ((i + 1 : Nat) : Int) := by rw [px_w_id (by omega) (by omega)]; omega
    have I := IR_Fr hI h2 (by decide)
    have f1 := h2 118 i rfl
    have f2 := h2 119 i rfl
    have f3 := h2 120 i rfl
    have f4 := h2 121 i rfl
    refine ⟨([(2, 101), (2, 117), (0, ((i + 1 : Nat) : Int))], px_up (px_up (px_up (px_up g 102 i (h 118 i)) 103 i (h 119 i)) 104 i (h 120 i)) 105 i (h 121 i)), ?_, rfl, Fr_up (Fr_up (Fr_up (Fr_up h2 _ rfl) _ rfl) _ rfl) _ rfl, h3, ?_⟩
    · show px_R (mm_Row_become, 34, _, [], (K0, g)) = _
      rw [eq_Row_become_34]
      simp only [px_rd_mk, px_wr_mk, Int.reduceToNat, Int.toNat_natCast, if_true, if_false, Option.bind_some, px_up_cell, px_up_slot, px_up_eq, ne_eq, Nat.reduceEqDiff, not_false_eq_true, Int.reduceEq, Int.reduceLT, Int.reduceLE, Int.reduceNeg, decide_true, decide_false, Bool.and_true, Bool.true_and, Bool.and_false, Bool.false_and, and_self, and_true, true_and, and_false, false_and, bi_T, bi_F, not_true_eq_false, Bool.false_eq_true, kg_101, kg_117, ka_102, ka_103, ka_104, ka_105, ka_118, ka_119, ka_120, ka_121, ir_101_4 I, ir_101_5 I, ir_101_6 I, ir_101_7 I, ir_117_4 I, ir_117_5 I, ir_117_6 I, ir_117_7 I, hlt, hb, w3, Int.natCast_nonneg, f1, f2, f3, f4, eq_Row_become_88]
    · intro b hb
      simp only [px_up_cell, px_up_slot, px_up_eq, ne_eq, Nat.reduceEqDiff, not_false_eq_true, px_up_at]
      by_cases e : b = i
      · rw [if_pos e, if_pos e, if_pos e, if_pos e, e]
        exact ⟨rfl, rfl, rfl, rfl⟩
      · rw [if_neg e, if_neg e, if_neg e, if_neg e]
        exact h4 b (by omega)) 40 0
  have F0 : Fr [102, 103, 104, 105] [(101, 0), (101, 1), (101, 2), (101, 3)] h (px_up (px_up (px_up (px_up h 101 0 (h 117 0)) 101 1 (h 117 1)) 101 2 (h 117 2)) 101 3 (h 117 3)) := Fr_up (Fr_up (Fr_up (Fr_up (Fr_rf _ _ _) _ rfl) _ rfl) _ rfl) _ rfl
  obtain ⟨⟨ls, g⟩, e1, e2, e3, e4, e5⟩ := lp ([(2, 101), (2, 117), (0, 0)], px_up (px_up (px_up (px_up h 101 0 (h 117 0)) 101 1 (h 117 1)) 101 2 (h 117 2)) 101 3 (h 117 3)) rfl ⟨rfl, F0, ⟨rfl, rfl, rfl, rfl⟩, fun b hb => absurd hb (by omega)⟩
  simp only at e1 e2 e3 e4 e5
  subst e2
  refine ⟨g, ?_, e3, e4, e5⟩
  rw [eq_Row_become_0]
  simp only [px_rd_mk, px_wr_mk, Int.reduceToNat, Int.toNat_natCast, if_true, if_false, Option.bind_some, px_up_cell, px_up_slot, px_up_eq, ne_eq, Nat.reduceEqDiff, not_false_eq_true, Int.reduceEq, Int.reduceLT, Int.reduceLE, Int.reduceNeg, decide_true, decide_false, Bool.and_true, Bool.true_and, Bool.and_false, Bool.false_and, and_self, and_true, true_and, and_false, false_and, bi_T, bi_F, not_true_eq_false, Bool.false_eq_true, kg_101, kg_117]
  rw [eq_Row_become_32, e1, eq_Row_become_34, if_neg (by decide)]
