/-! stretch; write and right. -/
def nst (h : hp) (i : Nat) : hp := fun a b => if a = 140 ∧ b < i then (if 82 ≤ b ∧ b ≤ 121 then 100 else 0) else h a b
theorem nst_o (h : hp) (i : Nat) {a : Nat} (b : Nat) (ha : a ≠ 140) : nst h i a b = h a b := if_neg fun q => ha q.1
theorem nst_0 (h : hp) : nst h 0 = h := by
  funext a b
  unfold nst
  rw [if_neg (by omega)]
theorem nst_in (h : hp) {i b : Nat} (hb : b < i) : nst h i 140 b = if 82 ≤ b ∧ b ≤ 121 then 100 else 0 := if_pos ⟨rfl, hb⟩
theorem nst_no (h : hp) {i b : Nat} (hb : ¬ b < i) : nst h i 140 b = h 140 b := if_neg fun q => hb q.2
theorem nst_s (h : hp) (i : Nat) : px_up (nst h i) 140 i (if 82 ≤ i ∧ i ≤ 121 then 100 else 0) = nst h (i + 1) := by
  funext a b
  by_cases ha : a = 140
  · subst ha
    rw [px_up_at]
    by_cases e : b = i
    · subst e
      rw [if_pos rfl, nst_in h (Nat.lt_succ_self b)]
    · rw [if_neg e]
      by_cases e2 : b < i
      · rw [nst_in h e2, nst_in h (Nat.lt_succ_of_lt e2)]
      · rw [nst_no h e2, nst_no h (by omega)]
  · rw [px_up_cell _ _ _ _ ha, nst_o _ _ _ ha, nst_o _ _ _ ha]
def nstd (h : hp) (n : Int) : hp := px_up (px_up (px_up (nst h 162) 140 0 n) 141 0 0) 141 1 0
theorem nst_loop {h : hp} (hI : IR h) (x1 : Int) (n : Nat) : ∀ i : Nat, i + n = 162 → px_R (mm_Mod_newStretch, 2, [(2, 123), (0, x1), (0, (i : Int))], [], (K0, nst h i)) = some (0, (K0, nstd h x1)) := by
  induction n with
  | zero =>
    intro i hi
    have : i = 162 := hi
    subst this
    have q5 : nst h 162 123 35 = 140 := (nst_o _ _ _ (by decide)).trans (ir_123_35 hI)
    have q6 : nst h 162 123 36 = 141 := (nst_o _ _ _ (by decide)).trans (ir_123_36 hI)
    rw [eq_Mod_newStretch_2, if_neg (by decide)]
    simp only [px_rd_mk, px_wr_mk, Int.reduceToNat, Int.toNat_natCast, if_true, if_false, Option.bind_some, px_up_cell, px_up_slot, px_up_eq, ne_eq, Nat.reduceEqDiff, not_false_eq_true, Int.reduceEq, Int.reduceLT, Int.reduceLE, Int.reduceNeg, decide_true, decide_false, Bool.and_true, Bool.true_and, Bool.and_false, Bool.false_and, and_self, and_true, true_and, and_false, false_and, bi_T, bi_F, not_true_eq_false, Bool.false_eq_true, kg_123, ka_140, ka_141, q5, q6]
    rfl
  | succ n ih =>
    intro i hi
    have hlt : ((i : Int) < 162) = True := by simp; omega
    have hb : (decide ((0 : Int) ≤ (i : Int)) && decide ((i : Int) < 648)) = true := by simp; omega
    have q5 : nst h i 123 35 = 140 := (nst_o _ _ _ (by decide)).trans (ir_123_35 hI)
    have w3 : px_w ((i : Int) + 1) = ((i + 1 : Nat) : Int) := by rw [px_w_id (by omega) (by omega)]; omega
    have cs := nst_s h i
    by_cases e : 82 ≤ i ∧ i ≤ 121
    · have e2 : (82 : Int) ≤ (i : Int) ∧ (i : Int) ≤ 121 := by omega
      rw [if_pos e] at cs
      rw [eq_Mod_newStretch_2]
      simp only [px_rd_mk, px_wr_mk, Int.reduceToNat, Int.toNat_natCast, if_true, if_false, Option.bind_some, px_up_cell, px_up_slot, px_up_eq, ne_eq, Nat.reduceEqDiff, not_false_eq_true, Int.reduceEq, Int.reduceLT, Int.reduceLE, Int.reduceNeg, decide_true, decide_false, Bool.and_true, Bool.true_and, Bool.and_false, Bool.false_and, and_self, and_true, true_and, and_false, false_and, bi_T, bi_F, not_true_eq_false, Bool.false_eq_true, kg_123, ka_140, q5, hlt, hb, R_Mod_in, bi_t e2, w3, cs]
      exact ih (i + 1) (by omega)
    · have e2 : ¬ ((82 : Int) ≤ (i : Int) ∧ (i : Int) ≤ 121) := by omega
      rw [if_neg e] at cs
      rw [eq_Mod_newStretch_2]
      simp only [px_rd_mk, px_wr_mk, Int.reduceToNat, Int.toNat_natCast, if_true, if_false, Option.bind_some, px_up_cell, px_up_slot, px_up_eq, ne_eq, Nat.reduceEqDiff, not_false_eq_true, Int.reduceEq, Int.reduceLT, Int.reduceLE, Int.reduceNeg, decide_true, decide_false, Bool.and_true, Bool.true_and, Bool.and_false, Bool.false_and, and_self, and_true, true_and, and_false, false_and, bi_T, bi_F, not_true_eq_false, Bool.false_eq_true, kg_123, ka_140, q5, hlt, hb, R_Mod_in, bi_f e2, w3, cs]
      exact ih (i + 1) (by omega)
theorem R_Mod_newStretch {h : hp} (hI : IR h) (x1 : Int) : px_R (mm_Mod_newStretch, 0, [(2, 123), (0, x1), (9, 0)], [], (K0, h)) = some (0, (K0, nstd h x1)) := by
  have e := nst_loop hI x1 162 0 (by decide)
  rw [nst_0] at e
  rw [eq_Mod_newStretch_0]
  exact e
theorem laid_Fr (h : hp) (n : Int) : Fr [102, 103, 104, 105] [(101, 0), (101, 1), (101, 2), (101, 3)] h (laid h n) := fun a b e => by
  rw [fin_f] at e
  simp at e
  unfold laid layh
  rw [if_neg (by omega)]
  by_cases q : 0 ≤ b ∧ b < 40
  · rw [if_pos q, if_neg (by omega), if_neg (by omega)]
  · rw [if_neg q]
theorem nstd_Fr (h : hp) (n : Int) : Fr [140, 141] [] h (nstd h n) := by
  have F0 : Fr [140, 141] [] h (nst h 162) := fun a b e => by
    rw [fin_f] at e
    simp at e
    exact nst_o _ _ _ e.1
  exact Fr_up (Fr_up (Fr_up F0 _ rfl) _ rfl) _ rfl
theorem laid_2 (h : hp) (n : Int) {i : Nat} (hi : i < 40) : laid h n 102 i = 0 ∧ laid h n 103 i = 0 ∧ laid h n 104 i = 100 ∧ laid h n 105 i = 0 := by simp [laid, layh, hi]
theorem laid_ok {c m : hp} (n : Int) : CR2 (laid c n) (nstd m n) := by
  refine ⟨rfl, rfl, rfl, rfl, fun i hi => ?_⟩
  obtain ⟨l1, l2, l3, l4⟩ := laid_2 c n hi
  have o : ∀ b : Nat, b ≠ 0 → b < 162 → nstd m n 140 b = if 82 ≤ b ∧ b ≤ 121 then 100 else 0 := fun b hb h2 => by
    unfold nstd
    rw [px_up_cell _ _ _ _ (by decide), px_up_cell _ _ _ _ (by decide), px_up_slot _ _ _ _ hb, nst_in m h2]
  rw [l1, l2, l3, l4, o _ (by omega) (by omega), o _ (by omega) (by omega), o _ (by omega) (by omega), o _ (by omega) (by omega), if_neg (by omega), if_neg (by omega), if_pos (by omega), if_neg (by omega)]
  exact ⟨rfl, rfl, rfl, rfl⟩
theorem laid_RW {h : hp} {n : Int} (hn : 2 ≤ n ∧ n ≤ 40) : RW (laid h n) := by
  refine ⟨hn, fun i hi => ?_⟩
  obtain ⟨l1, l2, l3, l4⟩ := laid_2 h n hi
  rw [l1, l2, l3, l4]
  decide
theorem C_stretch {h : hp} (C : CI h) (x : Int) : AL h mm_Tin_stretch mm_Mod_stretch [(2, 1), (0, x)] [(2, 123), (0, x)] := by
  have C2 := C
  obtain ⟨n, ⟨hn, h8, h9⟩, hI, hT, hK, hS, hL, hR, hC, hKs, hW, hB⟩ := C2
  by_cases hx : 2 ≤ x ∧ x ≤ 40
  · have F0 := laid_Fr h x
    have I := IR_Fr hI F0 (by decide)
    have F1 := nstd_Fr (laid h x) x
    have F : Fr [102, 103, 104, 105, 140, 141] [(101, 0), (101, 1), (101, 2), (101, 3)] h (nstd (laid h x) x) := Fr_sub (Fr_tr F0 F1) rfl rfl
    have lay := R_Row_lay (K := K0) (fun h => kg_101 h) (fun h i => ka_102 h i) (fun h i => ka_103 h i) (fun h i => ka_104 h i) (fun h i => ka_105 h i) x h (ir_101_4 hI) (ir_101_5 hI) (ir_101_6 hI) (ir_101_7 hI)
    have mx : ∀ a b : Nat, 101 ≤ a → a ≤ 105 → nstd (laid h x) x a b = laid h x a b := fun a b h1 h2 => Fr_rg F1 101 106 rfl h1 (by omega) b
    refine ⟨x, laid h x, nstd (laid h x) x, ?_, ?_, ⟨n, SP_F F rfl ⟨hn, h8, h9⟩, IR_Fr hI F (by decide), TP_F F rfl hT, FK_F F rfl hK, ST_F hn F rfl hS, LI_F hn F rfl hL, RW_mix (laid_RW hx) mx, CR2_mix (laid_ok (c := h) (m := laid h x) x) mx (fun b _ => rfl) (fun b _ => rfl), KS_e hKs (fun a b h1 h2 => Fr_rg F 107 122 rfl h1 h2 b) (fun b hb => ?_) (fun b hb => ?_) (fun b => F 142 b rfl), WI_F hn F rfl hW, BK_F hn F rfl hB⟩⟩
    · rw [eq_Tin_stretch_0, R_Tin_within, bi_t hx]
      simp only [px_rd_mk, px_wr_mk, Int.reduceToNat, Int.toNat_natCast, if_true, if_false, Option.bind_some, px_up_cell, px_up_slot, px_up_eq, ne_eq, Nat.reduceEqDiff, not_false_eq_true, Int.reduceEq, Int.reduceLT, Int.reduceLE, Int.reduceNeg, decide_true, decide_false, Bool.and_true, Bool.true_and, Bool.and_false, Bool.false_and, and_self, and_true, true_and, and_false, false_and, bi_T, bi_F, not_true_eq_false, Bool.false_eq_true, kg_1, kg_101, ir_1_0 hI, ir_1_1 hI, ir_1_2 hI, ir_1_3 hI, ir_1_4 hI, ir_1_5 hI, ir_1_6 hI, ir_1_7 hI, lay]
    · rw [eq_Mod_stretch_0, R_Mod_in, bi_t hx]
      simp only [px_rd_mk, px_wr_mk, Int.reduceToNat, Int.toNat_natCast, if_true, if_false, Option.bind_some, px_up_cell, px_up_slot, px_up_eq, ne_eq, Nat.reduceEqDiff, not_false_eq_true, Int.reduceEq, Int.reduceLT, Int.reduceLE, Int.reduceNeg, decide_true, decide_false, Bool.and_true, Bool.true_and, Bool.and_false, Bool.false_and, and_self, and_true, true_and, and_false, false_and, bi_T, bi_F, not_true_eq_false, Bool.false_eq_true, kg_123, R_Mod_newStretch I]
    · unfold nstd
      rw [px_up_cell _ _ _ _ (by decide), px_up_cell _ _ _ _ (by decide), px_up_slot _ _ _ _ (by omega)]
      unfold nst
      rw [if_neg (by omega)]
      exact F0 140 b rfl
    · unfold nstd
      rw [px_up_slot _ _ _ _ (by omega), px_up_slot _ _ _ _ (by omega), px_up_cell _ _ _ _ (by decide), nst_o _ _ _ (by decide)]
      exact F0 141 b rfl
  · refine AL_same C (-2) ?_ ?_
    · rw [eq_Tin_stretch_0, R_Tin_within, bi_f hx]
      simp only [px_rd_mk, px_wr_mk, Int.reduceToNat, Int.toNat_natCast, if_true, if_false, Option.bind_some, px_up_cell, px_up_slot, px_up_eq, ne_eq, Nat.reduceEqDiff, not_false_eq_true, Int.reduceEq, Int.reduceLT, Int.reduceLE, Int.reduceNeg, decide_true, decide_false, Bool.and_true, Bool.true_and, Bool.and_false, Bool.false_and, and_self, and_true, true_and, and_false, false_and, bi_T, bi_F, not_true_eq_false, Bool.false_eq_true]
    · rw [eq_Mod_stretch_0, R_Mod_in, bi_f hx]
      simp only [px_rd_mk, px_wr_mk, Int.reduceToNat, Int.toNat_natCast, if_true, if_false, Option.bind_some, px_up_cell, px_up_slot, px_up_eq, ne_eq, Nat.reduceEqDiff, not_false_eq_true, Int.reduceEq, Int.reduceLT, Int.reduceLE, Int.reduceNeg, decide_true, decide_false, Bool.and_true, Bool.true_and, Bool.and_false, Bool.false_and, and_self, and_true, true_and, and_false, false_and, bi_T, bi_F, not_true_eq_false, Bool.false_eq_true]
theorem R_isStep {h : hp} (hI : IR h) (x : Int) : px_R (mm_Tin_isStep, 0, [(2, 1), (0, x)], [], (K0, h)) = some (bi (h 83 0 ≤ x ∧ x ≤ 999), (K0, h)) := by
  rw [eq_Tin_isStep_0]
  simp only [px_rd_mk, px_wr_mk, Int.reduceToNat, Int.toNat_natCast, if_true, if_false, Option.bind_some, px_up_cell, px_up_slot, px_up_eq, ne_eq, Nat.reduceEqDiff, not_false_eq_true, Int.reduceEq, Int.reduceLT, Int.reduceLE, Int.reduceNeg, decide_true, decide_false, Bool.and_true, Bool.true_and, Bool.and_false, Bool.false_and, and_self, and_true, true_and, and_false, false_and, bi_T, bi_F, not_true_eq_false, Bool.false_eq_true, kg_1, kg_83, ir_1_0 hI, ir_1_1 hI, ir_1_2 hI, ir_1_3 hI, ir_1_4 hI, ir_1_5 hI, ir_1_6 hI, ir_1_7 hI, R_Tin_within, bi_ok]
theorem C_write {h : hp} (C : CI h) (x y z : Int) : AL h mm_Tin_write mm_Mod_write [(2, 1), (0, x), (0, y), (0, z)] [(2, 123), (0, x), (0, y), (0, z)] := by
  have C2 := C
  obtain ⟨n, ⟨hn, h8, h9⟩, hI, hT, hK, hS, hL, hR, hC, hKs, hW, hB⟩ := C2
  obtain ⟨⟨b0, b0a, b0b⟩, ⟨b1, b1a, b1b⟩, b2, b3, b4, b5⟩ := hB
  have o2 := fun x => R_one hn h8 hI hS (y := 2) (k := 2) rfl (by decide) x
  have i2 := fun x => R_is hI hS (y := 2) (k := 2) rfl (by decide) x
  by_cases hx : h 83 0 ≤ x ∧ x ≤ 999
  · by_cases hy : 0 ≤ y ∧ y < h (n + 1) 2
    · by_cases hz : 0 ≤ z ∧ z < h (n + 1) 2
      · obtain ⟨L, hL1⟩ := Int.eq_ofNat_of_zero_le b1a
        by_cases h20 : L = 20
        · subst h20
          have hL2 : h 83 1 = 20 := hL1
          refine AL_same C (-3) ?_ ?_
          · rw [eq_Tin_write_0]
            simp only [px_rd_mk, px_wr_mk, Int.reduceToNat, Int.toNat_natCast, if_true, if_false, Option.bind_some, px_up_cell, px_up_slot, px_up_eq, ne_eq, Nat.reduceEqDiff, not_false_eq_true, Int.reduceEq, Int.reduceLT, Int.reduceLE, Int.reduceNeg, decide_true, decide_false, Bool.and_true, Bool.true_and, Bool.and_false, Bool.false_and, and_self, and_true, true_and, and_false, false_and, bi_T, bi_F, not_true_eq_false, Bool.false_eq_true, kg_1, kg_83, R_isStep hI, bi_t hx, o2, bi_t hy, bi_t hz, ir_1_0 hI, ir_1_1 hI, ir_1_2 hI, ir_1_3 hI, ir_1_4 hI, ir_1_5 hI, ir_1_6 hI, ir_1_7 hI, hL2]
          · rw [eq_Mod_write_0]
            simp only [px_rd_mk, px_wr_mk, Int.reduceToNat, Int.toNat_natCast, if_true, if_false, Option.bind_some, px_up_cell, px_up_slot, px_up_eq, ne_eq, Nat.reduceEqDiff, not_false_eq_true, Int.reduceEq, Int.reduceLT, Int.reduceLE, Int.reduceNeg, decide_true, decide_false, Bool.and_true, Bool.true_and, Bool.and_false, Bool.false_and, and_self, and_true, true_and, and_false, false_and, bi_T, bi_F, not_true_eq_false, Bool.false_eq_true, kg_123, R_Mod_in, b0, bi_t hx, i2, bi_t hy, bi_t hz, b1, hL2]
        · have hlt : ((L : Int) < 20) = True := by simp; omega
          have hne : ((L : Int) = 20) = False := by simp; omega
          have u1 : -2147483648 ≤ (L : Int) + 1 ∧ (L : Int) + 1 < 2147483648 := by omega
          have u2 : -2147483648 ≤ ((L + 1 : Nat) : Int) - 1 ∧ ((L + 1 : Nat) : Int) - 1 < 2147483648 := by omega
          have u3 : (L : Int) + 1 = ((L + 1 : Nat) : Int) := by omega
          have u4 : ((L + 1 : Nat) : Int) - 1 = (L : Int) := by omega
          have F0 : Fr [84, 85, 86] [(83, 0), (83, 1)] h (px_up (px_up (px_up (px_up (px_up h 83 0 x) 84 L x) 85 L y) 86 L z) 83 1 ((L + 1 : Nat) : Int)) := Fr_up (Fr_up (Fr_up (Fr_up (Fr_up (Fr_rf _ _ _) _ rfl) _ rfl) _ rfl) _ rfl) _ rfl
          have F : Fr [84, 85, 86, 151, 152, 153] [(83, 0), (83, 1), (123, 53), (123, 51)] h (px_up (px_up (px_up (px_up (px_up (px_up (px_up (px_up (px_up (px_up h 83 0 x) 84 L x) 85 L y) 86 L z) 83 1 ((L + 1 : Nat) : Int)) 123 53 x) 151 L x) 152 L y) 153 L z) 123 51 ((L + 1 : Nat) : Int)) := Fr_up (Fr_up (Fr_up (Fr_up (Fr_up (Fr_up (Fr_up (Fr_up (Fr_up (Fr_up (Fr_rf _ _ _) _ rfl) _ rfl) _ rfl) _ rfl) _ rfl) _ rfl) _ rfl) _ rfl) _ rfl) _ rfl
          have q0 := Fr_st hn F0 rfl (n + 1) (by omega) (by omega)
          have i3 := fun x => R_is (IR_Fr hI F0 (by decide)) (ST_F hn F0 rfl hS) (y := 2) (k := 2) rfl (by decide) x
          rw [q0] at i3
          have w1 : px_w ((L : Int) + 1) = ((L + 1 : Nat) : Int) := (px_w_n u1).trans u3
          have w2 : px_w (((L + 1 : Nat) : Int) - 1) = (L : Int) := (px_w_n u2).trans u4
          refine ⟨(L : Int), px_up (px_up (px_up (px_up (px_up h 83 0 x) 84 L x) 85 L y) 86 L z) 83 1 ((L + 1 : Nat) : Int), px_up (px_up (px_up (px_up (px_up (px_up (px_up (px_up (px_up (px_up h 83 0 x) 84 L x) 85 L y) 86 L z) 83 1 ((L + 1 : Nat) : Int)) 123 53 x) 151 L x) 152 L y) 153 L z) 123 51 ((L + 1 : Nat) : Int), ?_, ?_, ⟨n, SP_F F rfl ⟨hn, h8, h9⟩, IR_Fr hI F (by decide), TP_F F rfl hT, FK_F F rfl hK, ST_F hn F rfl hS, LI_F hn F rfl hL, RW_F F rfl hR, CR_F F rfl hC, KS_F F rfl hKs, WI_F hn F rfl hW, ?_⟩⟩
          · rw [eq_Tin_write_0]
            simp only [px_rd_mk, px_wr_mk, Int.reduceToNat, Int.toNat_natCast, if_true, if_false, Option.bind_some, px_up_cell, px_up_slot, px_up_eq, ne_eq, Nat.reduceEqDiff, not_false_eq_true, Int.reduceEq, Int.reduceLT, Int.reduceLE, Int.reduceNeg, decide_true, decide_false, Bool.and_true, Bool.true_and, Bool.and_false, Bool.false_and, and_self, and_true, true_and, and_false, false_and, bi_T, bi_F, not_true_eq_false, Bool.false_eq_true, kg_1, kg_83, R_isStep hI, bi_t hx, o2, bi_t hy, bi_t hz, ir_1_0 hI, ir_1_1 hI, ir_1_2 hI, ir_1_3 hI, ir_1_4 hI, ir_1_5 hI, ir_1_6 hI, ir_1_7 hI, hL1, hlt]
            rw [eq_Book_note_0]
            simp only [px_rd_mk, px_wr_mk, Int.reduceToNat, Int.toNat_natCast, if_true, if_false, Option.bind_some, px_up_cell, px_up_slot, px_up_eq, ne_eq, Nat.reduceEqDiff, not_false_eq_true, Int.reduceEq, Int.reduceLT, Int.reduceLE, Int.reduceNeg, decide_true, decide_false, Bool.and_true, Bool.true_and, Bool.and_false, Bool.false_and, and_self, and_true, true_and, and_false, false_and, bi_T, bi_F, not_true_eq_false, Bool.false_eq_true, kg_1, kg_83, ka_84, ka_85, ka_86, ir_83_3 hI, ir_83_4 hI, ir_83_5 hI, ir_83_6 hI, ir_83_7 hI, ir_83_8 hI, ir_83_12 hI, ir_83_13 hI, ir_83_14 hI, hL1, hlt, Int.natCast_nonneg]
            rw [eq_Book_note_35]
            simp only [px_rd_mk, px_wr_mk, Int.reduceToNat, Int.toNat_natCast, if_true, if_false, Option.bind_some, px_up_cell, px_up_slot, px_up_eq, ne_eq, Nat.reduceEqDiff, not_false_eq_true, Int.reduceEq, Int.reduceLT, Int.reduceLE, Int.reduceNeg, decide_true, decide_false, Bool.and_true, Bool.true_and, Bool.and_false, Bool.false_and, and_self, and_true, true_and, and_false, false_and, bi_T, bi_F, not_true_eq_false, Bool.false_eq_true, kg_83, hL1, w1, w2]
          · rw [eq_Mod_write_0]
            simp only [px_rd_mk, px_wr_mk, Int.reduceToNat, Int.toNat_natCast, if_true, if_false, Option.bind_some, px_up_cell, px_up_slot, px_up_eq, ne_eq, Nat.reduceEqDiff, not_false_eq_true, Int.reduceEq, Int.reduceLT, Int.reduceLE, Int.reduceNeg, decide_true, decide_false, Bool.and_true, Bool.true_and, Bool.and_false, Bool.false_and, and_self, and_true, true_and, and_false, false_and, bi_T, bi_F, not_true_eq_false, Bool.false_eq_true, kg_123, ka_151, ka_152, ka_153, R_Mod_in, b0, bi_t hx, i3, bi_t hy, bi_t hz, ir_123_0 hI, ir_123_12 hI, ir_123_13 hI, ir_123_14 hI, ir_123_15 hI, ir_123_16 hI, ir_123_17 hI, ir_123_18 hI, ir_123_19 hI, ir_123_20 hI, ir_123_21 hI, ir_123_30 hI, ir_123_31 hI, ir_123_32 hI, ir_123_33 hI, ir_123_34 hI, ir_123_35 hI, ir_123_36 hI, ir_123_37 hI, ir_123_38 hI, ir_123_39 hI, ir_123_41 hI, ir_123_42 hI, ir_123_44 hI, ir_123_45 hI, ir_123_46 hI, ir_123_50 hI, ir_123_54 hI, ir_123_55 hI, ir_123_56 hI, ir_123_57 hI, ir_123_58 hI, ir_123_59 hI, ir_123_60 hI, ir_123_61 hI, ir_123_62 hI, b1, hL1, hne, hlt, Int.natCast_nonneg]
            rw [eq_Mod_write_82]
            simp only [px_rd_mk, px_wr_mk, Int.reduceToNat, Int.toNat_natCast, if_true, if_false, Option.bind_some, px_up_cell, px_up_slot, px_up_eq, ne_eq, Nat.reduceEqDiff, not_false_eq_true, Int.reduceEq, Int.reduceLT, Int.reduceLE, Int.reduceNeg, decide_true, decide_false, Bool.and_true, Bool.true_and, Bool.and_false, Bool.false_and, and_self, and_true, true_and, and_false, false_and, bi_T, bi_F, not_true_eq_false, Bool.false_eq_true, kg_123, b1, hL1, w1, w2]
          · clear w1 w2
            unfold BK
            rw [Fr_st hn F rfl (n + 1) (by omega) (by omega)]
            simp only [px_up_cell, px_up_slot, px_up_eq, ne_eq, Nat.reduceEqDiff, not_false_eq_true, px_up_at]
            refine ⟨⟨trivial, by omega, hx.2⟩, ⟨trivial, by omega, by omega⟩, b2, fun i => ?_, fun i hi => ?_, b5⟩
            · obtain ⟨c1, c2, c3, c4, c5, c6⟩ := b3 i
              rw [c1, c2, c3]
              exact ⟨rfl, rfl, rfl, c4, c5, c6⟩
            · by_cases e : i = L
              · rw [if_pos e, if_pos e]; exact ⟨hy, hz⟩
              · rw [if_neg e, if_neg e]; exact b4 i (by omega)
      · refine AL_same C (-2) ?_ ?_
        · rw [eq_Tin_write_0]
          simp only [px_rd_mk, px_wr_mk, Int.reduceToNat, Int.toNat_natCast, if_true, if_false, Option.bind_some, px_up_cell, px_up_slot, px_up_eq, ne_eq, Nat.reduceEqDiff, not_false_eq_true, Int.reduceEq, Int.reduceLT, Int.reduceLE, Int.reduceNeg, decide_true, decide_false, Bool.and_true, Bool.true_and, Bool.and_false, Bool.false_and, and_self, and_true, true_and, and_false, false_and, bi_T, bi_F, not_true_eq_false, Bool.false_eq_true, kg_1, kg_83, R_isStep hI, bi_t hx, o2, bi_t hy, bi_f hz]
        · rw [eq_Mod_write_0]
          simp only [px_rd_mk, px_wr_mk, Int.reduceToNat, Int.toNat_natCast, if_true, if_false, Option.bind_some, px_up_cell, px_up_slot, px_up_eq, ne_eq, Nat.reduceEqDiff, not_false_eq_true, Int.reduceEq, Int.reduceLT, Int.reduceLE, Int.reduceNeg, decide_true, decide_false, Bool.and_true, Bool.true_and, Bool.and_false, Bool.false_and, and_self, and_true, true_and, and_false, false_and, bi_T, bi_F, not_true_eq_false, Bool.false_eq_true, kg_123, R_Mod_in, b0, bi_t hx, i2, bi_t hy, bi_f hz]
    · refine AL_same C (-2) ?_ ?_
      · rw [eq_Tin_write_0]
        simp only [px_rd_mk, px_wr_mk, Int.reduceToNat, Int.toNat_natCast, if_true, if_false, Option.bind_some, px_up_cell, px_up_slot, px_up_eq, ne_eq, Nat.reduceEqDiff, not_false_eq_true, Int.reduceEq, Int.reduceLT, Int.reduceLE, Int.reduceNeg, decide_true, decide_false, Bool.and_true, Bool.true_and, Bool.and_false, Bool.false_and, and_self, and_true, true_and, and_false, false_and, bi_T, bi_F, not_true_eq_false, Bool.false_eq_true, kg_1, kg_83, R_isStep hI, bi_t hx, o2, bi_f hy]
      · rw [eq_Mod_write_0]
        simp only [px_rd_mk, px_wr_mk, Int.reduceToNat, Int.toNat_natCast, if_true, if_false, Option.bind_some, px_up_cell, px_up_slot, px_up_eq, ne_eq, Nat.reduceEqDiff, not_false_eq_true, Int.reduceEq, Int.reduceLT, Int.reduceLE, Int.reduceNeg, decide_true, decide_false, Bool.and_true, Bool.true_and, Bool.and_false, Bool.false_and, and_self, and_true, true_and, and_false, false_and, bi_T, bi_F, not_true_eq_false, Bool.false_eq_true, kg_123, R_Mod_in, b0, bi_t hx, i2, bi_f hy]
  · refine AL_same C (-2) ?_ ?_
    · rw [eq_Tin_write_0]
      simp only [px_rd_mk, px_wr_mk, Int.reduceToNat, Int.toNat_natCast, if_true, if_false, Option.bind_some, px_up_cell, px_up_slot, px_up_eq, ne_eq, Nat.reduceEqDiff, not_false_eq_true, Int.reduceEq, Int.reduceLT, Int.reduceLE, Int.reduceNeg, decide_true, decide_false, Bool.and_true, Bool.true_and, Bool.and_false, Bool.false_and, and_self, and_true, true_and, and_false, false_and, bi_T, bi_F, not_true_eq_false, Bool.false_eq_true, kg_1, kg_83, R_isStep hI, bi_f hx]
    · rw [eq_Mod_write_0]
      simp only [px_rd_mk, px_wr_mk, Int.reduceToNat, Int.toNat_natCast, if_true, if_false, Option.bind_some, px_up_cell, px_up_slot, px_up_eq, ne_eq, Nat.reduceEqDiff, not_false_eq_true, Int.reduceEq, Int.reduceLT, Int.reduceLE, Int.reduceNeg, decide_true, decide_false, Bool.and_true, Bool.true_and, Bool.and_false, Bool.false_and, and_self, and_true, true_and, and_false, false_and, bi_T, bi_F, not_true_eq_false, Bool.false_eq_true, kg_123, R_Mod_in, b0, bi_f hx]
