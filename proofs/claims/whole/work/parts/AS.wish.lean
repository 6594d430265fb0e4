/-! yards and wish. -/
theorem R_yardsOf {n : Nat} {h : hp} (hI : IR h) (S : ST n h) {a b : Nat} (ha : (a : Int) < h (n + 1) 3) (hb : (b : Int) < h (n + 1) 3) : px_R (mm_Mod_yardsOf, 0, [(2, 123), (0, (a : Int)), (0, (b : Int)), (9, 0), (9, 0), (9, 0)], [], (K0, h)) = some (yrd (sqV n h a b) 0 141, (K0, h)) := by
  have c3 := (S.2.1 3 (by decide)).2.2
  have l3 : lim 3 = 5 := rfl
  have r := ho_rng S hb ha
  have ga : (decide ((0 : Int) ≤ (a : Int)) && decide ((a : Int) < 10)) = true := gd_ok (by omega)
  have gb : (decide ((0 : Int) ≤ (b : Int)) && decide ((b : Int) < 10)) = true := gd_ok (by omega)
  obtain ⟨⟨a1, _⟩, ⟨a2, _⟩⟩ := S.2.2.2.2.2.2.2.2.1 a ha
  obtain ⟨⟨b1, _⟩, ⟨b2, _⟩⟩ := S.2.2.2.2.2.2.2.2.1 b hb
  have u1 : -2147483648 ≤ h (n + 16) (5 * a) - h (n + 16) (5 * b) ∧ h (n + 16) (5 * a) - h (n + 16) (5 * b) < 2147483648 := by omega
  have u2 : -2147483648 ≤ h (n + 16) (5 * a + 1) - h (n + 16) (5 * b + 1) ∧ h (n + 16) (5 * a + 1) - h (n + 16) (5 * b + 1) < 2147483648 := by omega
  have l := yardsOf_sq r.1 r.2 123 (a : Int) (b : Int) (K0, h) 141 0 rfl
  have es : (h (n + 16) (5 * a) - h (n + 16) (5 * b)) * (h (n + 16) (5 * a) - h (n + 16) (5 * b)) + (h (n + 16) (5 * a + 1) - h (n + 16) (5 * b + 1)) * (h (n + 16) (5 * a + 1) - h (n + 16) (5 * b + 1)) = sqV n h a b := by
    unfold sqV
    grind
  rw [es] at l
  rw [eq_Mod_yardsOf_0]
  simp only [px_rd_mk, px_wr_mk, Int.reduceToNat, Int.toNat_natCast, if_true, if_false, Option.bind_some, px_up_cell, px_up_slot, px_up_eq, ne_eq, Nat.reduceEqDiff, not_false_eq_true, Int.reduceEq, Int.reduceLT, Int.reduceLE, Int.reduceNeg, decide_true, decide_false, Bool.and_true, Bool.true_and, Bool.and_false, Bool.false_and, and_self, and_true, true_and, and_false, false_and, bi_T, bi_F, not_true_eq_false, Bool.false_eq_true, kg_123, ka_130, ka_131, ir_123_0 hI, ir_123_12 hI, ir_123_13 hI, ir_123_14 hI, ir_123_15 hI, ir_123_16 hI, ir_123_17 hI, ir_123_18 hI, ir_123_19 hI, ir_123_20 hI, ir_123_21 hI, ir_123_30 hI, ir_123_31 hI, ir_123_32 hI, ir_123_33 hI, ir_123_34 hI, ir_123_35 hI, ir_123_36 hI, ir_123_37 hI, ir_123_38 hI, ir_123_39 hI, ir_123_41 hI, ir_123_42 hI, ir_123_44 hI, ir_123_45 hI, ir_123_46 hI, ir_123_50 hI, ir_123_54 hI, ir_123_55 hI, ir_123_56 hI, ir_123_57 hI, ir_123_58 hI, ir_123_59 hI, ir_123_60 hI, ir_123_61 hI, ir_123_62 hI, ga, gb, a1, a2, b1, b2, px_w_n u1, px_w_n u2]
  exact l
theorem R_isPair {n : Nat} (hn : n = 4 ∨ n = 26) {h : hp} (h8 : h 1 8 = (n : Int)) (hI : IR h) (S : ST n h) (x y : Int) : px_R (mm_Tin_isPair, 0, [(2, 1), (0, x), (0, y)], [], (K0, h)) = some (bi ((0 ≤ x ∧ x < h (n + 1) 3) ∧ (0 ≤ y ∧ y < h (n + 1) 3) ∧ ¬ x = y), (K0, h)) := by
  rw [eq_Tin_isPair_0]
  by_cases e : x = y
  · rw [if_pos e, bi_f (fun q => q.2.2 e)]
  · rw [if_neg e]
    simp only [px_rd_mk, px_wr_mk, Int.reduceToNat, Int.toNat_natCast, if_true, if_false, Option.bind_some, px_up_cell, px_up_slot, px_up_eq, ne_eq, Nat.reduceEqDiff, not_false_eq_true, Int.reduceEq, Int.reduceLT, Int.reduceLE, Int.reduceNeg, decide_true, decide_false, Bool.and_true, Bool.true_and, Bool.and_false, Bool.false_and, and_self, and_true, true_and, and_false, false_and, bi_T, bi_F, not_true_eq_false, Bool.false_eq_true, kg_1, R_one hn h8 hI S (y := 3) (k := 3) rfl (by decide) x, R_one hn h8 hI S (y := 3) (k := 3) rfl (by decide) y]
    by_cases hx : 0 ≤ x ∧ x < h (n + 1) 3
    · rw [bi_t hx, if_neg (by decide)]
      by_cases hy : 0 ≤ y ∧ y < h (n + 1) 3
      · rw [bi_t hy, if_neg (by decide), bi_t ⟨hx, hy, e⟩]
      · rw [bi_f hy, if_pos rfl, bi_f (fun q => hy q.2.1)]
    · rw [bi_f hx, if_pos rfl, bi_f (fun q => hx q.1)]
theorem R_arePair {n : Nat} {h : hp} (hI : IR h) (S : ST n h) (x y : Int) : px_R (mm_Mod_arePair, 0, [(2, 123), (0, x), (0, y)], [], (K0, h)) = some (bi ((0 ≤ x ∧ x < h (n + 1) 3) ∧ (0 ≤ y ∧ y < h (n + 1) 3) ∧ ¬ x = y), (K0, h)) := by
  rw [eq_Mod_arePair_0]
  simp only [px_rd_mk, px_wr_mk, Int.reduceToNat, Int.toNat_natCast, if_true, if_false, Option.bind_some, px_up_cell, px_up_slot, px_up_eq, ne_eq, Nat.reduceEqDiff, not_false_eq_true, Int.reduceEq, Int.reduceLT, Int.reduceLE, Int.reduceNeg, decide_true, decide_false, Bool.and_true, Bool.true_and, Bool.and_false, Bool.false_and, and_self, and_true, true_and, and_false, false_and, bi_T, bi_F, not_true_eq_false, Bool.false_eq_true, kg_123, R_is hI S (y := 3) (k := 3) rfl (by decide) x, R_is hI S (y := 3) (k := 3) rfl (by decide) y]
  by_cases hx : 0 ≤ x ∧ x < h (n + 1) 3
  · rw [bi_t hx, if_neg (by decide)]
    by_cases hy : 0 ≤ y ∧ y < h (n + 1) 3
    · rw [bi_t hy, if_neg (by decide)]
      by_cases e : x = y
      · rw [if_pos e, bi_f (fun q => q.2.2 e)]
      · rw [if_neg e, bi_t ⟨hx, hy, e⟩]
    · rw [bi_f hy, if_pos rfl, bi_f (fun q => hy q.2.1)]
  · rw [bi_f hx, if_pos rfl, bi_f (fun q => hx q.1)]
theorem C_yards {h : hp} (C : CI h) (x y : Int) : AL h mm_Tin_yards mm_Mod_yards [(2, 1), (0, x), (0, y)] [(2, 123), (0, x), (0, y)] := by
  have C2 := C
  obtain ⟨n, ⟨hn, h8, h9⟩, hI, hT, hK, hS, hL, hR, hC, hKs, hW, hB⟩ := C2
  by_cases hp : (0 ≤ x ∧ x < h (n + 1) 3) ∧ (0 ≤ y ∧ y < h (n + 1) 3) ∧ ¬ x = y
  · obtain ⟨a, rfl⟩ := Int.eq_ofNat_of_zero_le hp.1.1
    obtain ⟨b, rfl⟩ := Int.eq_ofNat_of_zero_le hp.2.1.1
    obtain ⟨P, hP⟩ := Int.eq_ofNat_of_zero_le (ST_n hS (k := 4) (by decide)).2.1
    have hP2 : (h (n + 1) 4).toNat = P := by omega
    have bl := barred_loop hI hS hp.1.2 hp.2.1.2 hP P 0 (Nat.zero_add P) (9, 0) (9, 0) (9, 0) (9, 0)
    refine AL_same C (apV n h a b) ?_ ?_
    · rw [eq_Tin_yards_0]
      simp only [px_rd_mk, px_wr_mk, Int.reduceToNat, Int.toNat_natCast, if_true, if_false, Option.bind_some, px_up_cell, px_up_slot, px_up_eq, ne_eq, Nat.reduceEqDiff, not_false_eq_true, Int.reduceEq, Int.reduceLT, Int.reduceLE, Int.reduceNeg, decide_true, decide_false, Bool.and_true, Bool.true_and, Bool.and_false, Bool.false_and, and_self, and_true, true_and, and_false, false_and, bi_T, bi_F, not_true_eq_false, Bool.false_eq_true, kg_1, R_isPair hn h8 hI hS, bi_t hp, h8, R_apart hn hI hS hp.1.2 hp.2.1.2]
    · rw [eq_Mod_yards_0]
      have bl0 : px_R (mm_Mod_isBarred, 2, [(2, 123), (0, (a : Int)), (0, (b : Int)), (0, 0), (9, 0), (9, 0), (9, 0), (9, 0)], [], (K0, h)) = some (if anf (brd n h a b) 0 P = true then 1 else 0, (K0, h)) := bl
      simp only [px_rd_mk, px_wr_mk, Int.reduceToNat, Int.toNat_natCast, if_true, if_false, Option.bind_some, px_up_cell, px_up_slot, px_up_eq, ne_eq, Nat.reduceEqDiff, not_false_eq_true, Int.reduceEq, Int.reduceLT, Int.reduceLE, Int.reduceNeg, decide_true, decide_false, Bool.and_true, Bool.true_and, Bool.and_false, Bool.false_and, and_self, and_true, true_and, and_false, false_and, bi_T, bi_F, not_true_eq_false, Bool.false_eq_true, kg_123, R_arePair hI hS, bi_t hp, eq_Mod_isBarred_0, bl0, R_yardsOf hI hS hp.1.2 hp.2.1.2]
      unfold apV
      rw [hP2]
      cases anf (brd n h a b) 0 P
      · simp only [px_rd_mk, px_wr_mk, Int.reduceToNat, Int.toNat_natCast, if_true, if_false, Option.bind_some, px_up_cell, px_up_slot, px_up_eq, ne_eq, Nat.reduceEqDiff, not_false_eq_true, Int.reduceEq, Int.reduceLT, Int.reduceLE, Int.reduceNeg, decide_true, decide_false, Bool.and_true, Bool.true_and, Bool.and_false, Bool.false_and, and_self, and_true, true_and, and_false, false_and, bi_T, bi_F, not_true_eq_false, Bool.false_eq_true]
      · simp only [px_rd_mk, px_wr_mk, Int.reduceToNat, Int.toNat_natCast, if_true, if_false, Option.bind_some, px_up_cell, px_up_slot, px_up_eq, ne_eq, Nat.reduceEqDiff, not_false_eq_true, Int.reduceEq, Int.reduceLT, Int.reduceLE, Int.reduceNeg, decide_true, decide_false, Bool.and_true, Bool.true_and, Bool.and_false, Bool.false_and, and_self, and_true, true_and, and_false, false_and, bi_T, bi_F, not_true_eq_false, Bool.false_eq_true]
  · refine AL_same C (-2) ?_ ?_
    · rw [eq_Tin_yards_0]
      simp only [px_rd_mk, px_wr_mk, Int.reduceToNat, Int.toNat_natCast, if_true, if_false, Option.bind_some, px_up_cell, px_up_slot, px_up_eq, ne_eq, Nat.reduceEqDiff, not_false_eq_true, Int.reduceEq, Int.reduceLT, Int.reduceLE, Int.reduceNeg, decide_true, decide_false, Bool.and_true, Bool.true_and, Bool.and_false, Bool.false_and, and_self, and_true, true_and, and_false, false_and, bi_T, bi_F, not_true_eq_false, Bool.false_eq_true, kg_1, R_isPair hn h8 hI hS, bi_f hp]
    · rw [eq_Mod_yards_0]
      simp only [px_rd_mk, px_wr_mk, Int.reduceToNat, Int.toNat_natCast, if_true, if_false, Option.bind_some, px_up_cell, px_up_slot, px_up_eq, ne_eq, Nat.reduceEqDiff, not_false_eq_true, Int.reduceEq, Int.reduceLT, Int.reduceLE, Int.reduceNeg, decide_true, decide_false, Bool.and_true, Bool.true_and, Bool.and_false, Bool.false_and, and_self, and_true, true_and, and_false, false_and, bi_T, bi_F, not_true_eq_false, Bool.false_eq_true, kg_123, R_arePair hI hS, bi_f hp]
theorem fx_pr : ∀ H : Fin 6, ∀ b : Fin 5, ∀ a : Fin 5, b.val < H.val → a.val < b.val → (px_w ((px_w ((px_w ((px_w (Int.tdiv (px_w ((a.val : Int) * (px_w ((px_w ((px_w (2 * (H.val : Int))) - (a.val : Int))) - 1)))) 2)) + (b.val : Int))) - (a.val : Int))) - 1)) = ((prI H.val a.val b.val : Nat) : Int) := by decide +kernel
theorem R_pairOf {H a b : Nat} (hH : H < 6) (hb : b < H) (ha : a < b) (w : pw) : px_R (mm_Wish_pairOf, 0, [(0, (a : Int)), (0, (b : Int)), (0, (H : Int))], [], w) = some (((prI H a b : Nat) : Int), w) := by
  rw [eq_Wish_pairOf_0]
  exact some_c (fx_pr ⟨H, hH⟩ ⟨b, by omega⟩ ⟨a, by omega⟩ hb ha)
theorem R_wadd {h : hp} {W p : Nat} (hW : h 79 0 = (W : Int)) (hw : W < 1024) (hp : p < 10) : px_R (mm_Wish_add, 0, [(2, 79), (0, (p : Int))], [], (K0, h)) = some (((pcn 10 (if W / 2 ^ p % 2 = 1 then W else W + 2 ^ p) : Nat) : Int), (K0, px_up h 79 0 ((if W / 2 ^ p % 2 = 1 then W else W + 2 ^ p : Nat) : Int))) := by
  have lt : (if W / 2 ^ p % 2 = 1 then W else W + 2 ^ p) < 1024 := by
    split
    · exact hw
    · rcases fx_new ⟨W, hw⟩ ⟨p, hp⟩ with q | q
      · exact absurd q (by assumption)
      · exact q.2.2.1
  have e := or_g hw hp
  rw [← shl_g (show p < 31 by omega)] at e
  rw [eq_Wish_add_0]
  simp only [px_rd_mk, px_wr_mk, Int.reduceToNat, Int.toNat_natCast, if_true, if_false, Option.bind_some, px_up_cell, px_up_slot, px_up_eq, ne_eq, Nat.reduceEqDiff, not_false_eq_true, Int.reduceEq, Int.reduceLT, Int.reduceLE, Int.reduceNeg, decide_true, decide_false, Bool.and_true, Bool.true_and, Bool.and_false, Bool.false_and, and_self, and_true, true_and, and_false, false_and, bi_T, bi_F, not_true_eq_false, Bool.false_eq_true, kg_79, hW, e, R_Integer_bitCount lt]
theorem mwish_loop {h : hp} (hI : IR h) {c : Nat} (hc : h 123 40 = (c : Int)) (h10 : c ≤ 10) (x1 x2 one two : Int) (k : Nat) : ∀ i : Nat, i + k = c → (anf (fun j => decide (h 145 j = one) && decide (h 146 j = two)) i k = true ∨ c < 10) → px_R (mm_Mod_wish, 38, [(2, 123), (0, x1), (0, x2), (0, one), (0, two), (0, (i : Int))], [], (K0, h)) = (if anf (fun j => decide (h 145 j = one) && decide (h 146 j = two)) i k = true then some ((c : Int), (K0, h)) else some (((c + 1 : Nat) : Int), (K0, px_up (px_up (px_up h 145 c one) 146 c two) 123 40 ((c + 1 : Nat) : Int)))) := by
  induction k with
  | zero =>
    intro i hi ho
    have : i = c := hi
    subst this
    have hlt : ((i : Int) < (i : Int)) = False := eq_false (by omega)
    have h9 : i < 10 := by
      rcases ho with q | q
      · cases q
      · exact q
    have gi : (decide ((0 : Int) ≤ (i : Int)) && decide ((i : Int) < 10)) = true := gd_ok (by omega)
    rw [eq_Mod_wish_38]
    simp only [px_rd_mk, px_wr_mk, Int.reduceToNat, Int.toNat_natCast, if_true, if_false, Option.bind_some, px_up_cell, px_up_slot, px_up_eq, ne_eq, Nat.reduceEqDiff, not_false_eq_true, Int.reduceEq, Int.reduceLT, Int.reduceLE, Int.reduceNeg, decide_true, decide_false, Bool.and_true, Bool.true_and, Bool.and_false, Bool.false_and, and_self, and_true, true_and, and_false, false_and, bi_T, bi_F, not_true_eq_false, Bool.false_eq_true, kg_123, ka_145, ka_146, ir_123_0 hI, ir_123_12 hI, ir_123_13 hI, ir_123_14 hI, ir_123_15 hI, ir_123_16 hI, ir_123_17 hI, ir_123_18 hI, ir_123_19 hI, ir_123_20 hI, ir_123_21 hI, ir_123_30 hI, ir_123_31 hI, ir_123_32 hI, ir_123_33 hI, ir_123_34 hI, ir_123_35 hI, ir_123_36 hI, ir_123_37 hI, ir_123_38 hI, ir_123_39 hI, ir_123_41 hI, ir_123_42 hI, ir_123_44 hI, ir_123_45 hI, ir_123_46 hI, ir_123_50 hI, ir_123_54 hI, ir_123_55 hI, ir_123_56 hI, ir_123_57 hI, ir_123_58 hI, ir_123_59 hI, ir_123_60 hI, ir_123_61 hI, ir_123_62 hI, hc, hlt, gi, px_w_s (show i < 1000000 by omega), anf]
  | succ k ih =>
    intro i hi ho
    have hlt : ((i : Int) < (c : Int)) = True := eq_true (by omega)
    have gi : (decide ((0 : Int) ≤ (i : Int)) && decide ((i : Int) < 10)) = true := gd_ok (by omega)
    rw [eq_Mod_wish_38]
    simp only [px_rd_mk, px_wr_mk, Int.reduceToNat, Int.toNat_natCast, if_true, if_false, Option.bind_some, px_up_cell, px_up_slot, px_up_eq, ne_eq, Nat.reduceEqDiff, not_false_eq_true, Int.reduceEq, Int.reduceLT, Int.reduceLE, Int.reduceNeg, decide_true, decide_false, Bool.and_true, Bool.true_and, Bool.and_false, Bool.false_and, and_self, and_true, true_and, and_false, false_and, bi_T, bi_F, not_true_eq_false, Bool.false_eq_true, kg_123, ka_145, ka_146, ir_123_0 hI, ir_123_12 hI, ir_123_13 hI, ir_123_14 hI, ir_123_15 hI, ir_123_16 hI, ir_123_17 hI, ir_123_18 hI, ir_123_19 hI, ir_123_20 hI, ir_123_21 hI, ir_123_30 hI, ir_123_31 hI, ir_123_32 hI, ir_123_33 hI, ir_123_34 hI, ir_123_35 hI, ir_123_36 hI, ir_123_37 hI, ir_123_38 hI, ir_123_39 hI, ir_123_41 hI, ir_123_42 hI, ir_123_44 hI, ir_123_45 hI, ir_123_46 hI, ir_123_50 hI, ir_123_54 hI, ir_123_55 hI, ir_123_56 hI, ir_123_57 hI, ir_123_58 hI, ir_123_59 hI, ir_123_60 hI, ir_123_61 hI, ir_123_62 hI, hc, hlt, gi, px_w_s (show i < 1000000 by omega)]
    rw [anf] at ho ⊢
    by_cases c1 : h 145 i = one
    · by_cases c2 : h 146 i = two
      · rw [if_pos c1, if_pos c2, decide_eq_true c1, decide_eq_true c2, Bool.true_and, Bool.true_or, if_pos rfl]
      · rw [decide_eq_false c2, Bool.and_false, Bool.false_or] at ho
        rw [if_pos c1, if_neg c2, decide_eq_false c2, Bool.and_false, Bool.false_or]
        exact ih (i + 1) (by omega) ho
    · rw [decide_eq_false c1, Bool.false_and, Bool.false_or] at ho
      rw [if_neg c1, decide_eq_false c1, Bool.false_and, Bool.false_or]
      exact ih (i + 1) (by omega) ho
theorem anf_iff (f : Nat → Bool) (k : Nat) : ∀ i : Nat, anf f i k = true ↔ ∃ j : Nat, i ≤ j ∧ j < i + k ∧ f j = true := by
  induction k with
  | zero =>
    intro i
    constructor
    · intro q; cases q
    · rintro ⟨j, h1, h2, _⟩; omega
  | succ k ih =>
    intro i
    rw [anf, Bool.or_eq_true, ih (i + 1)]
    constructor
    · rintro (q | ⟨j, h1, h2, h3⟩)
      · exact ⟨i, by omega, by omega, q⟩
      · exact ⟨j, by omega, by omega, h3⟩
    · rintro ⟨j, h1, h2, h3⟩
      by_cases e : j = i
      · subst e; exact Or.inl h3
      · exact Or.inr ⟨j, by omega, by omega, h3⟩
theorem px_up_id {h : hp} {a b : Nat} {v : Int} (e : h a b = v) : px_up h a b v = h := by
  funext x y
  unfold px_up
  split
  · rename_i q
    rw [q.1, q.2, e]
  · rfl
theorem C_wish {h : hp} (C : CI h) (x y : Int) : AL h mm_Tin_wish mm_Mod_wish [(2, 1), (0, x), (0, y)] [(2, 123), (0, x), (0, y), (9, 0), (9, 0), (9, 0)] := by
  have C2 := C
  obtain ⟨n, ⟨hn, h8, h9⟩, hI, hT, hK, hS, hL, hR, hC, hKs, hW, hB⟩ := C2
  by_cases hp : (0 ≤ x ∧ x < h (n + 1) 3) ∧ (0 ≤ y ∧ y < h (n + 1) 3) ∧ ¬ x = y
  · have c3 := hS.2.1 3 (by decide)
    have l3 : lim 3 = 5 := rfl
    obtain ⟨H, hH⟩ := Int.eq_ofNat_of_zero_le c3.2.1
    have hH2 : (h (n + 1) 3).toNat = H := by omega
    obtain ⟨W, c, w1, w2, w3, w4, w5, w6, w7⟩ := hW
    rw [hH2] at w7
    have hmn : ∃ a b : Nat, px_mn x y = (a : Int) ∧ px_mx x y = (b : Int) ∧ a < b ∧ b < H ∧ (if x < y then x else y) = (a : Int) ∧ (if x < y then y else x) = (b : Int) := by
      obtain ⟨⟨p1, p2⟩, ⟨p3, p4⟩, p5⟩ := hp
      refine ⟨(px_mn x y).toNat, (px_mx x y).toNat, ?_⟩
      unfold px_mn px_mx
      by_cases e : x < y
      · have e2 : ¬ y < x := by omega
        simp only [e, e2, if_true, if_false]; omega
      · have e2 : y < x := by omega
        simp only [e, e2, if_true, if_false]; omega
    obtain ⟨a, b, e1, e2, e3, e4, e5, e6⟩ := hmn
    have pl := prI_lt ⟨H, by omega⟩ ⟨b, by omega⟩ ⟨a, by omega⟩ e4 e3
    simp only at pl
    have wa := R_wadd (h := h) w1 w2 pl
    have F0 : Fr [] [(79, 0)] h (px_up h 79 0 ((if W / 2 ^ prI H a b % 2 = 1 then W else W + 2 ^ prI H a b : Nat) : Int)) := Fr_up (Fr_rf _ _ _) _ rfl
    have I0 := IR_Fr hI F0 (by decide)
    have S0 := ST_F hn F0 rfl hS
    have ap := R_arePair I0 S0 x y
    rw [Fr_st hn F0 rfl (n + 1) (by omega) (by omega)] at ap
    have lp := mwish_loop I0 (c := c) w3 w5 x y (a : Int) (b : Int) c 0 (Nat.zero_add c)
    have eM : px_R (mm_Mod_wish, 0, [(2, 123), (0, x), (0, y), (9, 0), (9, 0), (9, 0)], [], (K0, px_up h 79 0 ((if W / 2 ^ prI H a b % 2 = 1 then W else W + 2 ^ prI H a b : Nat) : Int))) = px_R (mm_Mod_wish, 38, [(2, 123), (0, x), (0, y), (0, (a : Int)), (0, (b : Int)), (0, ((0 : Nat) : Int))], [], (K0, px_up h 79 0 ((if W / 2 ^ prI H a b % 2 = 1 then W else W + 2 ^ prI H a b : Nat) : Int))) := by
      rw [eq_Mod_wish_0]
      simp only [px_rd_mk, px_wr_mk, Int.reduceToNat, Int.toNat_natCast, if_true, if_false, Option.bind_some, px_up_cell, px_up_slot, px_up_eq, ne_eq, Nat.reduceEqDiff, not_false_eq_true, Int.reduceEq, Int.reduceLT, Int.reduceLE, Int.reduceNeg, decide_true, decide_false, Bool.and_true, Bool.true_and, Bool.and_false, Bool.false_and, and_self, and_true, true_and, and_false, false_and, bi_T, bi_F, not_true_eq_false, Bool.false_eq_true, kg_123, ap, bi_t hp]
      rw [eq_Mod_wish_22, eq_Mod_wish_22, ← e5, ← e6]
      by_cases e : x < y
      · rw [if_pos e, if_pos e, if_pos e, if_pos e]; rfl
      · rw [if_neg e, if_neg e, if_neg e, if_neg e]; rfl
    have hp3 : (0 ≤ x ∧ x < (H : Int)) ∧ (0 ≤ y ∧ y < (H : Int)) ∧ ¬ x = y := by rw [← hH]; exact hp
    have eC : px_R (mm_Tin_wish, 0, [(2, 1), (0, x), (0, y)], [], (K0, h)) = some (((pcn 10 (if W / 2 ^ prI H a b % 2 = 1 then W else W + 2 ^ prI H a b) : Nat) : Int), (K0, px_up h 79 0 ((if W / 2 ^ prI H a b % 2 = 1 then W else W + 2 ^ prI H a b : Nat) : Int))) := by
      rw [eq_Tin_wish_0]
      simp only [px_rd_mk, px_wr_mk, Int.reduceToNat, Int.toNat_natCast, if_true, if_false, Option.bind_some, px_up_cell, px_up_slot, px_up_eq, ne_eq, Nat.reduceEqDiff, not_false_eq_true, Int.reduceEq, Int.reduceLT, Int.reduceLE, Int.reduceNeg, decide_true, decide_false, Bool.and_true, Bool.true_and, Bool.and_false, Bool.false_and, and_self, and_true, true_and, and_false, false_and, bi_T, bi_F, not_true_eq_false, Bool.false_eq_true, kg_1, kg_79, R_isPair hn h8 hI hS, bi_t hp, bi_t hp3, h8, sgo hn, sr1 hn hI, sga1 hn, ir_1_0 hI, ir_1_1 hI, ir_1_2 hI, ir_1_3 hI, ir_1_4 hI, ir_1_5 hI, ir_1_6 hI, ir_1_7 hI, e1, e2, hH, R_pairOf (show H < 6 by omega) e4 e3, wa]
    have fi := anf_iff (fun j => decide (px_up h 79 0 ((if W / 2 ^ prI H a b % 2 = 1 then W else W + 2 ^ prI H a b : Nat) : Int) 145 j = (a : Int)) && decide (px_up h 79 0 ((if W / 2 ^ prI H a b % 2 = 1 then W else W + 2 ^ prI H a b : Nat) : Int) 146 j = (b : Int))) c 0
    have fb : (∃ j : Nat, j < c ∧ h 145 j = (a : Int) ∧ h 146 j = (b : Int)) ↔ W / 2 ^ prI H a b % 2 = 1 := by
      rw [w7 _ pl]
      constructor
      · rintro ⟨j, j1, j2, j3⟩
        exact ⟨j, a, b, j1, j2, j3, rfl⟩
      · rintro ⟨j, a2, b2, j1, j2, j3, j4⟩
        obtain ⟨a3, b3, k1, k2, k3, k4⟩ := w6 j j1
        have ea : a3 = a2 := by omega
        have eb : b3 = b2 := by omega
        subst ea eb
        have inj := prI_inj ⟨H, by omega⟩ ⟨b, by omega⟩ ⟨a, by omega⟩ ⟨b3, by omega⟩ ⟨a3, by omega⟩ e4 e3 (show b3 < H by omega) k1 j4.symm
        have i1 : a = a3 := congrArg Fin.val inj.1
        have i2 : b = b3 := congrArg Fin.val inj.2
        exact ⟨j, j1, by rw [i1]; exact j2, by rw [i2]; exact j3⟩
    by_cases bs : W / 2 ^ prI H a b % 2 = 1
    · rw [if_pos bs] at *
      have f : anf (fun j => decide (px_up h 79 0 (W : Int) 145 j = (a : Int)) && decide (px_up h 79 0 (W : Int) 146 j = (b : Int))) 0 c = true := by
        obtain ⟨j, j1, j2, j3⟩ := fb.mpr bs
        refine fi.mpr ⟨j, by omega, by omega, ?_⟩
        show (decide (h 145 j = (a : Int)) && decide (h 146 j = (b : Int))) = true
        rw [decide_eq_true j2, decide_eq_true j3]
        rfl
      have lp := lp (Or.inl f)
      rw [if_pos f] at lp
      have hid : px_up h 79 0 (W : Int) = h := px_up_id w1
      rw [hid] at eM eC lp
      exact ⟨(c : Int), h, h, by rw [eC, w4], eM.trans lp, C⟩
    · have f : anf (fun j => decide (px_up h 79 0 ((if W / 2 ^ prI H a b % 2 = 1 then W else W + 2 ^ prI H a b : Nat) : Int) 145 j = (a : Int)) && decide (px_up h 79 0 ((if W / 2 ^ prI H a b % 2 = 1 then W else W + 2 ^ prI H a b : Nat) : Int) 146 j = (b : Int))) 0 c = false := by
        rw [Bool.eq_false_iff]
        intro q
        obtain ⟨j, j1, j2, j3⟩ := fi.mp q
        rw [Bool.and_eq_true, decide_eq_true_eq, decide_eq_true_eq] at j3
        exact bs (fb.mp ⟨j, by omega, j3.1, j3.2⟩)
      have nw := (fx_new ⟨W, w2⟩ ⟨prI H a b, pl⟩).resolve_left bs
      simp only at nw
      have c9 : c < 10 := by omega
      have lp := lp (Or.inr c9)
      rw [f, if_neg Bool.false_ne_true] at lp
      rw [if_neg bs] at *
      have F : Fr [145, 146] [(79, 0), (123, 40)] h (px_up (px_up (px_up (px_up h 79 0 ((W + 2 ^ prI H a b : Nat) : Int)) 145 c (a : Int)) 146 c (b : Int)) 123 40 ((c + 1 : Nat) : Int)) := Fr_up (Fr_up (Fr_up (Fr_up (Fr_rf _ _ _) _ rfl) _ rfl) _ rfl) _ rfl
      refine ⟨((c + 1 : Nat) : Int), px_up h 79 0 ((W + 2 ^ prI H a b : Nat) : Int), px_up (px_up (px_up (px_up h 79 0 ((W + 2 ^ prI H a b : Nat) : Int)) 145 c (a : Int)) 146 c (b : Int)) 123 40 ((c + 1 : Nat) : Int), ?_, eM.trans lp, ⟨n, SP_F F rfl ⟨hn, h8, h9⟩, IR_Fr hI F (by decide), TP_F F rfl hT, FK_F F rfl hK, ST_F hn F rfl hS, LI_F hn F rfl hL, RW_F F rfl hR, CR_F F rfl hC, KS_F F rfl hKs, ?_, BK_F hn F rfl hB⟩⟩
      · rw [eC, nw.1, w4]
      · refine ⟨W + 2 ^ prI H a b, c + 1, rfl, nw.2.2.1, rfl, by rw [nw.1, w4], by omega, fun i hi => ?_, fun p hp10 => ?_⟩
        · rw [Fr_st hn F rfl (n + 1) (by omega) (by omega)]
          simp only [px_up_cell, px_up_slot, px_up_eq, ne_eq, Nat.reduceEqDiff, not_false_eq_true, px_up_at]
          by_cases e : i = c
          · rw [if_pos e, if_pos e]; exact ⟨a, b, e3, by omega, rfl, rfl⟩
          · rw [if_neg e, if_neg e]; exact w6 i (by omega)
        · rw [Fr_st hn F rfl (n + 1) (by omega) (by omega), hH2]
          simp only [px_up_cell, px_up_slot, px_up_eq, ne_eq, Nat.reduceEqDiff, not_false_eq_true, px_up_at]
          have nb := nw.2.2.2 ⟨p, hp10⟩
          simp only [Fin.mk.injEq] at nb
          rw [nb]
          by_cases e : p = prI H a b
          · rw [if_pos e]
            exact ⟨fun _ => ⟨c, a, b, by omega, if_pos rfl, if_pos rfl, e.symm⟩, fun _ => rfl⟩
          · rw [if_neg e, w7 p hp10]
            constructor
            · rintro ⟨i, a2, b2, j1, j2, j3, j4⟩
              exact ⟨i, a2, b2, by omega, by rw [if_neg (by omega)]; exact j2, by rw [if_neg (by omega)]; exact j3, j4⟩
            · rintro ⟨i, a2, b2, j1, j2, j3, j4⟩
              by_cases ei : i = c
              · rw [if_pos ei] at j2 j3
                have q1 : a2 = a := by omega
                have q2 : b2 = b := by omega
                subst q1 q2
                exact absurd j4.symm e
              · rw [if_neg ei] at j2 j3
                exact ⟨i, a2, b2, by omega, j2, j3, j4⟩
  · refine AL_same C (-2) ?_ ?_
    · rw [eq_Tin_wish_0]
      simp only [px_rd_mk, px_wr_mk, Int.reduceToNat, Int.toNat_natCast, if_true, if_false, Option.bind_some, px_up_cell, px_up_slot, px_up_eq, ne_eq, Nat.reduceEqDiff, not_false_eq_true, Int.reduceEq, Int.reduceLT, Int.reduceLE, Int.reduceNeg, decide_true, decide_false, Bool.and_true, Bool.true_and, Bool.and_false, Bool.false_and, and_self, and_true, true_and, and_false, false_and, bi_T, bi_F, not_true_eq_false, Bool.false_eq_true, kg_1, R_isPair hn h8 hI hS, bi_f hp]
    · rw [eq_Mod_wish_0]
      simp only [px_rd_mk, px_wr_mk, Int.reduceToNat, Int.toNat_natCast, if_true, if_false, Option.bind_some, px_up_cell, px_up_slot, px_up_eq, ne_eq, Nat.reduceEqDiff, not_false_eq_true, Int.reduceEq, Int.reduceLT, Int.reduceLE, Int.reduceNeg, decide_true, decide_false, Bool.and_true, Bool.true_and, Bool.and_false, Bool.false_and, and_self, and_true, true_and, and_false, false_and, bi_T, bi_F, not_true_eq_false, Bool.false_eq_true, kg_123, R_arePair hI hS, bi_f hp]
