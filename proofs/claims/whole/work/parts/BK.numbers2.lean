/-! Numbers of the tape: both sides. -/
def numR (cap : Nat) (max v v2 : Int) (A B : Nat → Int) : Prop := (v = -1 ∧ v2 = -1) ∨ ∃ n : Nat, n ≤ cap ∧ v = (n : Int) ∧ (∀ q, q < n → 0 ≤ A q ∧ A q ≤ 9999) ∧ ((v2 = (n : Int) ∧ ∀ q, q < n → A q ≤ max ∧ B q = A q) ∨ (v2 = -1 ∧ ∃ q, q < n ∧ max < A q))
theorem some_i {a b : Int} {g k : hp} (h : (some (a, (K0, g)) : Option pr) = some (b, (K0, k))) : a = b ∧ g = k := by
  cases h
  exact ⟨rfl, rfl⟩
theorem numJ_150 {T : Nat → Int} {N cap : Nat} (h16 : cap ≤ 16) (max : Int) (m : Nat) : ∀ (c i : Nat) (g k : hp), c + m = cap → TC2 T N g → i ≤ N → g 2 4 = (i : Int) → TM T N k → (∀ q, q < c → (0 ≤ g 122 q ∧ g 122 q ≤ 9999) ∧ g 122 q ≤ max ∧ k 150 q = g 122 q) → ∀ (s e kd : Nat), TK T N i s e kd → k 123 3 = (((kd + 4) % 5 : Nat) : Int) → k 123 6 = (e : Int) → (kd = 3 → k 123 7 = nvl T s (e - s)) → ∃ (v v2 : Int) (g2 k2 : hp), px_R (mm_Tape_readNumbers, 10, [(2, 2), (2, 122), (0, (cap : Int)), (0, -1), (0, (c : Int))], [], (K0, g)) = some (v, (K0, g2)) ∧ px_R (mm_Mod_readNumbers, 7, [(2, 123), (2, 150), (0, (cap : Int)), (0, max), (0, (c : Int))], [], (K0, k)) = some (v2, (K0, k2)) ∧ Fr [150] mss k k2 ∧ k2 123 1 = k 123 1 ∧ numR cap max v v2 (g2 122) (k2 150) := by
  induction m with
  | zero =>
    intro c i g k hc C hi e4 M V s e kd t e3 e6 e7
    obtain ⟨s', e', kd', t1, g1, t2, t3, t4, t5, t6⟩ := num_step C hi e4 (Nat.le_of_eq hc) (by omega)
    obtain ⟨rfl, rfl, rfl⟩ := TK_u t t1
    have le := TK_le t
    by_cases k0 : kd = 0
    · refine ⟨(c : Int), (c : Int), _, k, t4 k0, ?_, Fr_rf _ _ _, rfl, Or.inr ⟨c, by omega, rfl, fun q hq => ?_, Or.inl ⟨rfl, fun q hq => ?_⟩⟩⟩
      · subst k0
        have e3 : k 123 3 = 4 := e3
        rw [eq_Mod_readNumbers_7]
        simp only [px_rd_mk, px_wr_mk, Int.reduceToNat, Int.toNat_natCast, if_true, if_false, Option.bind_some, px_up_cell, px_up_slot, px_up_eq, ne_eq, Nat.reduceEqDiff, not_false_eq_true, Int.reduceEq, Int.reduceLT, Int.reduceLE, Int.reduceNeg, decide_true, decide_false, Bool.and_true, Bool.true_and, Bool.and_false, Bool.false_and, and_self, and_true, true_and, and_false, false_and, bi_T, bi_F, not_true_eq_false, Bool.false_eq_true, kg_123, e3]
      · simp only [px_up_cell, px_up_slot, px_up_eq, ne_eq, Nat.reduceEqDiff, not_false_eq_true]
        rw [t2 122 q rfl]
        exact (V q hq).1
      · simp only [px_up_cell, px_up_slot, px_up_eq, ne_eq, Nat.reduceEqDiff, not_false_eq_true]
        rw [t2 122 q rfl]
        exact (V q hq).2
    · have n4 : (k 123 3 = 4) = False := eq_false (by omega)
      by_cases k3 : kd = 3
      · refine ⟨-1, -1, _, k, t5 (Or.inr ⟨k3, hc⟩), ?_, Fr_rf _ _ _, rfl, Or.inl ⟨rfl, rfl⟩⟩
        subst k3
        have e3 : k 123 3 = 2 := e3
        have cc : ((c : Int) = (cap : Int)) = True := eq_true (by omega)
        rw [eq_Mod_readNumbers_7]
        simp only [px_rd_mk, px_wr_mk, Int.reduceToNat, Int.toNat_natCast, if_true, if_false, Option.bind_some, px_up_cell, px_up_slot, px_up_eq, ne_eq, Nat.reduceEqDiff, not_false_eq_true, Int.reduceEq, Int.reduceLT, Int.reduceLE, Int.reduceNeg, decide_true, decide_false, Bool.and_true, Bool.true_and, Bool.and_false, Bool.false_and, and_self, and_true, true_and, and_false, false_and, bi_T, bi_F, not_true_eq_false, Bool.false_eq_true, kg_123, e3, cc, ite_self]
      · refine ⟨-1, -1, _, k, t5 (Or.inl ⟨k0, k3⟩), ?_, Fr_rf _ _ _, rfl, Or.inl ⟨rfl, rfl⟩⟩
        have n2 : (k 123 3 = 2) = False := eq_false (by omega)
        rw [eq_Mod_readNumbers_7]
        simp only [px_rd_mk, px_wr_mk, Int.reduceToNat, Int.toNat_natCast, if_true, if_false, Option.bind_some, px_up_cell, px_up_slot, px_up_eq, ne_eq, Nat.reduceEqDiff, not_false_eq_true, Int.reduceEq, Int.reduceLT, Int.reduceLE, Int.reduceNeg, decide_true, decide_false, Bool.and_true, Bool.true_and, Bool.and_false, Bool.false_and, and_self, and_true, true_and, and_false, false_and, bi_T, bi_F, not_true_eq_false, Bool.false_eq_true, kg_123, n4, n2]
  | succ m ih =>
    intro c i g k hc C hi e4 M V s e kd t e3 e6 e7
    obtain ⟨s', e', kd', t1, g1, t2, t3, t4, t5, t6⟩ := num_step (cap := cap) C hi e4 (show c ≤ cap by omega) (by omega)
    obtain ⟨rfl, rfl, rfl⟩ := TK_u t t1
    have le := TK_le t
    by_cases k0 : kd = 0
    · refine ⟨(c : Int), (c : Int), _, k, t4 k0, ?_, Fr_rf _ _ _, rfl, Or.inr ⟨c, by omega, rfl, fun q hq => ?_, Or.inl ⟨rfl, fun q hq => ?_⟩⟩⟩
      · subst k0
        have e3 : k 123 3 = 4 := e3
        rw [eq_Mod_readNumbers_7]
        simp only [px_rd_mk, px_wr_mk, Int.reduceToNat, Int.toNat_natCast, if_true, if_false, Option.bind_some, px_up_cell, px_up_slot, px_up_eq, ne_eq, Nat.reduceEqDiff, not_false_eq_true, Int.reduceEq, Int.reduceLT, Int.reduceLE, Int.reduceNeg, decide_true, decide_false, Bool.and_true, Bool.true_and, Bool.and_false, Bool.false_and, and_self, and_true, true_and, and_false, false_and, bi_T, bi_F, not_true_eq_false, Bool.false_eq_true, kg_123, e3]
      · simp only [px_up_cell, px_up_slot, px_up_eq, ne_eq, Nat.reduceEqDiff, not_false_eq_true]
        rw [t2 122 q rfl]
        exact (V q hq).1
      · simp only [px_up_cell, px_up_slot, px_up_eq, ne_eq, Nat.reduceEqDiff, not_false_eq_true]
        rw [t2 122 q rfl]
        exact (V q hq).2
    · have n4 : (k 123 3 = 4) = False := eq_false (by omega)
      by_cases k3 : kd = 3
      · subst k3
        have e3 : k 123 3 = 2 := e3
        have e7 := e7 rfl
        have vr := TK_num t
        have G : Fr [122] tss g (px_up g1 122 c (nvl T s (e - s))) := Fr_up (Fr_sub t2 rfl rfl) _ rfl
        have C1 : TC2 T N (px_up g1 122 c (nvl T s (e - s))) := TC2_F C G rfl (fun I => IR_Fr I G (by decide))
        have g4 : (px_up g1 122 c (nvl T s (e - s))) 2 4 = (e : Int) := (px_up_cell _ _ _ _ (by decide)).trans t3
        have hstep := t6 rfl (show c < cap by omega)
        by_cases mx : max < nvl T s (e - s)
        · obtain ⟨v, g2, r1, r2, r3, r4, r5⟩ := num_C2 (cap := cap) (show cap ≤ 16 by omega) m (c + 1) e _ (by omega) C1 le.2.2.1 g4
          refine ⟨v, -1, g2, k, hstep.trans r1, ?_, Fr_rf _ _ _, rfl, ?_⟩
          · have mx1 := eq_true mx
            rw [eq_Mod_readNumbers_7]
            simp only [px_rd_mk, px_wr_mk, Int.reduceToNat, Int.toNat_natCast, if_true, if_false, Option.bind_some, px_up_cell, px_up_slot, px_up_eq, ne_eq, Nat.reduceEqDiff, not_false_eq_true, Int.reduceEq, Int.reduceLT, Int.reduceLE, Int.reduceNeg, decide_true, decide_false, Bool.and_true, Bool.true_and, Bool.and_false, Bool.false_and, and_self, and_true, true_and, and_false, false_and, bi_T, bi_F, not_true_eq_false, Bool.false_eq_true, kg_123, e3, e7, mx1]
          · rcases r5 with r5 | ⟨n, n1, n2, n3, n4⟩
            · exact Or.inl ⟨r5, rfl⟩
            · refine Or.inr ⟨n, n2, n3, fun q hq => ?_, Or.inr ⟨rfl, c, by omega, ?_⟩⟩
              · by_cases e1 : q < c + 1
                · rw [r4 q e1, px_up_at]
                  by_cases e2 : q = c
                  · rw [if_pos e2]; exact vr
                  · rw [if_neg e2, t2 122 q rfl]
                    exact (V q (by omega)).1
                · exact n4 q (by omega) hq
              · rw [r4 c (by omega), px_up_eq]
                exact mx
        · have mx1 := eq_false mx
          have K1 : Fr [150] mss k (px_up k 150 c (nvl T s (e - s))) := Fr_up (Fr_rf _ _ _) _ rfl
          have M1 : TM T N (px_up k 150 c (nvl T s (e - s))) := ⟨IR_Fr M.1 K1 (by decide), by
            simp only [px_up_cell, px_up_slot, px_up_eq, ne_eq, Nat.reduceEqDiff, not_false_eq_true]
            exact M.2.1, M.2.2.1, fun j => by
            simp only [px_up_cell, px_up_slot, px_up_eq, ne_eq, Nat.reduceEqDiff, not_false_eq_true]
            exact M.2.2.2.1 j, M.2.2.2.2⟩
          obtain ⟨s2, e2, kd2, k2, a1, a2, a3, a4, a5, a6, a7, a8, a9⟩ := R_scan M1 le.2.2.1 (by
            simp only [px_up_cell, px_up_slot, px_up_eq, ne_eq, Nat.reduceEqDiff, not_false_eq_true]
            exact e6)
          have M2 := TM_F M1 a3 rfl (fun I => IR_Fr I a3 (by decide))
          obtain ⟨v, v2, g2, kk, r1, r2, r3, r4, r5⟩ := ih (c + 1) e _ k2 (by omega) C1 le.2.2.1 g4 M2 (fun q hq => by
            rw [a3 150 q rfl, px_up_at, px_up_at]
            by_cases e1 : q = c
            · rw [if_pos e1, if_pos e1]
              exact ⟨vr, by omega, rfl⟩
            · rw [if_neg e1, if_neg e1, t2 122 q rfl]
              exact V q (by omega)) s2 e2 kd2 a1 a4 a6 a9
          refine ⟨v, v2, g2, kk, hstep.trans r1, ?_, Fr_tr2 (Fr_tr2 K1 (Fr_sub a3 rfl rfl)) r3, ?_, r5⟩
          · have cc : ((c : Int) = (cap : Int)) = False := eq_false (by omega)
            have gc : (decide ((0 : Int) ≤ (c : Int)) && decide ((c : Int) < 16)) = true := gd_ok (by omega)
            rw [eq_Mod_readNumbers_7]
            simp only [px_rd_mk, px_wr_mk, Int.reduceToNat, Int.toNat_natCast, if_true, if_false, Option.bind_some, px_up_cell, px_up_slot, px_up_eq, ne_eq, Nat.reduceEqDiff, not_false_eq_true, Int.reduceEq, Int.reduceLT, Int.reduceLE, Int.reduceNeg, decide_true, decide_false, Bool.and_true, Bool.true_and, Bool.and_false, Bool.false_and, and_self, and_true, true_and, and_false, false_and, bi_T, bi_F, not_true_eq_false, Bool.false_eq_true, kg_123, ka_150, e3, e7, mx1, cc, gc, a2, px_w_s (show c < 1000000 by omega)]
            exact r2
          · rw [r4, a3 123 1 rfl]
            simp only [px_up_cell, px_up_slot, px_up_eq, ne_eq, Nat.reduceEqDiff, not_false_eq_true]
      · refine ⟨-1, -1, _, k, t5 (Or.inl ⟨k0, k3⟩), ?_, Fr_rf _ _ _, rfl, Or.inl ⟨rfl, rfl⟩⟩
        have n2 : (k 123 3 = 2) = False := eq_false (by omega)
        rw [eq_Mod_readNumbers_7]
        simp only [px_rd_mk, px_wr_mk, Int.reduceToNat, Int.toNat_natCast, if_true, if_false, Option.bind_some, px_up_cell, px_up_slot, px_up_eq, ne_eq, Nat.reduceEqDiff, not_false_eq_true, Int.reduceEq, Int.reduceLT, Int.reduceLE, Int.reduceNeg, decide_true, decide_false, Bool.and_true, Bool.true_and, Bool.and_false, Bool.false_and, and_self, and_true, true_and, and_false, false_and, bi_T, bi_F, not_true_eq_false, Bool.false_eq_true, kg_123, n4, n2]
theorem R_numb2_150 {h : hp} (hI : IR h) (hT : TP h) {cap : Nat} (h16 : cap ≤ 16) (max : Int) : ∃ (v : Int) (g : hp), px_R (mm_Tape_readNumbers, 0, [(2, 2), (2, 122), (0, (cap : Int)), (9, 0), (9, 0)], [], (K0, h)) = some (v, (K0, g)) ∧ Fr [122] nss h g ∧ g 2 1 = 0 ∧ ∀ gg : hp, Fr [122] [] g gg → ∃ (v2 : Int) (k : hp), px_R (mm_Mod_readNumbers, 0, [(2, 123), (2, 150), (0, (cap : Int)), (0, max), (9, 0)], [], (K0, gg)) = some (v2, (K0, k)) ∧ Fr [150] mss gg k ∧ k 123 1 = 0 ∧ numR cap max v v2 (g 122) (k 150) := by
  obtain ⟨p1, p2, p3⟩ := hT
  obtain ⟨N, hN⟩ := Int.eq_ofNat_of_zero_le p2.1
  have F0 : Fr [122] nss h (px_up h 2 4 0) := Fr_up (Fr_rf _ _ _) _ rfl
  have C0 : TC2 (h 3) N (px_up h 2 4 0) := ⟨IR_Fr hI F0 (by decide), by
    simp only [px_up_cell, px_up_slot, px_up_eq, ne_eq, Nat.reduceEqDiff, not_false_eq_true]
    exact hN, by omega, fun j => by simp only [px_up_cell, px_up_slot, px_up_eq, ne_eq, Nat.reduceEqDiff, not_false_eq_true]⟩
  have z4 : (px_up h 2 4 0) 2 4 = ((0 : Nat) : Int) := px_up_eq _ _ _ _
  obtain ⟨v, g, r1, r2, r3, r4, r5⟩ := num_C2 (cap := cap) (show cap ≤ 16 by omega) cap 0 0 _ (Nat.zero_add _) C0 (Nat.zero_le _) z4
  refine ⟨v, g, ?_, Fr_tr2 F0 r2, r3, fun gg FG => ?_⟩
  · rw [eq_Tape_readNumbers_0]
    simp only [px_rd_mk, px_wr_mk, Int.reduceToNat, Int.toNat_natCast, if_true, if_false, Option.bind_some, px_up_cell, px_up_slot, px_up_eq, ne_eq, Nat.reduceEqDiff, not_false_eq_true, Int.reduceEq, Int.reduceLT, Int.reduceLE, Int.reduceNeg, decide_true, decide_false, Bool.and_true, Bool.true_and, Bool.and_false, Bool.false_and, and_self, and_true, true_and, and_false, false_and, bi_T, bi_F, not_true_eq_false, Bool.false_eq_true, kg_2]
    exact r1
  have G : Fr [122] nss h gg := Fr_tr2 (Fr_tr2 F0 r2) (Fr_sub FG rfl rfl)
  have gI := IR_Fr hI G (by decide)
  have K1 : Fr [150] mss gg (px_up (px_up (px_up gg 123 2 (gg 123 1)) 123 1 0) 123 6 0) := Fr_up (Fr_up (Fr_up (Fr_rf _ _ _) _ rfl) _ rfl) _ rfl
  have M1 : TM (h 3) N (px_up (px_up (px_up gg 123 2 (gg 123 1)) 123 1 0) 123 6 0) := ⟨IR_Fr gI K1 (by decide), by
    simp only [px_up_cell, px_up_slot, px_up_eq, ne_eq, Nat.reduceEqDiff, not_false_eq_true]
    rw [G 123 1 rfl, p1, hN], by omega, fun j => by
    simp only [px_up_cell, px_up_slot, px_up_eq, ne_eq, Nat.reduceEqDiff, not_false_eq_true]
    rw [G 124 j rfl]
    exact (p3 j).1, fun j => (p3 j).2⟩
  obtain ⟨s, e, kd, k1, a1, a2, a3, a4, a5, a6, a7, a8, a9⟩ := R_scan (i := 0) M1 (Nat.zero_le _) (px_up_eq _ _ _ _)
  have M2 := TM_F M1 a3 rfl (fun I => IR_Fr I a3 (by decide))
  obtain ⟨v', v2, g', k, b1, b2, b3, b4, b5⟩ := numJ_150 h16 max cap 0 0 _ k1 (Nat.zero_add _) C0 (Nat.zero_le _) z4 M2 (fun q hq => absurd hq (by omega)) s e kd a1 a4 a6 a9
  obtain ⟨rfl, rfl⟩ := some_i (r1.symm.trans b1)
  refine ⟨v2, k, ?_, Fr_tr2 (Fr_tr2 K1 (Fr_sub a3 rfl rfl)) b3, ?_, b5⟩
  · rw [eq_Mod_readNumbers_0, eq_Mod_takeTape_0]
    simp only [px_rd_mk, px_wr_mk, Int.reduceToNat, Int.toNat_natCast, if_true, if_false, Option.bind_some, px_up_cell, px_up_slot, px_up_eq, ne_eq, Nat.reduceEqDiff, not_false_eq_true, Int.reduceEq, Int.reduceLT, Int.reduceLE, Int.reduceNeg, decide_true, decide_false, Bool.and_true, Bool.true_and, Bool.and_false, Bool.false_and, and_self, and_true, true_and, and_false, false_and, bi_T, bi_F, not_true_eq_false, Bool.false_eq_true, kg_123, a2]
    exact b2
  · rw [b4, a3 123 1 rfl]
    simp only [px_up_cell, px_up_slot, px_up_eq, ne_eq, Nat.reduceEqDiff, not_false_eq_true]
theorem R_numbers_150 {h : hp} (hI : IR h) (hT : TP h) {cap : Nat} (h16 : cap ≤ 16) (max : Int) : ∃ (v v2 : Int) (g k : hp), px_R (mm_Tape_readNumbers, 0, [(2, 2), (2, 122), (0, (cap : Int)), (9, 0), (9, 0)], [], (K0, h)) = some (v, (K0, g)) ∧ px_R (mm_Mod_readNumbers, 0, [(2, 123), (2, 150), (0, (cap : Int)), (0, max), (9, 0)], [], (K0, g)) = some (v2, (K0, k)) ∧ Fr [122] nss h g ∧ Fr [150] mss g k ∧ g 2 1 = 0 ∧ k 123 1 = 0 ∧ numR cap max v v2 (g 122) (k 150) := by
  obtain ⟨v, g, r1, r2, r3, r4⟩ := R_numb2_150 hI hT h16 max
  obtain ⟨v2, k, q1, q2, q3, q4⟩ := r4 g (Fr_rf _ _ _)
  exact ⟨v, v2, g, k, r1, q1, r2, q2, r3, q3, q4⟩
theorem numJ_159 {T : Nat → Int} {N cap : Nat} (h16 : cap ≤ 4) (max : Int) (m : Nat) : ∀ (c i : Nat) (g k : hp), c + m = cap → TC2 T N g → i ≤ N → g 2 4 = (i : Int) → TM T N k → (∀ q, q < c → (0 ≤ g 122 q ∧ g 122 q ≤ 9999) ∧ g 122 q ≤ max ∧ k 159 q = g 122 q) → ∀ (s e kd : Nat), TK T N i s e kd → k 123 3 = (((kd + 4) % 5 : Nat) : Int) → k 123 6 = (e : Int) → (kd = 3 → k 123 7 = nvl T s (e - s)) → ∃ (v v2 : Int) (g2 k2 : hp), px_R (mm_Tape_readNumbers, 10, [(2, 2), (2, 122), (0, (cap : Int)), (0, -1), (0, (c : Int))], [], (K0, g)) = some (v, (K0, g2)) ∧ px_R (mm_Mod_readNumbers, 7, [(2, 123), (2, 159), (0, (cap : Int)), (0, max), (0, (c : Int))], [], (K0, k)) = some (v2, (K0, k2)) ∧ Fr [159] mss k k2 ∧ k2 123 1 = k 123 1 ∧ numR cap max v v2 (g2 122) (k2 159) := by
  induction m with
  | zero =>
    intro c i g k hc C hi e4 M V s e kd t e3 e6 e7
    obtain ⟨s', e', kd', t1, g1, t2, t3, t4, t5, t6⟩ := num_step C hi e4 (Nat.le_of_eq hc) (by omega)
    obtain ⟨rfl, rfl, rfl⟩ := TK_u t t1
    have le := TK_le t
    by_cases k0 : kd = 0
    · refine ⟨(c : Int), (c : Int), _, k, t4 k0, ?_, Fr_rf _ _ _, rfl, Or.inr ⟨c, by omega, rfl, fun q hq => ?_, Or.inl ⟨rfl, fun q hq => ?_⟩⟩⟩
      · subst k0
        have e3 : k 123 3 = 4 := e3
        rw [eq_Mod_readNumbers_7]
        simp only [px_rd_mk, px_wr_mk, Int.reduceToNat, Int.toNat_natCast, if_true, if_false, Option.bind_some, px_up_cell, px_up_slot, px_up_eq, ne_eq, Nat.reduceEqDiff, not_false_eq_true, Int.reduceEq, Int.reduceLT, Int.reduceLE, Int.reduceNeg, decide_true, decide_false, Bool.and_true, Bool.true_and, Bool.and_false, Bool.false_and, and_self, and_true, true_and, and_false, false_and, bi_T, bi_F, not_true_eq_false, Bool.false_eq_true, kg_123, e3]
      · simp only [px_up_cell, px_up_slot, px_up_eq, ne_eq, Nat.reduceEqDiff, not_false_eq_true]
        rw [t2 122 q rfl]
        exact (V q hq).1
      · simp only [px_up_cell, px_up_slot, px_up_eq, ne_eq, Nat.reduceEqDiff, not_false_eq_true]
        rw [t2 122 q rfl]
        exact (V q hq).2
    · have n4 : (k 123 3 = 4) = False := eq_false (by omega)
      by_cases k3 : kd = 3
      · refine ⟨-1, -1, _, k, t5 (Or.inr ⟨k3, hc⟩), ?_, Fr_rf _ _ _, rfl, Or.inl ⟨rfl, rfl⟩⟩
        subst k3
        have e3 : k 123 3 = 2 := e3
        have cc : ((c : Int) = (cap : Int)) = True := eq_true (by omega)
        rw [eq_Mod_readNumbers_7]
        simp only [px_rd_mk, px_wr_mk, Int.reduceToNat, Int.toNat_natCast, if_true, if_false, Option.bind_some, px_up_cell, px_up_slot, px_up_eq, ne_eq, Nat.reduceEqDiff, not_false_eq_true, Int.reduceEq, Int.reduceLT, Int.reduceLE, Int.reduceNeg, decide_true, decide_false, Bool.and_true, Bool.true_and, Bool.and_false, Bool.false_and, and_self, and_true, true_and, and_false, false_and, bi_T, bi_F, not_true_eq_false, Bool.false_eq_true, kg_123, e3, cc, ite_self]
      · refine ⟨-1, -1, _, k, t5 (Or.inl ⟨k0, k3⟩), ?_, Fr_rf _ _ _, rfl, Or.inl ⟨rfl, rfl⟩⟩
        have n2 : (k 123 3 = 2) = False := eq_false (by omega)
        rw [eq_Mod_readNumbers_7]
        simp only [px_rd_mk, px_wr_mk, Int.reduceToNat, Int.toNat_natCast, if_true, if_false, Option.bind_some, px_up_cell, px_up_slot, px_up_eq, ne_eq, Nat.reduceEqDiff, not_false_eq_true, Int.reduceEq, Int.reduceLT, Int.reduceLE, Int.reduceNeg, decide_true, decide_false, Bool.and_true, Bool.true_and, Bool.and_false, Bool.false_and, and_self, and_true, true_and, and_false, false_and, bi_T, bi_F, not_true_eq_false, Bool.false_eq_true, kg_123, n4, n2]
  | succ m ih =>
    intro c i g k hc C hi e4 M V s e kd t e3 e6 e7
    obtain ⟨s', e', kd', t1, g1, t2, t3, t4, t5, t6⟩ := num_step (cap := cap) C hi e4 (show c ≤ cap by omega) (by omega)
    obtain ⟨rfl, rfl, rfl⟩ := TK_u t t1
    have le := TK_le t
    by_cases k0 : kd = 0
    · refine ⟨(c : Int), (c : Int), _, k, t4 k0, ?_, Fr_rf _ _ _, rfl, Or.inr ⟨c, by omega, rfl, fun q hq => ?_, Or.inl ⟨rfl, fun q hq => ?_⟩⟩⟩
      · subst k0
        have e3 : k 123 3 = 4 := e3
        rw [eq_Mod_readNumbers_7]
        simp only [px_rd_mk, px_wr_mk, Int.reduceToNat, Int.toNat_natCast, if_true, if_false, Option.bind_some, px_up_cell, px_up_slot, px_up_eq, ne_eq, Nat.reduceEqDiff, not_false_eq_true, Int.reduceEq, Int.reduceLT, Int.reduceLE, Int.reduceNeg, decide_true, decide_false, Bool.and_true, Bool.true_and, Bool.and_false, Bool.false_and, and_self, and_true, true_and, and_false, false_and, bi_T, bi_F, not_true_eq_false, Bool.false_eq_true, kg_123, e3]
      · simp only [px_up_cell, px_up_slot, px_up_eq, ne_eq, Nat.reduceEqDiff, not_false_eq_true]
        rw [t2 122 q rfl]
        exact (V q hq).1
      · simp only [px_up_cell, px_up_slot, px_up_eq, ne_eq, Nat.reduceEqDiff, not_false_eq_true]
        rw [t2 122 q rfl]
        exact (V q hq).2
    · have n4 : (k 123 3 = 4) = False := eq_false (by omega)
      by_cases k3 : kd = 3
      · subst k3
        have e3 : k 123 3 = 2 := e3
        have e7 := e7 rfl
        have vr := TK_num t
        have G : Fr [122] tss g (px_up g1 122 c (nvl T s (e - s))) := Fr_up (Fr_sub t2 rfl rfl) _ rfl
        have C1 : TC2 T N (px_up g1 122 c (nvl T s (e - s))) := TC2_F C G rfl (fun I => IR_Fr I G (by decide))
        have g4 : (px_up g1 122 c (nvl T s (e - s))) 2 4 = (e : Int) := (px_up_cell _ _ _ _ (by decide)).trans t3
        have hstep := t6 rfl (show c < cap by omega)
        by_cases mx : max < nvl T s (e - s)
        · obtain ⟨v, g2, r1, r2, r3, r4, r5⟩ := num_C2 (cap := cap) (show cap ≤ 16 by omega) m (c + 1) e _ (by omega) C1 le.2.2.1 g4
          refine ⟨v, -1, g2, k, hstep.trans r1, ?_, Fr_rf _ _ _, rfl, ?_⟩
          · have mx1 := eq_true mx
            rw [eq_Mod_readNumbers_7]
            simp only [px_rd_mk, px_wr_mk, Int.reduceToNat, Int.toNat_natCast, if_true, if_false, Option.bind_some, px_up_cell, px_up_slot, px_up_eq, ne_eq, Nat.reduceEqDiff, not_false_eq_true, Int.reduceEq, Int.reduceLT, Int.reduceLE, Int.reduceNeg, decide_true, decide_false, Bool.and_true, Bool.true_and, Bool.and_false, Bool.false_and, and_self, and_true, true_and, and_false, false_and, bi_T, bi_F, not_true_eq_false, Bool.false_eq_true, kg_123, e3, e7, mx1]
          · rcases r5 with r5 | ⟨n, n1, n2, n3, n4⟩
            · exact Or.inl ⟨r5, rfl⟩
            · refine Or.inr ⟨n, n2, n3, fun q hq => ?_, Or.inr ⟨rfl, c, by omega, ?_⟩⟩
              · by_cases e1 : q < c + 1
                · rw [r4 q e1, px_up_at]
                  by_cases e2 : q = c
                  · rw [if_pos e2]; exact vr
                  · rw [if_neg e2, t2 122 q rfl]
                    exact (V q (by omega)).1
                · exact n4 q (by omega) hq
              · rw [r4 c (by omega), px_up_eq]
                exact mx
        · have mx1 := eq_false mx
          have K1 : Fr [159] mss k (px_up k 159 c (nvl T s (e - s))) := Fr_up (Fr_rf _ _ _) _ rfl
          have M1 : TM T N (px_up k 159 c (nvl T s (e - s))) := ⟨IR_Fr M.1 K1 (by decide), by
            simp only [px_up_cell, px_up_slot, px_up_eq, ne_eq, Nat.reduceEqDiff, not_false_eq_true]
            exact M.2.1, M.2.2.1, fun j => by
            simp only [px_up_cell, px_up_slot, px_up_eq, ne_eq, Nat.reduceEqDiff, not_false_eq_true]
            exact M.2.2.2.1 j, M.2.2.2.2⟩
          obtain ⟨s2, e2, kd2, k2, a1, a2, a3, a4, a5, a6, a7, a8, a9⟩ := R_scan M1 le.2.2.1 (by
            simp only [px_up_cell, px_up_slot, px_up_eq, ne_eq, Nat.reduceEqDiff, not_false_eq_true]
            exact e6)
          have M2 := TM_F M1 a3 rfl (fun I => IR_Fr I a3 (by decide))
          obtain ⟨v, v2, g2, kk, r1, r2, r3, r4, r5⟩ := ih (c + 1) e _ k2 (by omega) C1 le.2.2.1 g4 M2 (fun q hq => by
            rw [a3 159 q rfl, px_up_at, px_up_at]
            by_cases e1 : q = c
            · rw [if_pos e1, if_pos e1]
              exact ⟨vr, by omega, rfl⟩
            · rw [if_neg e1, if_neg e1, t2 122 q rfl]
              exact V q (by omega)) s2 e2 kd2 a1 a4 a6 a9
          refine ⟨v, v2, g2, kk, hstep.trans r1, ?_, Fr_tr2 (Fr_tr2 K1 (Fr_sub a3 rfl rfl)) r3, ?_, r5⟩
          · have cc : ((c : Int) = (cap : Int)) = False := eq_false (by omega)
            have gc : (decide ((0 : Int) ≤ (c : Int)) && decide ((c : Int) < 4)) = true := gd_ok (by omega)
            rw [eq_Mod_readNumbers_7]
            simp only [px_rd_mk, px_wr_mk, Int.reduceToNat, Int.toNat_natCast, if_true, if_false, Option.bind_some, px_up_cell, px_up_slot, px_up_eq, ne_eq, Nat.reduceEqDiff, not_false_eq_true, Int.reduceEq, Int.reduceLT, Int.reduceLE, Int.reduceNeg, decide_true, decide_false, Bool.and_true, Bool.true_and, Bool.and_false, Bool.false_and, and_self, and_true, true_and, and_false, false_and, bi_T, bi_F, not_true_eq_false, Bool.false_eq_true, kg_123, ka_159, e3, e7, mx1, cc, gc, a2, px_w_s (show c < 1000000 by omega)]
            exact r2
          · rw [r4, a3 123 1 rfl]
            simp only [px_up_cell, px_up_slot, px_up_eq, ne_eq, Nat.reduceEqDiff, not_false_eq_true]
      · refine ⟨-1, -1, _, k, t5 (Or.inl ⟨k0, k3⟩), ?_, Fr_rf _ _ _, rfl, Or.inl ⟨rfl, rfl⟩⟩
        have n2 : (k 123 3 = 2) = False := eq_false (by omega)
        rw [eq_Mod_readNumbers_7]
        simp only [px_rd_mk, px_wr_mk, Int.reduceToNat, Int.toNat_natCast, if_true, if_false, Option.bind_some, px_up_cell, px_up_slot, px_up_eq, ne_eq, Nat.reduceEqDiff, not_false_eq_true, Int.reduceEq, Int.reduceLT, Int.reduceLE, Int.reduceNeg, decide_true, decide_false, Bool.and_true, Bool.true_and, Bool.and_false, Bool.false_and, and_self, and_true, true_and, and_false, false_and, bi_T, bi_F, not_true_eq_false, Bool.false_eq_true, kg_123, n4, n2]
theorem R_numb2_159 {h : hp} (hI : IR h) (hT : TP h) {cap : Nat} (h16 : cap ≤ 4) (max : Int) : ∃ (v : Int) (g : hp), px_R (mm_Tape_readNumbers, 0, [(2, 2), (2, 122), (0, (cap : Int)), (9, 0), (9, 0)], [], (K0, h)) = some (v, (K0, g)) ∧ Fr [122] nss h g ∧ g 2 1 = 0 ∧ ∀ gg : hp, Fr [122] [] g gg → ∃ (v2 : Int) (k : hp), px_R (mm_Mod_readNumbers, 0, [(2, 123), (2, 159), (0, (cap : Int)), (0, max), (9, 0)], [], (K0, gg)) = some (v2, (K0, k)) ∧ Fr [159] mss gg k ∧ k 123 1 = 0 ∧ numR cap max v v2 (g 122) (k 159) := by
  obtain ⟨p1, p2, p3⟩ := hT
  obtain ⟨N, hN⟩ := Int.eq_ofNat_of_zero_le p2.1
  have F0 : Fr [122] nss h (px_up h 2 4 0) := Fr_up (Fr_rf _ _ _) _ rfl
  have C0 : TC2 (h 3) N (px_up h 2 4 0) := ⟨IR_Fr hI F0 (by decide), by
    simp only [px_up_cell, px_up_slot, px_up_eq, ne_eq, Nat.reduceEqDiff, not_false_eq_true]
    exact hN, by omega, fun j => by simp only [px_up_cell, px_up_slot, px_up_eq, ne_eq, Nat.reduceEqDiff, not_false_eq_true]⟩
  have z4 : (px_up h 2 4 0) 2 4 = ((0 : Nat) : Int) := px_up_eq _ _ _ _
  obtain ⟨v, g, r1, r2, r3, r4, r5⟩ := num_C2 (cap := cap) (show cap ≤ 16 by omega) cap 0 0 _ (Nat.zero_add _) C0 (Nat.zero_le _) z4
  refine ⟨v, g, ?_, Fr_tr2 F0 r2, r3, fun gg FG => ?_⟩
  · rw [eq_Tape_readNumbers_0]
    simp only [px_rd_mk, px_wr_mk, Int.reduceToNat, Int.toNat_natCast, if_true, if_false, Option.bind_some, px_up_cell, px_up_slot, px_up_eq, ne_eq, Nat.reduceEqDiff, not_false_eq_true, Int.reduceEq, Int.reduceLT, Int.reduceLE, Int.reduceNeg, decide_true, decide_false, Bool.and_true, Bool.true_and, Bool.and_false, Bool.false_and, and_self, and_true, true_and, and_false, false_and, bi_T, bi_F, not_true_eq_false, Bool.false_eq_true, kg_2]
    exact r1
  have G : Fr [122] nss h gg := Fr_tr2 (Fr_tr2 F0 r2) (Fr_sub FG rfl rfl)
  have gI := IR_Fr hI G (by decide)
  have K1 : Fr [159] mss gg (px_up (px_up (px_up gg 123 2 (gg 123 1)) 123 1 0) 123 6 0) := Fr_up (Fr_up (Fr_up (Fr_rf _ _ _) _ rfl) _ rfl) _ rfl
  have M1 : TM (h 3) N (px_up (px_up (px_up gg 123 2 (gg 123 1)) 123 1 0) 123 6 0) := ⟨IR_Fr gI K1 (by decide), by
    simp only [px_up_cell, px_up_slot, px_up_eq, ne_eq, Nat.reduceEqDiff, not_false_eq_true]
    rw [G 123 1 rfl, p1, hN], by omega, fun j => by
    simp only [px_up_cell, px_up_slot, px_up_eq, ne_eq, Nat.reduceEqDiff, not_false_eq_true]
    rw [G 124 j rfl]
    exact (p3 j).1, fun j => (p3 j).2⟩
  obtain ⟨s, e, kd, k1, a1, a2, a3, a4, a5, a6, a7, a8, a9⟩ := R_scan (i := 0) M1 (Nat.zero_le _) (px_up_eq _ _ _ _)
  have M2 := TM_F M1 a3 rfl (fun I => IR_Fr I a3 (by decide))
  obtain ⟨v', v2, g', k, b1, b2, b3, b4, b5⟩ := numJ_159 h16 max cap 0 0 _ k1 (Nat.zero_add _) C0 (Nat.zero_le _) z4 M2 (fun q hq => absurd hq (by omega)) s e kd a1 a4 a6 a9
  obtain ⟨rfl, rfl⟩ := some_i (r1.symm.trans b1)
  refine ⟨v2, k, ?_, Fr_tr2 (Fr_tr2 K1 (Fr_sub a3 rfl rfl)) b3, ?_, b5⟩
  · rw [eq_Mod_readNumbers_0, eq_Mod_takeTape_0]
    simp only [px_rd_mk, px_wr_mk, Int.reduceToNat, Int.toNat_natCast, if_true, if_false, Option.bind_some, px_up_cell, px_up_slot, px_up_eq, ne_eq, Nat.reduceEqDiff, not_false_eq_true, Int.reduceEq, Int.reduceLT, Int.reduceLE, Int.reduceNeg, decide_true, decide_false, Bool.and_true, Bool.true_and, Bool.and_false, Bool.false_and, and_self, and_true, true_and, and_false, false_and, bi_T, bi_F, not_true_eq_false, Bool.false_eq_true, kg_123, a2]
    exact b2
  · rw [b4, a3 123 1 rfl]
    simp only [px_up_cell, px_up_slot, px_up_eq, ne_eq, Nat.reduceEqDiff, not_false_eq_true]
theorem R_numbers_159 {h : hp} (hI : IR h) (hT : TP h) {cap : Nat} (h16 : cap ≤ 4) (max : Int) : ∃ (v v2 : Int) (g k : hp), px_R (mm_Tape_readNumbers, 0, [(2, 2), (2, 122), (0, (cap : Int)), (9, 0), (9, 0)], [], (K0, h)) = some (v, (K0, g)) ∧ px_R (mm_Mod_readNumbers, 0, [(2, 123), (2, 159), (0, (cap : Int)), (0, max), (9, 0)], [], (K0, g)) = some (v2, (K0, k)) ∧ Fr [122] nss h g ∧ Fr [159] mss g k ∧ g 2 1 = 0 ∧ k 123 1 = 0 ∧ numR cap max v v2 (g 122) (k 159) := by
  obtain ⟨v, g, r1, r2, r3, r4⟩ := R_numb2_159 hI hT h16 max
  obtain ⟨v2, k, q1, q2, q3, q4⟩ := r4 g (Fr_rf _ _ _)
  exact ⟨v, v2, g, k, r1, q1, r2, q2, r3, q3, q4⟩
