/-! The least right ways of a set's words. -/
def mnS (T : Nat) (f : Nat → Int) : Nat → Int
  | 0 => 65536
  | i + 1 => if inS T i = true then px_mn (mnS T f i) (f i) else mnS T f i
theorem mnS_le (T : Nat) (f : Nat → Int) : ∀ k i : Nat, mnS T f (i + k) ≤ mnS T f i
  | 0, i => Int.le_refl _
  | k + 1, i => by
    have := mnS_le T f k i
    show (if inS T (i + k) = true then px_mn (mnS T f (i + k)) (f (i + k)) else mnS T f (i + k)) ≤ _
    unfold px_mn
    (repeat' split) <;> omega
theorem mnS_rng {T : Nat} {f : Nat → Int} : ∀ i : Nat, (∀ w, w < i → 0 ≤ f w ∧ f w ≤ 65536) → 0 ≤ mnS T f i ∧ mnS T f i ≤ 65536
  | 0, _ => by unfold mnS; decide
  | i + 1, hf => by
    have := mnS_rng (T := T) i fun w hw => hf w (by omega)
    have := hf i (by omega)
    rw [mnS]
    unfold px_mn
    (repeat' split) <;> omega
def rtV (W N : Nat) (L : Nat → Nat → Int) (T w : Nat) : Int := tkS W N L T w w
theorem bit_1 {T a : Nat} (hT : T < 1024) (ha : a < 10) : (px_and (px_shr (T : Int) (a : Int)) 1 = 1) = (inS T a = true) := by
  have bg := bit_g hT ha
  rw [bg]
  unfold inS
  apply propext
  rw [decide_eq_true_eq]
  omega
theorem R_leastOf {W N : Nat} {L : Nat → Nat → Int} {h : hp} (E : EC W N L h) {T : Nat} (hT : T < 1024) {e : Int} : ∃ (v : Int) (g : hp), px_R (mm_Ear_leastOf, 0, [(2, 51), (0, (T : Int)), (0, e), (9, 0), (9, 0)], [], (K0, h)) = some (v, (K0, g)) ∧ Fr (hcs ++ dcs) [(51, 5)] h g ∧ (∃ j, j ≤ W ∧ v = mnS T (rtV W N L T) j ∧ (j = W ∨ v ≤ e)) := by
  have hW := E.1
  have ml : ∀ (k i : Nat) (g : hp), i + k = W → Fr (hcs ++ dcs) [(51, 5)] h g → ∃ (v : Int) (j : hp), px_R (mm_Ear_leastOf, 6, [(2, 51), (0, (T : Int)), (0, e), (0, mnS T (rtV W N L T) i), (0, (i : Int))], [], (K0, g)) = some (v, (K0, j)) ∧ Fr (hcs ++ dcs) [(51, 5)] h j ∧ (∃ l, l ≤ W ∧ v = mnS T (rtV W N L T) l ∧ (l = W ∨ v ≤ e)) := by
    intro k
    induction k with
    | zero =>
      intro i g hi F
      have : i = W := hi
      subst this
      have Eg := EC_F E F (by decide) rfl
      have hlt : ((i : Int) < (i : Int)) = False := eq_false (by omega)
      refine ⟨_, g, ?_, F, i, Nat.le_refl i, rfl, Or.inl rfl⟩
      rw [eq_Ear_leastOf_6]
      simp only [px_rd_mk, px_wr_mk, Int.reduceToNat, Int.toNat_natCast, if_true, if_false, Option.bind_some, px_up_cell, px_up_slot, px_up_eq, ne_eq, Nat.reduceEqDiff, not_false_eq_true, Int.reduceEq, Int.reduceLT, Int.reduceLE, Int.reduceNeg, decide_true, decide_false, Bool.and_true, Bool.true_and, Bool.and_false, Bool.false_and, and_self, and_true, true_and, and_false, false_and, bi_T, bi_F, not_true_eq_false, Bool.false_eq_true, kg_51, Eg.2.2.2.1, hlt]
    | succ k ih =>
      intro i g hi F
      have Eg := EC_F E F (by decide) rfl
      have hlt : ((i : Int) < (W : Int)) = True := eq_true (by omega)
      by_cases c : e < mnS T (rtV W N L T) i
      · have b1 := bit_1 hT (show i < 10 by omega)
        cases inA : inS T i
        · have b2 : (px_and (px_shr (T : Int) (i : Int)) 1 = 1) = False := by rw [b1, inA]; simp
          obtain ⟨v, j, j1, j2, j3⟩ := ih (i + 1) g (by omega) F
          rw [mnS, if_neg (by rw [inA]; decide)] at j1
          refine ⟨v, j, ?_, j2, j3⟩
          rw [eq_Ear_leastOf_6]
          simp only [px_rd_mk, px_wr_mk, Int.reduceToNat, Int.toNat_natCast, if_true, if_false, Option.bind_some, px_up_cell, px_up_slot, px_up_eq, ne_eq, Nat.reduceEqDiff, not_false_eq_true, Int.reduceEq, Int.reduceLT, Int.reduceLE, Int.reduceNeg, decide_true, decide_false, Bool.and_true, Bool.true_and, Bool.and_false, Bool.false_and, and_self, and_true, true_and, and_false, false_and, bi_T, bi_F, not_true_eq_false, Bool.false_eq_true, kg_51, Eg.2.2.2.1, hlt, c, b2, px_w_s (show i < 1000000 by omega)]
          exact j1
        · have b2 : (px_and (px_shr (T : Int) (i : Int)) 1 = 1) = True := by rw [b1, inA]; simp
          obtain ⟨g2, e2, ⟨F2, _⟩, V2⟩ := R_hear Eg (D := 66) hT (a := i) (by omega) (a2 := i) (by omega) inA (Or.inl rfl)
          have I2 := IR_Fr Eg.2.2.1 F2 (by decide)
          have gi : (decide ((0 : Int) ≤ (i : Int)) && decide ((i : Int) < 6)) = true := gd_ok (by omega)
          have vi := (V2 i (by omega)).trans (tk_w E.2.1 _ _ _ _)
          have e2 : px_R (mm_Ear_hear, 0, [(2, 51), (0, (i : Int)), (0, (T : Int)), (2, 66), (9, 0), (9, 0)], [], (K0, g)) = some (0, (K0, g2)) := e2
          obtain ⟨v, j, j1, j2, j3⟩ := ih (i + 1) g2 (by omega) (Fr_tr2 F F2)
          rw [mnS, if_pos inA] at j1
          refine ⟨v, j, ?_, j2, j3⟩
          rw [eq_Ear_leastOf_6]
          simp only [px_rd_mk, px_wr_mk, Int.reduceToNat, Int.toNat_natCast, if_true, if_false, Option.bind_some, px_up_cell, px_up_slot, px_up_eq, ne_eq, Nat.reduceEqDiff, not_false_eq_true, Int.reduceEq, Int.reduceLT, Int.reduceLE, Int.reduceNeg, decide_true, decide_false, Bool.and_true, Bool.true_and, Bool.and_false, Bool.false_and, and_self, and_true, true_and, and_false, false_and, bi_T, bi_F, not_true_eq_false, Bool.false_eq_true, kg_51, ka_66, Eg.2.2.2.1, hlt, c, b2, ir_51_2 Eg.2.2.1, ir_51_3 Eg.2.2.1, ir_51_4 Eg.2.2.1, ir_51_6 Eg.2.2.1, ir_51_7 Eg.2.2.1, ir_51_8 Eg.2.2.1, ir_51_9 Eg.2.2.1, e2, ir_51_2 I2, ir_51_3 I2, ir_51_4 I2, ir_51_6 I2, ir_51_7 I2, ir_51_8 I2, ir_51_9 I2, gi, vi, px_w_s (show i < 1000000 by omega)]
          exact j1
      · refine ⟨_, g, ?_, F, i, by omega, rfl, Or.inr (by omega)⟩
        rw [eq_Ear_leastOf_6]
        simp only [px_rd_mk, px_wr_mk, Int.reduceToNat, Int.toNat_natCast, if_true, if_false, Option.bind_some, px_up_cell, px_up_slot, px_up_eq, ne_eq, Nat.reduceEqDiff, not_false_eq_true, Int.reduceEq, Int.reduceLT, Int.reduceLE, Int.reduceNeg, decide_true, decide_false, Bool.and_true, Bool.true_and, Bool.and_false, Bool.false_and, and_self, and_true, true_and, and_false, false_and, bi_T, bi_F, not_true_eq_false, Bool.false_eq_true, kg_51, Eg.2.2.2.1, hlt, c]
  obtain ⟨v, j, j1, j2, j3⟩ := ml W 0 h (Nat.zero_add W) (Fr_rf _ _ _)
  refine ⟨v, j, ?_, j2, j3⟩
  rw [eq_Ear_leastOf_0]
  exact j1
theorem least_ok {W T : Nat} {f : Nat → Int} {v e : Int} (h : ∃ j, j ≤ W ∧ v = mnS T f j ∧ (j = W ∨ v ≤ e)) : (e < v ↔ e < mnS T f W) ∧ (e < v → v = mnS T f W) := by
  obtain ⟨j, j1, j2, j3⟩ := h
  have le := mnS_le T f (W - j) j
  rw [show j + (W - j) = W by omega] at le
  rcases j3 with q | q
  · rw [q] at j2
    exact ⟨by rw [j2], fun _ => j2⟩
  · exact ⟨⟨fun z => by omega, fun z => by omega⟩, fun z => by omega⟩
theorem R_mright {W N : Nat} {L : Nat → Nat → Int} {h : hp} (M : MC W N L h) {T a : Nat} (hT : T < 1024) (ha : a < W) (hb : inS T a = true) : ∃ g : hp, px_R (mm_Mod_right_0, 0, [(2, 123), (0, (T : Int)), (0, (a : Int))], [], (K0, h)) = some (rtV W N L T a, (K0, g)) ∧ Fr [138, 139] [] h g := by
  have hW := M.1
  obtain ⟨g, e, F, V⟩ := R_listen M hT ha ha hb
  have I := IR_Fr M.2.2.1 F (by decide)
  have ga : (decide ((0 : Int) ≤ (a : Int)) && decide ((a : Int) < 6)) = true := gd_ok (by omega)
  have va := (V a (by omega)).trans (tk_w M.2.1 _ _ _ _)
  refine ⟨g, ?_, F⟩
  rw [eq_Mod_right_0_0]
  simp only [px_rd_mk, px_wr_mk, Int.reduceToNat, Int.toNat_natCast, if_true, if_false, Option.bind_some, px_up_cell, px_up_slot, px_up_eq, ne_eq, Nat.reduceEqDiff, not_false_eq_true, Int.reduceEq, Int.reduceLT, Int.reduceLE, Int.reduceNeg, decide_true, decide_false, Bool.and_true, Bool.true_and, Bool.and_false, Bool.false_and, and_self, and_true, true_and, and_false, false_and, bi_T, bi_F, not_true_eq_false, Bool.false_eq_true, kg_123, ka_139, e, ir_123_0 I, ir_123_12 I, ir_123_13 I, ir_123_14 I, ir_123_15 I, ir_123_16 I, ir_123_17 I, ir_123_18 I, ir_123_19 I, ir_123_20 I, ir_123_21 I, ir_123_30 I, ir_123_31 I, ir_123_32 I, ir_123_33 I, ir_123_34 I, ir_123_35 I, ir_123_36 I, ir_123_37 I, ir_123_38 I, ir_123_39 I, ir_123_41 I, ir_123_42 I, ir_123_44 I, ir_123_45 I, ir_123_46 I, ir_123_50 I, ir_123_54 I, ir_123_55 I, ir_123_56 I, ir_123_57 I, ir_123_58 I, ir_123_59 I, ir_123_60 I, ir_123_61 I, ir_123_62 I, ga, va]
  rfl
theorem R_worst {W N : Nat} {L : Nat → Nat → Int} {h : hp} (M : MC W N L h) {T : Nat} (hT : T < 1024) {a2 : Nat} (ha2 : a2 < W) (hb2 : inS T a2 = true) : ∃ g : hp, px_R (mm_Mod_worst, 0, [(2, 123), (0, (T : Int)), (9, 0), (9, 0), (9, 0)], [], (K0, h)) = some (mnS T (rtV W N L T) W, (K0, g)) ∧ Fr [138, 139] [] h g := by
  have hW := M.1
  have hN := M.2.1
  have rr : ∀ w, 0 ≤ rtV W N L T w ∧ rtV W N L T w ≤ 65536 := fun w => tkS_rng hN L T w w
  have ml : ∀ (k i : Nat) (g : hp) (x2 : Int) (y4 : pv), i + k = W → Fr [138, 139] [] h g → ((x2 = -1 ∧ ∀ w, w < i → inS T w = false) ∨ (x2 = mnS T (rtV W N L T) i ∧ ∃ w, w < i ∧ inS T w = true)) → ∃ j : hp, px_R (mm_Mod_worst, 4, [(2, 123), (0, (T : Int)), (0, x2), (0, (i : Int)), y4], [], (K0, g)) = some (mnS T (rtV W N L T) W, (K0, j)) ∧ Fr [138, 139] [] h j := by
    intro k
    induction k with
    | zero =>
      intro i g x2 y4 hi F hx
      have : i = W := hi
      subst this
      have Mg := MC_F M F (by decide) rfl
      have hlt : ((i : Int) < (i : Int)) = False := eq_false (by omega)
      refine ⟨g, ?_, F⟩
      rw [eq_Mod_worst_4]
      simp only [px_rd_mk, px_wr_mk, Int.reduceToNat, Int.toNat_natCast, if_true, if_false, Option.bind_some, px_up_cell, px_up_slot, px_up_eq, ne_eq, Nat.reduceEqDiff, not_false_eq_true, Int.reduceEq, Int.reduceLT, Int.reduceLE, Int.reduceNeg, decide_true, decide_false, Bool.and_true, Bool.true_and, Bool.and_false, Bool.false_and, and_self, and_true, true_and, and_false, false_and, bi_T, bi_F, not_true_eq_false, Bool.false_eq_true, kg_123, ka_125, ir_123_0 Mg.2.2.1, ir_123_12 Mg.2.2.1, ir_123_13 Mg.2.2.1, ir_123_14 Mg.2.2.1, ir_123_15 Mg.2.2.1, ir_123_16 Mg.2.2.1, ir_123_17 Mg.2.2.1, ir_123_18 Mg.2.2.1, ir_123_19 Mg.2.2.1, ir_123_20 Mg.2.2.1, ir_123_21 Mg.2.2.1, ir_123_30 Mg.2.2.1, ir_123_31 Mg.2.2.1, ir_123_32 Mg.2.2.1, ir_123_33 Mg.2.2.1, ir_123_34 Mg.2.2.1, ir_123_35 Mg.2.2.1, ir_123_36 Mg.2.2.1, ir_123_37 Mg.2.2.1, ir_123_38 Mg.2.2.1, ir_123_39 Mg.2.2.1, ir_123_41 Mg.2.2.1, ir_123_42 Mg.2.2.1, ir_123_44 Mg.2.2.1, ir_123_45 Mg.2.2.1, ir_123_46 Mg.2.2.1, ir_123_50 Mg.2.2.1, ir_123_54 Mg.2.2.1, ir_123_55 Mg.2.2.1, ir_123_56 Mg.2.2.1, ir_123_57 Mg.2.2.1, ir_123_58 Mg.2.2.1, ir_123_59 Mg.2.2.1, ir_123_60 Mg.2.2.1, ir_123_61 Mg.2.2.1, ir_123_62 Mg.2.2.1, Mg.2.2.2.1, hlt]
      rcases hx with ⟨_, q⟩ | ⟨q, _⟩
      · rw [q a2 ha2] at hb2; cases hb2
      · rw [q]
    | succ k ih =>
      intro i g x2 y4 hi F hx
      have Mg := MC_F M F (by decide) rfl
      have hlt : ((i : Int) < (W : Int)) = True := eq_true (by omega)
      have b0 := bit_0 hT (show i < 10 by omega)
      cases inA : inS T i
      · have b2 : (px_and (px_shr (T : Int) (i : Int)) 1 = 0) = True := by rw [b0, inA]; simp
        obtain ⟨j, j1, j2⟩ := ih (i + 1) g x2 y4 (by omega) F (by
          rcases hx with ⟨q1, q2⟩ | ⟨q1, w, q2, q3⟩
          · refine Or.inl ⟨q1, fun w hw => ?_⟩
            by_cases e : w = i
            · rw [e]; exact inA
            · exact q2 w (by omega)
          · refine Or.inr ⟨?_, w, by omega, q3⟩
            rw [mnS, if_neg (by rw [inA]; decide)]
            exact q1)
        refine ⟨j, ?_, j2⟩
        rw [eq_Mod_worst_4]
        simp only [px_rd_mk, px_wr_mk, Int.reduceToNat, Int.toNat_natCast, if_true, if_false, Option.bind_some, px_up_cell, px_up_slot, px_up_eq, ne_eq, Nat.reduceEqDiff, not_false_eq_true, Int.reduceEq, Int.reduceLT, Int.reduceLE, Int.reduceNeg, decide_true, decide_false, Bool.and_true, Bool.true_and, Bool.and_false, Bool.false_and, and_self, and_true, true_and, and_false, false_and, bi_T, bi_F, not_true_eq_false, Bool.false_eq_true, kg_123, ka_125, ir_123_0 Mg.2.2.1, ir_123_12 Mg.2.2.1, ir_123_13 Mg.2.2.1, ir_123_14 Mg.2.2.1, ir_123_15 Mg.2.2.1, ir_123_16 Mg.2.2.1, ir_123_17 Mg.2.2.1, ir_123_18 Mg.2.2.1, ir_123_19 Mg.2.2.1, ir_123_20 Mg.2.2.1, ir_123_21 Mg.2.2.1, ir_123_30 Mg.2.2.1, ir_123_31 Mg.2.2.1, ir_123_32 Mg.2.2.1, ir_123_33 Mg.2.2.1, ir_123_34 Mg.2.2.1, ir_123_35 Mg.2.2.1, ir_123_36 Mg.2.2.1, ir_123_37 Mg.2.2.1, ir_123_38 Mg.2.2.1, ir_123_39 Mg.2.2.1, ir_123_41 Mg.2.2.1, ir_123_42 Mg.2.2.1, ir_123_44 Mg.2.2.1, ir_123_45 Mg.2.2.1, ir_123_46 Mg.2.2.1, ir_123_50 Mg.2.2.1, ir_123_54 Mg.2.2.1, ir_123_55 Mg.2.2.1, ir_123_56 Mg.2.2.1, ir_123_57 Mg.2.2.1, ir_123_58 Mg.2.2.1, ir_123_59 Mg.2.2.1, ir_123_60 Mg.2.2.1, ir_123_61 Mg.2.2.1, ir_123_62 Mg.2.2.1, Mg.2.2.2.1, hlt, b2, px_w_s (show i < 1000000 by omega)]
        exact j1
      · have b2 : (px_and (px_shr (T : Int) (i : Int)) 1 = 0) = False := by rw [b0, inA]; simp
        obtain ⟨g2, e2, F2⟩ := R_mright Mg hT (a := i) (by omega) inA
        have r := rr i
        have mr := mnS_rng (T := T) (f := rtV W N L T) i fun w _ => rr w
        have hcs : ∀ x3 : Int, x3 = mnS T (rtV W N L T) (i + 1) → ∃ j : hp, px_R (mm_Mod_worst, 4, [(2, 123), (0, (T : Int)), (0, x3), (0, ((i + 1 : Nat) : Int)), (0, rtV W N L T i)], [], (K0, g2)) = some (mnS T (rtV W N L T) W, (K0, j)) ∧ Fr [138, 139] [] h j := fun x3 hx3 => ih (i + 1) g2 x3 (0, rtV W N L T i) (by omega) (Fr_tr2 F F2) (Or.inr ⟨hx3, i, by omega, inA⟩)
        have em : mnS T (rtV W N L T) (i + 1) = px_mn (mnS T (rtV W N L T) i) (rtV W N L T i) := by rw [mnS, if_pos inA]
        rw [eq_Mod_worst_4]
        simp only [px_rd_mk, px_wr_mk, Int.reduceToNat, Int.toNat_natCast, if_true, if_false, Option.bind_some, px_up_cell, px_up_slot, px_up_eq, ne_eq, Nat.reduceEqDiff, not_false_eq_true, Int.reduceEq, Int.reduceLT, Int.reduceLE, Int.reduceNeg, decide_true, decide_false, Bool.and_true, Bool.true_and, Bool.and_false, Bool.false_and, and_self, and_true, true_and, and_false, false_and, bi_T, bi_F, not_true_eq_false, Bool.false_eq_true, kg_123, ka_125, ir_123_0 Mg.2.2.1, ir_123_12 Mg.2.2.1, ir_123_13 Mg.2.2.1, ir_123_14 Mg.2.2.1, ir_123_15 Mg.2.2.1, ir_123_16 Mg.2.2.1, ir_123_17 Mg.2.2.1, ir_123_18 Mg.2.2.1, ir_123_19 Mg.2.2.1, ir_123_20 Mg.2.2.1, ir_123_21 Mg.2.2.1, ir_123_30 Mg.2.2.1, ir_123_31 Mg.2.2.1, ir_123_32 Mg.2.2.1, ir_123_33 Mg.2.2.1, ir_123_34 Mg.2.2.1, ir_123_35 Mg.2.2.1, ir_123_36 Mg.2.2.1, ir_123_37 Mg.2.2.1, ir_123_38 Mg.2.2.1, ir_123_39 Mg.2.2.1, ir_123_41 Mg.2.2.1, ir_123_42 Mg.2.2.1, ir_123_44 Mg.2.2.1, ir_123_45 Mg.2.2.1, ir_123_46 Mg.2.2.1, ir_123_50 Mg.2.2.1, ir_123_54 Mg.2.2.1, ir_123_55 Mg.2.2.1, ir_123_56 Mg.2.2.1, ir_123_57 Mg.2.2.1, ir_123_58 Mg.2.2.1, ir_123_59 Mg.2.2.1, ir_123_60 Mg.2.2.1, ir_123_61 Mg.2.2.1, ir_123_62 Mg.2.2.1, Mg.2.2.2.1, hlt, b2, e2, px_w_s (show i < 1000000 by omega)]
        rcases hx with ⟨q1, q2⟩ | ⟨q1, w, q2, q3⟩
        · rw [if_pos q1]
          have m0 : ∀ l, (∀ w, w < l → inS T w = false) → mnS T (rtV W N L T) l = 65536 := by
            intro l
            induction l with
            | zero => intro _; rfl
            | succ l ihl =>
              intro q
              rw [mnS, if_neg (by rw [q l (by omega)]; decide)]
              exact ihl fun w hw => q w (by omega)
          exact hcs _ (by rw [em, m0 i q2]; unfold px_mn; split <;> omega)
        · rw [if_neg (by omega)]
          by_cases c : rtV W N L T i < x2
          · rw [if_pos c]
            exact hcs _ (by rw [em, ← q1]; unfold px_mn; rw [if_pos c])
          · rw [if_neg c]
            exact hcs _ (by rw [em, ← q1]; unfold px_mn; rw [if_neg c])
  obtain ⟨j, j1, j2⟩ := ml W 0 h (-1) (9, 0) (Nat.zero_add W) (Fr_rf _ _ _) (Or.inl ⟨rfl, fun w hw => absurd hw (by omega)⟩)
  refine ⟨j, ?_, j2⟩
  rw [eq_Mod_worst_0]
  exact j1
/-- the first of the greatest: the greatest, and where -/
def bst (f : Nat → Int) : Nat → Int × Int
  | 0 => (-1, -1)
  | i + 1 => if (bst f i).1 < f i then (f i, (i : Int)) else bst f i
theorem bst_0 {f : Nat → Int} (h : 0 ≤ f 0) : ∀ i : Nat, 0 ≤ (bst f (i + 1)).2
  | 0 => by
    show 0 ≤ (if (-1 : Int) < f 0 then (f 0, ((0 : Nat) : Int)) else (-1, -1)).2
    rw [if_pos (by omega)]
    exact Int.natCast_nonneg _
  | i + 1 => by
    rw [bst]
    by_cases c : (bst f (i + 1)).1 < f (i + 1)
    · rw [if_pos c]; exact Int.natCast_nonneg _
    · rw [if_neg c]; exact bst_0 h i
theorem Fr_del {cs : List Nat} {ss : List (Nat × Nat)} {a b : Nat} {h g : hp} (F : Fr cs ((a, b) :: ss) h g) (e : g a b = h a b) : Fr cs ss h g := fun x y q => by
  by_cases z : x = a ∧ y = b
  · rw [z.1, z.2]; exact e
  · apply F
    rw [fin_f] at q ⊢
    intro r
    apply q
    rcases r with r | r
    · exact Or.inl r
    · refine Or.inr ?_
      rcases List.mem_cons.mp r with r | r
      · injection r with r1 r2
        exact absurd ⟨r1, r2⟩ z
      · exact r
