theorem bit_0 {T a : Nat} (hT : T < 1024) (ha : a < 10) : (px_and (px_shr (T : Int) (a : Int)) 1 = 0) = (inS T a = false) := by
  have bg := bit_g hT ha
  have lt2 : T / 2 ^ a % 2 < 2 := Nat.mod_lt _ (by decide)
  rw [bg]
  unfold inS
  apply propext
  constructor
  · intro q
    exact decide_eq_false (by omega)
  · intro q
    have := of_decide_eq_false q
    omega
theorem C_among {h : hp} (C : CI h) (z x y : Int) : AL h mm_Tin_among mm_Mod_among [(2, 1), (0, z), (0, x), (0, y)] [(2, 123), (0, z), (0, x), (0, y)] := by
  have C2 := C
  obtain ⟨n, ⟨hn, h8, h9⟩, hI, hT, hK, hS, hL, hR, hC, hKs, hW, hB⟩ := C2
  have o2 := fun x => R_one hn h8 hI hS (y := 2) (k := 2) rfl (by decide) x
  have i2 := fun {g : hp} (F : Fr xcs [(51, 0), (51, 1), (51, 5)] h g) x => R_is (IR_Fr hI F (by decide)) (ST_F hn F rfl hS) (y := 2) (k := 2) rfl (by decide) x
  have i20 := fun x => R_is hI hS (y := 2) (k := 2) rfl (by decide) x
  have c2 := ST_n hS (k := 2) (by decide)
  obtain ⟨W, hW2⟩ := Int.eq_ofNat_of_zero_le c2.2.1
  have W6 : W ≤ 6 := by omega
  have aw := R_tallWords hn h8 hI hW2 W6
  have mw := R_mallWords hI (c2.1.trans hW2) W6
  have T64 := all_lt W6
  by_cases hx : 0 ≤ x ∧ x < h (n + 1) 2
  · by_cases hy : 0 ≤ y ∧ y < h (n + 1) 2
    · by_cases hz : 0 ≤ z ∧ z ≤ ((2 ^ W - 1 : Nat) : Int)
      · obtain ⟨a, rfl⟩ := Int.eq_ofNat_of_zero_le hx.1
        obtain ⟨b, rfl⟩ := Int.eq_ofNat_of_zero_le hy.1
        obtain ⟨T, rfl⟩ := Int.eq_ofNat_of_zero_le hz.1
        have haW : a < W := by omega
        have hbW : b < W := by omega
        have hTT : T < 1024 := by omega
        have ba := bit_0 hTT (show a < 10 by omega)
        have bb := bit_0 hTT (show b < 10 by omega)
        cases inA : inS T a
        · have ba1 := ba.mpr inA
          refine AL_same C (-2) ?_ ?_
          · rw [eq_Tin_among_0]
            simp only [px_rd_mk, px_wr_mk, Int.reduceToNat, Int.toNat_natCast, if_true, if_false, Option.bind_some, px_up_cell, px_up_slot, px_up_eq, ne_eq, Nat.reduceEqDiff, not_false_eq_true, Int.reduceEq, Int.reduceLT, Int.reduceLE, Int.reduceNeg, decide_true, decide_false, Bool.and_true, Bool.true_and, Bool.and_false, Bool.false_and, and_self, and_true, true_and, and_false, false_and, bi_T, bi_F, not_true_eq_false, Bool.false_eq_true, kg_1, o2, bi_t hx, bi_t hy, aw, R_Tin_within, bi_t hz, ba1]
          · rw [eq_Mod_among_0]
            simp only [px_rd_mk, px_wr_mk, Int.reduceToNat, Int.toNat_natCast, if_true, if_false, Option.bind_some, px_up_cell, px_up_slot, px_up_eq, ne_eq, Nat.reduceEqDiff, not_false_eq_true, Int.reduceEq, Int.reduceLT, Int.reduceLE, Int.reduceNeg, decide_true, decide_false, Bool.and_true, Bool.true_and, Bool.and_false, Bool.false_and, and_self, and_true, true_and, and_false, false_and, bi_T, bi_F, not_true_eq_false, Bool.false_eq_true, kg_123, i20, bi_t hx, bi_t hy, mw, R_Mod_in, bi_t hz, ba1]
        · have ba1 : (px_and (px_shr (T : Int) (a : Int)) 1 = 0) = False := by rw [ba, inA]; simp
          cases inB : inS T b
          · have bb1 := bb.mpr inB
            refine AL_same C (-2) ?_ ?_
            · rw [eq_Tin_among_0]
              simp only [px_rd_mk, px_wr_mk, Int.reduceToNat, Int.toNat_natCast, if_true, if_false, Option.bind_some, px_up_cell, px_up_slot, px_up_eq, ne_eq, Nat.reduceEqDiff, not_false_eq_true, Int.reduceEq, Int.reduceLT, Int.reduceLE, Int.reduceNeg, decide_true, decide_false, Bool.and_true, Bool.true_and, Bool.and_false, Bool.false_and, and_self, and_true, true_and, and_false, false_and, bi_T, bi_F, not_true_eq_false, Bool.false_eq_true, kg_1, o2, bi_t hx, bi_t hy, aw, R_Tin_within, bi_t hz, ba1, bb1]
            · rw [eq_Mod_among_0]
              simp only [px_rd_mk, px_wr_mk, Int.reduceToNat, Int.toNat_natCast, if_true, if_false, Option.bind_some, px_up_cell, px_up_slot, px_up_eq, ne_eq, Nat.reduceEqDiff, not_false_eq_true, Int.reduceEq, Int.reduceLT, Int.reduceLE, Int.reduceNeg, decide_true, decide_false, Bool.and_true, Bool.true_and, Bool.and_false, Bool.false_and, and_self, and_true, true_and, and_false, false_and, bi_T, bi_F, not_true_eq_false, Bool.false_eq_true, kg_123, i20, bi_t hx, bi_t hy, mw, R_Mod_in, bi_t hz, ba1, bb1]
          · have bb1 : (px_and (px_shr (T : Int) (b : Int)) 1 = 0) = False := by rw [bb, inB]; simp
            have c8 := hS.2.2.2.2.1
            obtain ⟨N, hN2⟩ := Int.eq_ofNat_of_zero_le c8.2.1
            by_cases hc : h (n + 1) 0 = 0 ∨ h (n + 1) 1 = 0
            · have hc2 : ¬ (0 < h (n + 1) 0 ∧ 0 < h (n + 1) 1) := by omega
              refine AL_same C (-4) ?_ ?_
              · rw [eq_Tin_among_0]
                simp only [px_rd_mk, px_wr_mk, Int.reduceToNat, Int.toNat_natCast, if_true, if_false, Option.bind_some, px_up_cell, px_up_slot, px_up_eq, ne_eq, Nat.reduceEqDiff, not_false_eq_true, Int.reduceEq, Int.reduceLT, Int.reduceLE, Int.reduceNeg, decide_true, decide_false, Bool.and_true, Bool.true_and, Bool.and_false, Bool.false_and, and_self, and_true, true_and, and_false, false_and, bi_T, bi_F, not_true_eq_false, Bool.false_eq_true, kg_1, o2, bi_t hx, bi_t hy, aw, R_Tin_within, bi_t hz, ba1, bb1]
                rw [eq_Tin_takenFor_0]
                simp only [px_rd_mk, px_wr_mk, Int.reduceToNat, Int.toNat_natCast, if_true, if_false, Option.bind_some, px_up_cell, px_up_slot, px_up_eq, ne_eq, Nat.reduceEqDiff, not_false_eq_true, Int.reduceEq, Int.reduceLT, Int.reduceLE, Int.reduceNeg, decide_true, decide_false, Bool.and_true, Bool.true_and, Bool.and_false, Bool.false_and, and_self, and_true, true_and, and_false, false_and, bi_T, bi_F, not_true_eq_false, Bool.false_eq_true, kg_1, R_lineLacks hn h8 hI, bi_t hc]
              · rw [eq_Mod_among_0]
                simp only [px_rd_mk, px_wr_mk, Int.reduceToNat, Int.toNat_natCast, if_true, if_false, Option.bind_some, px_up_cell, px_up_slot, px_up_eq, ne_eq, Nat.reduceEqDiff, not_false_eq_true, Int.reduceEq, Int.reduceLT, Int.reduceLE, Int.reduceNeg, decide_true, decide_false, Bool.and_true, Bool.true_and, Bool.and_false, Bool.false_and, and_self, and_true, true_and, and_false, false_and, bi_T, bi_F, not_true_eq_false, Bool.false_eq_true, kg_123, i20, bi_t hx, bi_t hy, mw, R_Mod_in, bi_t hz, ba1, bb1, R_hasLine hI hS, bi_f hc2]
            · have c0 := ST_n hS (k := 0) (by decide)
              have c1 := ST_n hS (k := 1) (by decide)
              have hc2 : 0 < h (n + 1) 0 ∧ 0 < h (n + 1) 1 := by omega
              obtain ⟨s, s1, s2, s3⟩ := LI_s hL hc2.1
              obtain ⟨t, t1, t2, t3⟩ := LI_t hL hc2.2
              obtain ⟨yy, y1, y2, y3, y4⟩ := LI_y hL
              obtain ⟨g, e1, F1⟩ := R_takenFor h8 ⟨hn, hI, hS, LI_LB hL⟩ hc s1 s3 t1 t3 y1 y3 hW2 hN2 (T := T) hTT haW hbW inA
              have LCg := LC_F ⟨hn, hI, hS, LI_LB hL⟩ F1 (by decide) rfl rfl
              have f1 := Fr_st hn F1 rfl (n + 1) (by omega) (by omega)
              have f21 := Fr_st hn F1 rfl (n + 21) (by omega) (by omega)
              obtain ⟨k1, m1, G1, M1⟩ := R_makeMC (LC_LD LCg) (s := s) (t := t) (y := yy) (by rw [f1]; exact s3) (by rw [f1]; exact t3) y3 (W := W) (N := N) (by rw [f1]; exact hW2) (by rw [f21]; exact hN2)
              obtain ⟨k2, m2, G2, V2⟩ := R_listen M1 (T := T) hTT haW haW inA
              have I2 := IR_Fr M1.2.2.1 G2 (by decide)
              have hLg := R_hasLine LCg.2.1 LCg.2.2.1
              have i2g := i2 F1
              rw [f1] at hLg i2g
              have gb : (decide ((0 : Int) ≤ (b : Int)) && decide ((b : Int) < 6)) = true := gd_ok (by omega)
              have eLf : lvl n g s t yy = lvl n h s t yy := funext fun w => funext fun c => lvl_F hn F1 rfl s t yy w c
              have vb := (V2 b (by omega)).trans (tk_w M1.2.1 _ _ _ _)
              rw [eLf] at vb
              have F : Fr (xcs ++ [137, 138, 139]) [(51, 0), (51, 1), (51, 5)] h k2 := Fr_sub (Fr_tr (Fr_tr F1 G1) G2) rfl rfl
              have mwg := R_mallWords LCg.2.1 (W := W) ((F1 125 2 rfl).trans (c2.1.trans hW2)) W6
              refine ⟨tkS W N (lvl n h s t yy) T a b, g, k2, ?_, ?_, ⟨n, SP_F F rfl ⟨hn, h8, h9⟩, IR_Fr hI F (by decide), TP_F F rfl hT, FK_F F rfl hK, ST_F hn F rfl hS, LI_F hn F rfl hL, RW_F F rfl hR, CR_F F rfl hC, KS_F F rfl hKs, WI_F hn F rfl hW, BK_F hn F rfl hB⟩⟩
              · rw [eq_Tin_among_0]
                simp only [px_rd_mk, px_wr_mk, Int.reduceToNat, Int.toNat_natCast, if_true, if_false, Option.bind_some, px_up_cell, px_up_slot, px_up_eq, ne_eq, Nat.reduceEqDiff, not_false_eq_true, Int.reduceEq, Int.reduceLT, Int.reduceLE, Int.reduceNeg, decide_true, decide_false, Bool.and_true, Bool.true_and, Bool.and_false, Bool.false_and, and_self, and_true, true_and, and_false, false_and, bi_T, bi_F, not_true_eq_false, Bool.false_eq_true, kg_1, o2, bi_t hx, bi_t hy, aw, R_Tin_within, bi_t hz, ba1, bb1, e1]
              · rw [eq_Mod_among_0]
                simp only [px_rd_mk, px_wr_mk, Int.reduceToNat, Int.toNat_natCast, if_true, if_false, Option.bind_some, px_up_cell, px_up_slot, px_up_eq, ne_eq, Nat.reduceEqDiff, not_false_eq_true, Int.reduceEq, Int.reduceLT, Int.reduceLE, Int.reduceNeg, decide_true, decide_false, Bool.and_true, Bool.true_and, Bool.and_false, Bool.false_and, and_self, and_true, true_and, and_false, false_and, bi_T, bi_F, not_true_eq_false, Bool.false_eq_true, kg_123, ka_139, i2g, bi_t hx, bi_t hy, mwg, R_Mod_in, bi_t hz, ba1, bb1, hLg, bi_t hc2, eq_Mod_makeOwn_0, (F1 123 24 rfl).trans s2, (F1 123 25 rfl).trans t2, (F1 123 26 rfl).trans y2, m1, m2, ir_123_0 I2, ir_123_12 I2, ir_123_13 I2, ir_123_14 I2, ir_123_15 I2, ir_123_16 I2, ir_123_17 I2, ir_123_18 I2, ir_123_19 I2, ir_123_20 I2, ir_123_21 I2, ir_123_30 I2, ir_123_31 I2, ir_123_32 I2, ir_123_33 I2, ir_123_34 I2, ir_123_35 I2, ir_123_36 I2, ir_123_37 I2, ir_123_38 I2, ir_123_39 I2, ir_123_41 I2, ir_123_42 I2, ir_123_44 I2, ir_123_45 I2, ir_123_46 I2, ir_123_50 I2, ir_123_54 I2, ir_123_55 I2, ir_123_56 I2, ir_123_57 I2, ir_123_58 I2, ir_123_59 I2, ir_123_60 I2, ir_123_61 I2, ir_123_62 I2, gb, vb]
      · refine AL_same C (-2) ?_ ?_
        · rw [eq_Tin_among_0]
          simp only [px_rd_mk, px_wr_mk, Int.reduceToNat, Int.toNat_natCast, if_true, if_false, Option.bind_some, px_up_cell, px_up_slot, px_up_eq, ne_eq, Nat.reduceEqDiff, not_false_eq_true, Int.reduceEq, Int.reduceLT, Int.reduceLE, Int.reduceNeg, decide_true, decide_false, Bool.and_true, Bool.true_and, Bool.and_false, Bool.false_and, and_self, and_true, true_and, and_false, false_and, bi_T, bi_F, not_true_eq_false, Bool.false_eq_true, kg_1, aw, R_Tin_within, bi_f hz]
        · rw [eq_Mod_among_0]
          simp only [px_rd_mk, px_wr_mk, Int.reduceToNat, Int.toNat_natCast, if_true, if_false, Option.bind_some, px_up_cell, px_up_slot, px_up_eq, ne_eq, Nat.reduceEqDiff, not_false_eq_true, Int.reduceEq, Int.reduceLT, Int.reduceLE, Int.reduceNeg, decide_true, decide_false, Bool.and_true, Bool.true_and, Bool.and_false, Bool.false_and, and_self, and_true, true_and, and_false, false_and, bi_T, bi_F, not_true_eq_false, Bool.false_eq_true, kg_123, i20, bi_t hx, bi_t hy, mw, R_Mod_in, bi_f hz]
    · refine AL_same C (-2) ?_ ?_
      · rw [eq_Tin_among_0]
        by_cases hz : 0 ≤ z ∧ z ≤ ((2 ^ W - 1 : Nat) : Int)
        · simp only [px_rd_mk, px_wr_mk, Int.reduceToNat, Int.toNat_natCast, if_true, if_false, Option.bind_some, px_up_cell, px_up_slot, px_up_eq, ne_eq, Nat.reduceEqDiff, not_false_eq_true, Int.reduceEq, Int.reduceLT, Int.reduceLE, Int.reduceNeg, decide_true, decide_false, Bool.and_true, Bool.true_and, Bool.and_false, Bool.false_and, and_self, and_true, true_and, and_false, false_and, bi_T, bi_F, not_true_eq_false, Bool.false_eq_true, kg_1, aw, R_Tin_within, bi_t hz, o2, bi_t hx, bi_f hy]
        · simp only [px_rd_mk, px_wr_mk, Int.reduceToNat, Int.toNat_natCast, if_true, if_false, Option.bind_some, px_up_cell, px_up_slot, px_up_eq, ne_eq, Nat.reduceEqDiff, not_false_eq_true, Int.reduceEq, Int.reduceLT, Int.reduceLE, Int.reduceNeg, decide_true, decide_false, Bool.and_true, Bool.true_and, Bool.and_false, Bool.false_and, and_self, and_true, true_and, and_false, false_and, bi_T, bi_F, not_true_eq_false, Bool.false_eq_true, kg_1, aw, R_Tin_within, bi_f hz]
      · rw [eq_Mod_among_0]
        simp only [px_rd_mk, px_wr_mk, Int.reduceToNat, Int.toNat_natCast, if_true, if_false, Option.bind_some, px_up_cell, px_up_slot, px_up_eq, ne_eq, Nat.reduceEqDiff, not_false_eq_true, Int.reduceEq, Int.reduceLT, Int.reduceLE, Int.reduceNeg, decide_true, decide_false, Bool.and_true, Bool.true_and, Bool.and_false, Bool.false_and, and_self, and_true, true_and, and_false, false_and, bi_T, bi_F, not_true_eq_false, Bool.false_eq_true, kg_123, i20, bi_t hx, bi_f hy]
  · refine AL_same C (-2) ?_ ?_
    · rw [eq_Tin_among_0]
      by_cases hz : 0 ≤ z ∧ z ≤ ((2 ^ W - 1 : Nat) : Int)
      · simp only [px_rd_mk, px_wr_mk, Int.reduceToNat, Int.toNat_natCast, if_true, if_false, Option.bind_some, px_up_cell, px_up_slot, px_up_eq, ne_eq, Nat.reduceEqDiff, not_false_eq_true, Int.reduceEq, Int.reduceLT, Int.reduceLE, Int.reduceNeg, decide_true, decide_false, Bool.and_true, Bool.true_and, Bool.and_false, Bool.false_and, and_self, and_true, true_and, and_false, false_and, bi_T, bi_F, not_true_eq_false, Bool.false_eq_true, kg_1, aw, R_Tin_within, bi_t hz, o2, bi_f hx]
      · simp only [px_rd_mk, px_wr_mk, Int.reduceToNat, Int.toNat_natCast, if_true, if_false, Option.bind_some, px_up_cell, px_up_slot, px_up_eq, ne_eq, Nat.reduceEqDiff, not_false_eq_true, Int.reduceEq, Int.reduceLT, Int.reduceLE, Int.reduceNeg, decide_true, decide_false, Bool.and_true, Bool.true_and, Bool.and_false, Bool.false_and, and_self, and_true, true_and, and_false, false_and, bi_T, bi_F, not_true_eq_false, Bool.false_eq_true, kg_1, aw, R_Tin_within, bi_f hz]
    · rw [eq_Mod_among_0]
      simp only [px_rd_mk, px_wr_mk, Int.reduceToNat, Int.toNat_natCast, if_true, if_false, Option.bind_some, px_up_cell, px_up_slot, px_up_eq, ne_eq, Nat.reduceEqDiff, not_false_eq_true, Int.reduceEq, Int.reduceLT, Int.reduceLE, Int.reduceNeg, decide_true, decide_false, Bool.and_true, Bool.true_and, Bool.and_false, Bool.false_and, and_self, and_true, true_and, and_false, false_and, bi_T, bi_F, not_true_eq_false, Bool.false_eq_true, kg_123, i20, bi_f hx]
