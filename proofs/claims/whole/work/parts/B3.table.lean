/-! table and among. -/
def ecs : List Nat := [60, 61, 62, 63, 64, 65, 53, 54, 55, 56, 57, 58]
theorem R_learn {n : Nat} {h mh : hp} (C : LCm n h mh) {s t y : Nat} (h0 : h 48 0 = (s : Int)) (hs : (s : Int) < h (n + 1) 0) (h1 : h 48 1 = (t : Int)) (ht : (t : Int) < h (n + 1) 1) (h2 : h 48 2 = (y : Int)) (hy : y ≤ 400) {W N : Nat} (hW : h (n + 1) 2 = (W : Int)) (hN : h (n + 21) 0 = (N : Int)) : ∃ (v : Int) (g : hp), px_R (mm_Ear_learn, 0, [(2, 51), (2, (n : Int)), (2, 48)], [], (K0, h)) = some (v, (K0, g)) ∧ Fr ecs [(51, 0), (51, 1)] h g ∧ EC W N (lvl n h s t y) g ∧ (v = 0 ∨ v = 1) ∧ (v = 0 → ∀ w b : Nat, w < W → b < 4 → g (53 + w) b = h (53 + w) b) := by
  have CC := C
  obtain ⟨hn, hI, S, L⟩ := C
  have c2 := ST_n S (k := 2) (by decide)
  have c8 := S.2.2.2.2.1
  obtain ⟨g1, e1, F1, ⟨g10, g11⟩, V1⟩ := R_begin CC h0 hs h1 ht hW hN
  have C1 := LCm_F CC F1 (by decide) rfl rfl
  have f1 := Fr_st hn F1 rfl (n + 1) (by omega) (by omega)
  have f13 := Fr_st hn F1 rfl (n + 13) (by omega) (by omega)
  obtain ⟨v, g2, e2, F2, V2, v01, v0⟩ := R_goOn C1 (s := s) (t := t) ((F1 48 0 rfl).trans h0) (by rw [f1]; exact hs) ((F1 48 1 rfl).trans h1) (by rw [f1]; exact ht) g10 (by omega) (fun w b hw hb => by
    rw [V1 w b hw hb]
    have q := S.2.2.2.2.2.2.2.1 w (by omega) b hb
    exact en_rng S L ht hb q.2) (k := y) hy
  have gv : (decide ((0 : Int) ≤ v) && decide (v < 2)) = true := gd_ok (by omega)
  have Fall := Fr_tr F1 F2
  have F : Fr ecs [(51, 0), (51, 1)] h g2 := Fr_sub Fall rfl rfl
  refine ⟨v, g2, ?_, F, ⟨by omega, by omega, IR_Fr hI F (by decide), (F2 51 0 rfl).trans g10, (F2 51 1 rfl).trans g11, fun w b hw hb => ⟨?_, lvl_rng CC.2.2.1 CC.2.2.2 hs ht y (by omega) hb⟩⟩, v01, fun z w b hw hb => ?_⟩
  · rw [eq_Ear_learn_0]
    simp only [px_rd_mk, px_wr_mk, Int.reduceToNat, Int.toNat_natCast, if_true, if_false, Option.bind_some, px_up_cell, px_up_slot, px_up_eq, ne_eq, Nat.reduceEqDiff, not_false_eq_true, Int.reduceEq, Int.reduceLT, Int.reduceLE, Int.reduceNeg, decide_true, decide_false, Bool.and_true, Bool.true_and, Bool.and_false, Bool.false_and, and_self, and_true, true_and, and_false, false_and, bi_T, bi_F, not_true_eq_false, Bool.false_eq_true, kg_51, kg_48, e1, (F1 48 2 rfl).trans h2, e2, gv]
  · rw [(V2 w b hw hb).2, V1 w b hw hb, f13]
    unfold lvP
    rw [lvV_F hn F1 rfl]
    rfl
  · rw [v0 z w b hw hb]
    exact Fr_rg F1 53 59 rfl (by omega) (by omega) b
theorem R_makeMC {n : Nat} {c h : hp} (C : LD n c h) {s t y : Nat} (hs : (s : Int) < c (n + 1) 0) (ht : (t : Int) < c (n + 1) 1) (hy : y ≤ 400) {W N : Nat} (hW : c (n + 1) 2 = (W : Int)) (hN : c (n + 21) 0 = (N : Int)) : ∃ g : hp, px_R (mm_Mod_makeLevels, 0, [(2, 123), (0, (s : Int)), (0, (t : Int)), (0, (y : Int)), (9, 0), (9, 0), (9, 0)], [], (K0, h)) = some (0, (K0, g)) ∧ Fr [137] [] h g ∧ MC W N (lvl n c s t y) g := by
  obtain ⟨g, e, F, V⟩ := R_makeLevels C hs ht hy
  have c2 := ST_n C.2.2.1 (k := 2) (by decide)
  have c8 := C.2.2.1.2.2.2.2.1
  exact ⟨g, e, F, by omega, by omega, IR_Fr C.2.1 F (by decide), (F 125 2 rfl).trans ((congrFun (C.2.2.2.2 125 (by decide) (by decide)) 2).trans (c2.1.trans hW)), (F 125 8 rfl).trans ((congrFun (C.2.2.2.2 125 (by decide) (by decide)) 8).trans (c8.1.trans hN)), fun w b hw hb => ⟨V w b (by omega) hb, lvl_rng C.2.2.1 C.2.2.2.1 hs ht y (by omega) hb⟩⟩
theorem fx_all : ∀ W : Fin 7, px_w (px_shl 1 (W.val : Int) - 1) = ((2 ^ W.val - 1 : Nat) : Int) ∧ ∀ a : Fin 6, a.val < W.val → inS (2 ^ W.val - 1) a.val = true := by decide +kernel
theorem all_lt {W : Nat} (hW : W ≤ 6) : 2 ^ W - 1 < 64 := by
  have : 2 ^ W ≤ 2 ^ 6 := Nat.pow_le_pow_right (by decide) hW
  omega
theorem R_tallWords {n : Nat} (hn : n = 4 ∨ n = 26) {h : hp} (h8 : h 1 8 = (n : Int)) (hI : IR h) {W : Nat} (hW : h (n + 1) 2 = (W : Int)) (hW6 : W ≤ 6) : px_R (mm_Tin_allWords, 0, [(2, 1)], [], (K0, h)) = some (((2 ^ W - 1 : Nat) : Int), (K0, h)) := by
  rw [eq_Tin_allWords_0]
  simp only [px_rd_mk, px_wr_mk, Int.reduceToNat, Int.toNat_natCast, if_true, if_false, Option.bind_some, px_up_cell, px_up_slot, px_up_eq, ne_eq, Nat.reduceEqDiff, not_false_eq_true, Int.reduceEq, Int.reduceLT, Int.reduceLE, Int.reduceNeg, decide_true, decide_false, Bool.and_true, Bool.true_and, Bool.and_false, Bool.false_and, and_self, and_true, true_and, and_false, false_and, bi_T, bi_F, not_true_eq_false, Bool.false_eq_true, kg_1, h8, sgo hn, sr1 hn hI, sga1 hn, hW, (fx_all ⟨W, by omega⟩).1]
theorem R_mallWords {h : hp} (hI : IR h) {W : Nat} (hW : h 125 2 = (W : Int)) (hW6 : W ≤ 6) : px_R (mm_Mod_allWords, 0, [(2, 123)], [], (K0, h)) = some (((2 ^ W - 1 : Nat) : Int), (K0, h)) := by
  rw [eq_Mod_allWords_0]
  simp only [px_rd_mk, px_wr_mk, Int.reduceToNat, Int.toNat_natCast, if_true, if_false, Option.bind_some, px_up_cell, px_up_slot, px_up_eq, ne_eq, Nat.reduceEqDiff, not_false_eq_true, Int.reduceEq, Int.reduceLT, Int.reduceLE, Int.reduceNeg, decide_true, decide_false, Bool.and_true, Bool.true_and, Bool.and_false, Bool.false_and, and_self, and_true, true_and, and_false, false_and, bi_T, bi_F, not_true_eq_false, Bool.false_eq_true, kg_123, ka_125, ir_123_0 hI, ir_123_12 hI, ir_123_13 hI, ir_123_14 hI, ir_123_15 hI, ir_123_16 hI, ir_123_17 hI, ir_123_18 hI, ir_123_19 hI, ir_123_20 hI, ir_123_21 hI, ir_123_30 hI, ir_123_31 hI, ir_123_32 hI, ir_123_33 hI, ir_123_34 hI, ir_123_35 hI, ir_123_36 hI, ir_123_37 hI, ir_123_38 hI, ir_123_39 hI, ir_123_41 hI, ir_123_42 hI, ir_123_44 hI, ir_123_45 hI, ir_123_46 hI, ir_123_50 hI, ir_123_54 hI, ir_123_55 hI, ir_123_56 hI, ir_123_57 hI, ir_123_58 hI, ir_123_59 hI, ir_123_60 hI, ir_123_61 hI, ir_123_62 hI, hW, (fx_all ⟨W, by omega⟩).1]
theorem tk_w {W N : Nat} (hN : N ≤ 3) (L : Nat → Nat → Int) (T a w : Nat) : px_w (tkS W N L T a w) = tkS W N L T a w := by
  have := tkS_rng (W := W) hN L T a w
  exact px_w_id (by omega) (by omega)
def xcs : List Nat := ecs ++ (hcs ++ dcs)
theorem R_takenFor {n : Nat} {h : hp} (h8 : h 1 8 = (n : Int)) (C : LC n h) (hL : ¬ (h (n + 1) 0 = 0 ∨ h (n + 1) 1 = 0)) {s t y : Nat} (h0 : h 48 0 = (s : Int)) (hs : (s : Int) < h (n + 1) 0) (h1 : h 48 1 = (t : Int)) (ht : (t : Int) < h (n + 1) 1) (h2 : h 48 2 = (y : Int)) (hy : y ≤ 400) {W N : Nat} (hW : h (n + 1) 2 = (W : Int)) (hN : h (n + 21) 0 = (N : Int)) {T a b : Nat} (hT : T < 1024) (ha : a < W) (hb : b < W) (haT : inS T a = true) : ∃ g : hp, px_R (mm_Tin_takenFor, 0, [(2, 1), (0, (T : Int)), (0, (a : Int)), (0, (b : Int))], [], (K0, h)) = some (tkS W N (lvl n h s t y) T a b, (K0, g)) ∧ Fr xcs [(51, 0), (51, 1), (51, 5)] h g := by
  obtain ⟨v, g1, e1, F1, E1, _, _⟩ := R_learn C h0 hs h1 ht h2 hy hW hN
  obtain ⟨g2, e2, ⟨F2, _⟩, V2⟩ := R_hear E1 (D := 66) hT ha ha haT (Or.inl rfl)
  have W6 := E1.1
  have I1 := E1.2.2.1
  have I2 := IR_Fr I1 F2 (by decide)
  have gb : (decide ((0 : Int) ≤ (b : Int)) && decide ((b : Int) < 6)) = true := gd_ok (by omega)
  have vb := (V2 b (by omega)).trans (tk_w E1.2.1 _ _ _ _)
  have e2 : px_R (mm_Ear_hear, 0, [(2, 51), (0, (a : Int)), (0, (T : Int)), (2, 66), (9, 0), (9, 0)], [], (K0, g1)) = some (0, (K0, g2)) := e2
  refine ⟨g2, ?_, Fr_sub (Fr_tr F1 F2) rfl rfl⟩
  rw [eq_Tin_takenFor_0]
  simp only [px_rd_mk, px_wr_mk, Int.reduceToNat, Int.toNat_natCast, if_true, if_false, Option.bind_some, px_up_cell, px_up_slot, px_up_eq, ne_eq, Nat.reduceEqDiff, not_false_eq_true, Int.reduceEq, Int.reduceLT, Int.reduceLE, Int.reduceNeg, decide_true, decide_false, Bool.and_true, Bool.true_and, Bool.and_false, Bool.false_and, and_self, and_true, true_and, and_false, false_and, bi_T, bi_F, not_true_eq_false, Bool.false_eq_true, kg_1, kg_51, ka_66, R_lineLacks C.1 h8 C.2.1, bi_f hL, h8, ir_1_0 C.2.1, ir_1_1 C.2.1, ir_1_2 C.2.1, ir_1_3 C.2.1, ir_1_4 C.2.1, ir_1_5 C.2.1, ir_1_6 C.2.1, ir_1_7 C.2.1, e1, ir_1_0 I1, ir_1_1 I1, ir_1_2 I1, ir_1_3 I1, ir_1_4 I1, ir_1_5 I1, ir_1_6 I1, ir_1_7 I1, ir_51_2 I1, ir_51_3 I1, ir_51_4 I1, ir_51_6 I1, ir_51_7 I1, ir_51_8 I1, ir_51_9 I1, e2, ir_1_0 I2, ir_1_1 I2, ir_1_2 I2, ir_1_3 I2, ir_1_4 I2, ir_1_5 I2, ir_1_6 I2, ir_1_7 I2, ir_51_2 I2, ir_51_3 I2, ir_51_4 I2, ir_51_6 I2, ir_51_7 I2, ir_51_8 I2, ir_51_9 I2, gb, vb]
theorem C_table {h : hp} (C : CI h) (x y : Int) : AL h mm_Tin_table mm_Mod_table [(2, 1), (0, x), (0, y)] [(2, 123), (0, x), (0, y)] := by
  have C2 := C
  obtain ⟨n, ⟨hn, h8, h9⟩, hI, hT, hK, hS, hL, hR, hC, hKs, hW, hB⟩ := C2
  have o2 := fun x => R_one hn h8 hI hS (y := 2) (k := 2) rfl (by decide) x
  have i2 := fun {g : hp} (F : Fr xcs [(51, 0), (51, 1), (51, 5)] h g) x => R_is (IR_Fr hI F (by decide)) (ST_F hn F rfl hS) (y := 2) (k := 2) rfl (by decide) x
  by_cases hx : 0 ≤ x ∧ x < h (n + 1) 2
  · by_cases hy : 0 ≤ y ∧ y < h (n + 1) 2
    · obtain ⟨a, rfl⟩ := Int.eq_ofNat_of_zero_le hx.1
      obtain ⟨b, rfl⟩ := Int.eq_ofNat_of_zero_le hy.1
      have c2 := ST_n hS (k := 2) (by decide)
      obtain ⟨W, hW2⟩ := Int.eq_ofNat_of_zero_le c2.2.1
      have W6 : W ≤ 6 := by omega
      have c8 := hS.2.2.2.2.1
      obtain ⟨N, hN2⟩ := Int.eq_ofNat_of_zero_le c8.2.1
      have aw := R_tallWords hn h8 hI hW2 W6
      by_cases hc : h (n + 1) 0 = 0 ∨ h (n + 1) 1 = 0
      · have hc2 : ¬ (0 < h (n + 1) 0 ∧ 0 < h (n + 1) 1) := by omega
        refine AL_same C (-4) ?_ ?_
        · rw [eq_Tin_table_0]
          simp only [px_rd_mk, px_wr_mk, Int.reduceToNat, Int.toNat_natCast, if_true, if_false, Option.bind_some, px_up_cell, px_up_slot, px_up_eq, ne_eq, Nat.reduceEqDiff, not_false_eq_true, Int.reduceEq, Int.reduceLT, Int.reduceLE, Int.reduceNeg, decide_true, decide_false, Bool.and_true, Bool.true_and, Bool.and_false, Bool.false_and, and_self, and_true, true_and, and_false, false_and, bi_T, bi_F, not_true_eq_false, Bool.false_eq_true, kg_1, o2, bi_t hx, bi_t hy, aw]
          rw [eq_Tin_takenFor_0]
          simp only [px_rd_mk, px_wr_mk, Int.reduceToNat, Int.toNat_natCast, if_true, if_false, Option.bind_some, px_up_cell, px_up_slot, px_up_eq, ne_eq, Nat.reduceEqDiff, not_false_eq_true, Int.reduceEq, Int.reduceLT, Int.reduceLE, Int.reduceNeg, decide_true, decide_false, Bool.and_true, Bool.true_and, Bool.and_false, Bool.false_and, and_self, and_true, true_and, and_false, false_and, bi_T, bi_F, not_true_eq_false, Bool.false_eq_true, kg_1, R_lineLacks hn h8 hI, bi_t hc]
        · rw [eq_Mod_table_0]
          simp only [px_rd_mk, px_wr_mk, Int.reduceToNat, Int.toNat_natCast, if_true, if_false, Option.bind_some, px_up_cell, px_up_slot, px_up_eq, ne_eq, Nat.reduceEqDiff, not_false_eq_true, Int.reduceEq, Int.reduceLT, Int.reduceLE, Int.reduceNeg, decide_true, decide_false, Bool.and_true, Bool.true_and, Bool.and_false, Bool.false_and, and_self, and_true, true_and, and_false, false_and, bi_T, bi_F, not_true_eq_false, Bool.false_eq_true, kg_123, R_is hI hS (y := 2) (k := 2) rfl (by decide), bi_t hx, bi_t hy, R_hasLine hI hS, bi_f hc2]
      · have c0 := ST_n hS (k := 0) (by decide)
        have c1 := ST_n hS (k := 1) (by decide)
        have hc2 : 0 < h (n + 1) 0 ∧ 0 < h (n + 1) 1 := by omega
        obtain ⟨s, s1, s2, s3⟩ := LI_s hL hc2.1
        obtain ⟨t, t1, t2, t3⟩ := LI_t hL hc2.2
        obtain ⟨yy, y1, y2, y3, y4⟩ := LI_y hL
        have haW : a < W := by omega
        have hbW : b < W := by omega
        have inA := (fx_all ⟨W, by omega⟩).2 ⟨a, by omega⟩ haW
        have T64 := all_lt W6
        obtain ⟨g, e1, F1⟩ := R_takenFor h8 ⟨hn, hI, hS, LI_LB hL⟩ hc s1 s3 t1 t3 y1 y3 hW2 hN2 (T := 2 ^ W - 1) (by omega) haW hbW inA
        have LCg := LC_F ⟨hn, hI, hS, LI_LB hL⟩ F1 (by decide) rfl rfl
        have f1 := Fr_st hn F1 rfl (n + 1) (by omega) (by omega)
        have f21 := Fr_st hn F1 rfl (n + 21) (by omega) (by omega)
        obtain ⟨k1, m1, G1, M1⟩ := R_makeMC (LC_LD LCg) (s := s) (t := t) (y := yy) (by rw [f1]; exact s3) (by rw [f1]; exact t3) y3 (W := W) (N := N) (by rw [f1]; exact hW2) (by rw [f21]; exact hN2)
        obtain ⟨k2, m2, G2, V2⟩ := R_listen M1 (T := 2 ^ W - 1) (by omega) haW haW inA
        have I2 := IR_Fr M1.2.2.1 G2 (by decide)
        have hLg := R_hasLine LCg.2.1 LCg.2.2.1
        have i2g := i2 F1
        rw [f1] at hLg i2g
        have gb : (decide ((0 : Int) ≤ (b : Int)) && decide ((b : Int) < 6)) = true := gd_ok (by omega)
        have eL : ∀ w c : Nat, lvl n g s t yy w c = lvl n h s t yy w c := fun w c => lvl_F hn F1 rfl s t yy w c
        have eLf : lvl n g s t yy = lvl n h s t yy := funext fun w => funext fun c => eL w c
        have vb := (V2 b (by omega)).trans (tk_w M1.2.1 _ _ _ _)
        rw [eLf] at vb
        have F : Fr (xcs ++ [137, 138, 139]) [(51, 0), (51, 1), (51, 5)] h k2 := Fr_sub (Fr_tr (Fr_tr F1 G1) G2) rfl rfl
        refine ⟨tkS W N (lvl n h s t yy) (2 ^ W - 1) a b, g, k2, ?_, ?_, ⟨n, SP_F F rfl ⟨hn, h8, h9⟩, IR_Fr hI F (by decide), TP_F F rfl hT, FK_F F rfl hK, ST_F hn F rfl hS, LI_F hn F rfl hL, RW_F F rfl hR, CR_F F rfl hC, KS_F F rfl hKs, WI_F hn F rfl hW, BK_F hn F rfl hB⟩⟩
        · rw [eq_Tin_table_0]
          simp only [px_rd_mk, px_wr_mk, Int.reduceToNat, Int.toNat_natCast, if_true, if_false, Option.bind_some, px_up_cell, px_up_slot, px_up_eq, ne_eq, Nat.reduceEqDiff, not_false_eq_true, Int.reduceEq, Int.reduceLT, Int.reduceLE, Int.reduceNeg, decide_true, decide_false, Bool.and_true, Bool.true_and, Bool.and_false, Bool.false_and, and_self, and_true, true_and, and_false, false_and, bi_T, bi_F, not_true_eq_false, Bool.false_eq_true, kg_1, o2, bi_t hx, bi_t hy, aw, e1]
        · rw [eq_Mod_table_0]
          simp only [px_rd_mk, px_wr_mk, Int.reduceToNat, Int.toNat_natCast, if_true, if_false, Option.bind_some, px_up_cell, px_up_slot, px_up_eq, ne_eq, Nat.reduceEqDiff, not_false_eq_true, Int.reduceEq, Int.reduceLT, Int.reduceLE, Int.reduceNeg, decide_true, decide_false, Bool.and_true, Bool.true_and, Bool.and_false, Bool.false_and, and_self, and_true, true_and, and_false, false_and, bi_T, bi_F, not_true_eq_false, Bool.false_eq_true, kg_123, ka_139, i2g, bi_t hx, bi_t hy, hLg, bi_t hc2, eq_Mod_makeOwn_0, (F1 123 24 rfl).trans s2, (F1 123 25 rfl).trans t2, (F1 123 26 rfl).trans y2, m1, R_mallWords M1.2.2.1 M1.2.2.2.1 W6, m2, ir_123_0 I2, ir_123_12 I2, ir_123_13 I2, ir_123_14 I2, ir_123_15 I2, ir_123_16 I2, ir_123_17 I2, ir_123_18 I2, ir_123_19 I2, ir_123_20 I2, ir_123_21 I2, ir_123_30 I2, ir_123_31 I2, ir_123_32 I2, ir_123_33 I2, ir_123_34 I2, ir_123_35 I2, ir_123_36 I2, ir_123_37 I2, ir_123_38 I2, ir_123_39 I2, ir_123_41 I2, ir_123_42 I2, ir_123_44 I2, ir_123_45 I2, ir_123_46 I2, ir_123_50 I2, ir_123_54 I2, ir_123_55 I2, ir_123_56 I2, ir_123_57 I2, ir_123_58 I2, ir_123_59 I2, ir_123_60 I2, ir_123_61 I2, ir_123_62 I2, gb, vb]
    · refine AL_same C (-2) ?_ ?_
      · rw [eq_Tin_table_0]
        simp only [px_rd_mk, px_wr_mk, Int.reduceToNat, Int.toNat_natCast, if_true, if_false, Option.bind_some, px_up_cell, px_up_slot, px_up_eq, ne_eq, Nat.reduceEqDiff, not_false_eq_true, Int.reduceEq, Int.reduceLT, Int.reduceLE, Int.reduceNeg, decide_true, decide_false, Bool.and_true, Bool.true_and, Bool.and_false, Bool.false_and, and_self, and_true, true_and, and_false, false_and, bi_T, bi_F, not_true_eq_false, Bool.false_eq_true, kg_1, o2, bi_t hx, bi_f hy]
      · rw [eq_Mod_table_0]
        simp only [px_rd_mk, px_wr_mk, Int.reduceToNat, Int.toNat_natCast, if_true, if_false, Option.bind_some, px_up_cell, px_up_slot, px_up_eq, ne_eq, Nat.reduceEqDiff, not_false_eq_true, Int.reduceEq, Int.reduceLT, Int.reduceLE, Int.reduceNeg, decide_true, decide_false, Bool.and_true, Bool.true_and, Bool.and_false, Bool.false_and, and_self, and_true, true_and, and_false, false_and, bi_T, bi_F, not_true_eq_false, Bool.false_eq_true, kg_123, R_is hI hS (y := 2) (k := 2) rfl (by decide), bi_t hx, bi_f hy]
  · refine AL_same C (-2) ?_ ?_
    · rw [eq_Tin_table_0]
      simp only [px_rd_mk, px_wr_mk, Int.reduceToNat, Int.toNat_natCast, if_true, if_false, Option.bind_some, px_up_cell, px_up_slot, px_up_eq, ne_eq, Nat.reduceEqDiff, not_false_eq_true, Int.reduceEq, Int.reduceLT, Int.reduceLE, Int.reduceNeg, decide_true, decide_false, Bool.and_true, Bool.true_and, Bool.and_false, Bool.false_and, and_self, and_true, true_and, and_false, false_and, bi_T, bi_F, not_true_eq_false, Bool.false_eq_true, kg_1, o2, bi_f hx]
    · rw [eq_Mod_table_0]
      simp only [px_rd_mk, px_wr_mk, Int.reduceToNat, Int.toNat_natCast, if_true, if_false, Option.bind_some, px_up_cell, px_up_slot, px_up_eq, ne_eq, Nat.reduceEqDiff, not_false_eq_true, Int.reduceEq, Int.reduceLT, Int.reduceLE, Int.reduceNeg, decide_true, decide_false, Bool.and_true, Bool.true_and, Bool.and_false, Bool.false_and, and_self, and_true, true_and, and_false, false_and, bi_T, bi_F, not_true_eq_false, Bool.false_eq_true, kg_123, R_is hI hS (y := 2) (k := 2) rfl (by decide), bi_f hx]
