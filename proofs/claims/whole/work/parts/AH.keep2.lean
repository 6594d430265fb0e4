/-! keep and take, whole. -/
theorem KS_keep {h k : hp} (hKs : KS h) (hR : RW h) (hC : CR2 h h) {s r : Nat} (hs : s < 3) (hr : r = 107 + 5 * s) (e142 : ∀ b : Nat, k 142 b = if b = s then 1 else h 142 b) (eo : ∀ a b : Nat, 107 ≤ a → a < 122 → (a < r ∨ r + 5 ≤ a) → k a b = h a b) (er : k r 0 = h 101 0 ∧ k r 1 = h 101 1 ∧ k r 2 = h 101 2 ∧ k r 3 = h 101 3) (ea : ∀ b : Nat, b < 40 → k (r + 1) b = h 102 b ∧ k (r + 2) b = h 103 b ∧ k (r + 3) b = h 104 b ∧ k (r + 4) b = h 105 b) (e140 : ∀ b : Nat, 162 ≤ b → k 140 b = if 162 * (s + 1) ≤ b ∧ b < 162 * (s + 1) + 162 then h 140 (b - 162 * (s + 1)) else h 140 b) (e141 : ∀ b : Nat, 2 ≤ b → k 141 b = if 2 * (s + 1) ≤ b ∧ b < 2 * (s + 1) + 2 then h 141 (b - 2 * (s + 1)) else h 141 b) : KS k := by
  intro t ht
  by_cases e : t = s
  · subst e
    subst hr
    refine Or.inr ⟨by rw [e142, if_pos rfl], ?_, ?_⟩
    · refine ⟨by rw [er.1]; exact hR.1, fun i hi => ?_⟩
      obtain ⟨a1, a2, a3, a4⟩ := ea i hi
      rw [a1, a2, a3, a4]
      exact hR.2 i hi
    · obtain ⟨d1, d2, d3, d4, d5⟩ := hC
      unfold CRr
      rw [e140 _ (by omega), if_pos (by omega), e140 _ (by omega), if_pos (by omega), e141 _ (by omega), if_pos (by omega), e141 _ (by omega), if_pos (by omega), er.1, er.2.1, er.2.2.1, er.2.2.2]
      refine ⟨by rw [Nat.sub_self]; exact d1, by rw [Nat.add_sub_cancel_left]; exact d2, by rw [Nat.sub_self]; exact d3, by rw [Nat.add_sub_cancel_left]; exact d4, fun i hi => ?_⟩
      obtain ⟨a1, a2, a3, a4⟩ := ea i hi
      obtain ⟨c1, c2, c3, c4⟩ := d5 i hi
      rw [a1, a2, a3, a4, e140 _ (by omega), if_pos (by omega), e140 _ (by omega), if_pos (by omega), e140 _ (by omega), if_pos (by omega), e140 _ (by omega), if_pos (by omega), ← c1, ← c2, ← c3, ← c4]
      exact ⟨congrArg (h 140) (by omega), congrArg (h 140) (by omega), congrArg (h 140) (by omega), congrArg (h 140) (by omega)⟩
  · refine KS1_e (by rw [e142, if_neg e]) (fun a h1 h2 b => eo a b (by omega) (by omega) (by omega)) (fun b h1 h2 => ?_) (fun b h1 h2 => ?_) (hKs t ht)
    · rw [e140 _ (by omega), if_neg (by omega)]
    · rw [e141 _ (by omega), if_neg (by omega)]
theorem C_keep_0 {h : hp} (C : CI h) : AL h mm_Tin_keep mm_Mod_keep [(2, 1), (0, 0)] [(2, 123), (0, 0), (9, 0)] := by
  have C2 := C
  obtain ⟨n, ⟨hn, h8, h9⟩, hI, hT, hK, hS, hL, hR, hC, hKs, hW, hB⟩ := C2
  obtain ⟨g, e1, e2, e3, e4⟩ := bec_107_101 hI
  have I := IR_Fr hI e2 (by decide)
  have Fu : Fr [142] [] g (px_up g 142 0 1) := Fr_up (Fr_rf _ _ _) _ rfl
  have Iu := IR_Fr I Fu (by decide)
  have k1 := keep_1 Iu (s := 0) (by decide) 162 0 rfl
  rw [cpy_0] at k1
  have Fk := cpy_Fr (px_up g 142 0 1) 140 (162 * (0 + 1)) 0 162
  have k2 := keep_2 (IR_Fr Iu Fk (by decide)) (s := 0) (by decide)
  have Fl := cpy_Fr (cpy (px_up g 142 0 1) 140 (162 * (0 + 1)) 0 162) 141 (2 * (0 + 1)) 0 2
  have F : Fr [108, 109, 110, 111, 140, 141, 142] [(107, 0), (107, 1), (107, 2), (107, 3)] h (cpy (cpy (px_up g 142 0 1) 140 (162 * (0 + 1)) 0 162) 141 (2 * (0 + 1)) 0 2) := Fr_sub (Fr_tr (Fr_tr (Fr_tr e2 Fu) Fk) Fl) rfl rfl
  have g1 : cpy (px_up g 142 0 1) 140 (162 * (0 + 1)) 0 162 140 1 = h 101 1 := (cpy_no _ _ _ _ _ (by omega)).trans ((e2 140 1 rfl).trans hC.2.1)
  rw [g1] at k2
  have o140 : ∀ b : Nat, 162 ≤ b → cpy (cpy (px_up g 142 0 1) 140 (162 * (0 + 1)) 0 162) 141 (2 * (0 + 1)) 0 2 140 b = if 162 * (0 + 1) ≤ b ∧ b < 162 * (0 + 1) + 162 then h 140 (b - 162 * (0 + 1)) else h 140 b := fun b _ => by
    rw [cpy_o _ _ _ _ _ _ (by decide)]
    by_cases q : 162 * (0 + 1) ≤ b ∧ b < 162 * (0 + 1) + 162
    · rw [if_pos q, cpy_in _ _ _ _ _ q, Nat.add_zero]; exact e2 140 _ rfl
    · rw [if_neg q, cpy_no _ _ _ _ _ q]; exact e2 140 _ rfl
  have p141 : ∀ b : Nat, cpy (px_up g 142 0 1) 140 (162 * (0 + 1)) 0 162 141 b = h 141 b := fun b => (cpy_o _ _ _ _ _ _ (by decide)).trans (e2 141 b rfl)
  have o141 : ∀ b : Nat, 2 ≤ b → cpy (cpy (px_up g 142 0 1) 140 (162 * (0 + 1)) 0 162) 141 (2 * (0 + 1)) 0 2 141 b = if 2 * (0 + 1) ≤ b ∧ b < 2 * (0 + 1) + 2 then h 141 (b - 2 * (0 + 1)) else h 141 b := fun b _ => by
    by_cases q : 2 * (0 + 1) ≤ b ∧ b < 2 * (0 + 1) + 2
    · rw [if_pos q, cpy_in _ _ _ _ _ q, Nat.add_zero]; exact p141 _
    · rw [if_neg q, cpy_no _ _ _ _ _ q]; exact p141 _
  have o142 : ∀ b : Nat, cpy (cpy (px_up g 142 0 1) 140 (162 * (0 + 1)) 0 162) 141 (2 * (0 + 1)) 0 2 142 b = if b = 0 then 1 else h 142 b := fun b => by
    rw [cpy_o _ _ _ _ _ _ (by decide), cpy_o _ _ _ _ _ _ (by decide), px_up_at, e2 142 b rfl]
  have oc : ∀ a b : Nat, a < 140 → cpy (cpy (px_up g 142 0 1) 140 (162 * (0 + 1)) 0 162) 141 (2 * (0 + 1)) 0 2 a b = g a b := fun a b ha => by
    rw [cpy_o _ _ _ _ _ _ (by omega), cpy_o _ _ _ _ _ _ (by omega), px_up_cell _ _ _ _ (by omega)]
  have o101 : ∀ a b : Nat, 101 ≤ a → a ≤ 105 → cpy (cpy (px_up g 142 0 1) 140 (162 * (0 + 1)) 0 162) 141 (2 * (0 + 1)) 0 2 a b = h a b := fun a b h1 h2 => Fr_rg F 101 106 rfl h1 (by omega) b
  refine ⟨h 101 1, g, cpy (cpy (px_up g 142 0 1) 140 (162 * (0 + 1)) 0 162) 141 (2 * (0 + 1)) 0 2, ?_, ?_, ⟨n, SP_F F rfl ⟨hn, h8, h9⟩, IR_Fr hI F (by decide), TP_F F rfl hT, FK_F F rfl hK, ST_F hn F rfl hS, LI_F hn F rfl hL, RW_mix hR o101, CR2_mix hC o101 (fun b hb => ?_) (fun b hb => ?_), KS_keep hKs hR hC (s := 0) (r := 107) (by decide) rfl o142 (fun a b h1 h2 h3 => ?_) ?_ (fun b hb => ?_) o140 o141, WI_F hn F rfl hW, BK_F hn F rfl hB⟩⟩
  · rw [eq_Tin_keep_0]
    simp only [px_rd_mk, px_wr_mk, Int.reduceToNat, Int.toNat_natCast, if_true, if_false, Option.bind_some, px_up_cell, px_up_slot, px_up_eq, ne_eq, Nat.reduceEqDiff, not_false_eq_true, Int.reduceEq, Int.reduceLT, Int.reduceLE, Int.reduceNeg, decide_true, decide_false, Bool.and_true, Bool.true_and, Bool.and_false, Bool.false_and, and_self, and_true, true_and, and_false, false_and, bi_T, bi_F, not_true_eq_false, Bool.false_eq_true, kg_1, kg_107, kg_101, ka_106, ir_1_0 hI, ir_1_1 hI, ir_1_2 hI, ir_1_3 hI, ir_1_4 hI, ir_1_5 hI, ir_1_6 hI, ir_1_7 hI, ir_106_0 hI, ir_106_1 hI, ir_106_2 hI, R_Tin_within, e1, ir_1_0 I, ir_1_1 I, ir_1_2 I, ir_1_3 I, ir_1_4 I, ir_1_5 I, ir_1_6 I, ir_1_7 I, e2 101 1 rfl, Bool.or_true]
  · rw [eq_Mod_keep_0]
    have gb : px_gb (K0, g) 142 0 1 = true := rfl
    simp only [px_rd_mk, px_wr_mk, Int.reduceToNat, Int.toNat_natCast, if_true, if_false, Option.bind_some, px_up_cell, px_up_slot, px_up_eq, ne_eq, Nat.reduceEqDiff, not_false_eq_true, Int.reduceEq, Int.reduceLT, Int.reduceLE, Int.reduceNeg, decide_true, decide_false, Bool.and_true, Bool.true_and, Bool.and_false, Bool.false_and, and_self, and_true, true_and, and_false, false_and, bi_T, bi_F, not_true_eq_false, Bool.false_eq_true, kg_123, ir_123_0 I, ir_123_12 I, ir_123_13 I, ir_123_14 I, ir_123_15 I, ir_123_16 I, ir_123_17 I, ir_123_18 I, ir_123_19 I, ir_123_20 I, ir_123_21 I, ir_123_30 I, ir_123_31 I, ir_123_32 I, ir_123_33 I, ir_123_34 I, ir_123_35 I, ir_123_36 I, ir_123_37 I, ir_123_38 I, ir_123_39 I, ir_123_41 I, ir_123_42 I, ir_123_44 I, ir_123_45 I, ir_123_46 I, ir_123_50 I, ir_123_54 I, ir_123_55 I, ir_123_56 I, ir_123_57 I, ir_123_58 I, ir_123_59 I, ir_123_60 I, ir_123_61 I, ir_123_62 I, R_Mod_isSlot, gb]
    exact k1.trans k2
  · rw [cpy_o _ _ _ _ _ _ (by decide), cpy_no _ _ _ _ _ (by omega)]; exact e2 140 b rfl
  · rw [cpy_no _ _ _ _ _ (by omega)]; exact p141 b
  · rw [oc a b (by omega)]; exact e2 a b ((fin_f _ _ _ _).mpr (by simp; omega))
  · rw [oc _ _ (by decide), oc _ _ (by decide), oc _ _ (by decide), oc _ _ (by decide)]; exact e3
  · rw [oc _ _ (by decide), oc _ _ (by decide), oc _ _ (by decide), oc _ _ (by decide)]; exact e4 b hb
theorem C_keep_1 {h : hp} (C : CI h) : AL h mm_Tin_keep mm_Mod_keep [(2, 1), (0, 1)] [(2, 123), (0, 1), (9, 0)] := by
  have C2 := C
  obtain ⟨n, ⟨hn, h8, h9⟩, hI, hT, hK, hS, hL, hR, hC, hKs, hW, hB⟩ := C2
  obtain ⟨g, e1, e2, e3, e4⟩ := bec_112_101 hI
  have I := IR_Fr hI e2 (by decide)
  have Fu : Fr [142] [] g (px_up g 142 1 1) := Fr_up (Fr_rf _ _ _) _ rfl
  have Iu := IR_Fr I Fu (by decide)
  have k1 := keep_1 Iu (s := 1) (by decide) 162 0 rfl
  rw [cpy_0] at k1
  have Fk := cpy_Fr (px_up g 142 1 1) 140 (162 * (1 + 1)) 0 162
  have k2 := keep_2 (IR_Fr Iu Fk (by decide)) (s := 1) (by decide)
  have Fl := cpy_Fr (cpy (px_up g 142 1 1) 140 (162 * (1 + 1)) 0 162) 141 (2 * (1 + 1)) 0 2
  have F : Fr [113, 114, 115, 116, 140, 141, 142] [(112, 0), (112, 1), (112, 2), (112, 3)] h (cpy (cpy (px_up g 142 1 1) 140 (162 * (1 + 1)) 0 162) 141 (2 * (1 + 1)) 0 2) := Fr_sub (Fr_tr (Fr_tr (Fr_tr e2 Fu) Fk) Fl) rfl rfl
  have g1 : cpy (px_up g 142 1 1) 140 (162 * (1 + 1)) 0 162 140 1 = h 101 1 := (cpy_no _ _ _ _ _ (by omega)).trans ((e2 140 1 rfl).trans hC.2.1)
  rw [g1] at k2
  have o140 : ∀ b : Nat, 162 ≤ b → cpy (cpy (px_up g 142 1 1) 140 (162 * (1 + 1)) 0 162) 141 (2 * (1 + 1)) 0 2 140 b = if 162 * (1 + 1) ≤ b ∧ b < 162 * (1 + 1) + 162 then h 140 (b - 162 * (1 + 1)) else h 140 b := fun b _ => by
    rw [cpy_o _ _ _ _ _ _ (by decide)]
    by_cases q : 162 * (1 + 1) ≤ b ∧ b < 162 * (1 + 1) + 162
    · rw [if_pos q, cpy_in _ _ _ _ _ q, Nat.add_zero]; exact e2 140 _ rfl
    · rw [if_neg q, cpy_no _ _ _ _ _ q]; exact e2 140 _ rfl
  have p141 : ∀ b : Nat, cpy (px_up g 142 1 1) 140 (162 * (1 + 1)) 0 162 141 b = h 141 b := fun b => (cpy_o _ _ _ _ _ _ (by decide)).trans (e2 141 b rfl)
  have o141 : ∀ b : Nat, 2 ≤ b → cpy (cpy (px_up g 142 1 1) 140 (162 * (1 + 1)) 0 162) 141 (2 * (1 + 1)) 0 2 141 b = if 2 * (1 + 1) ≤ b ∧ b < 2 * (1 + 1) + 2 then h 141 (b - 2 * (1 + 1)) else h 141 b := fun b _ => by
    by_cases q : 2 * (1 + 1) ≤ b ∧ b < 2 * (1 + 1) + 2
    · rw [if_pos q, cpy_in _ _ _ _ _ q, Nat.add_zero]; exact p141 _
    · rw [if_neg q, cpy_no _ _ _ _ _ q]; exact p141 _
  have o142 : ∀ b : Nat, cpy (cpy (px_up g 142 1 1) 140 (162 * (1 + 1)) 0 162) 141 (2 * (1 + 1)) 0 2 142 b = if b = 1 then 1 else h 142 b := fun b => by
    rw [cpy_o _ _ _ _ _ _ (by decide), cpy_o _ _ _ _ _ _ (by decide), px_up_at, e2 142 b rfl]
  have oc : ∀ a b : Nat, a < 140 → cpy (cpy (px_up g 142 1 1) 140 (162 * (1 + 1)) 0 162) 141 (2 * (1 + 1)) 0 2 a b = g a b := fun a b ha => by
    rw [cpy_o _ _ _ _ _ _ (by omega), cpy_o _ _ _ _ _ _ (by omega), px_up_cell _ _ _ _ (by omega)]
  have o101 : ∀ a b : Nat, 101 ≤ a → a ≤ 105 → cpy (cpy (px_up g 142 1 1) 140 (162 * (1 + 1)) 0 162) 141 (2 * (1 + 1)) 0 2 a b = h a b := fun a b h1 h2 => Fr_rg F 101 106 rfl h1 (by omega) b
  refine ⟨h 101 1, g, cpy (cpy (px_up g 142 1 1) 140 (162 * (1 + 1)) 0 162) 141 (2 * (1 + 1)) 0 2, ?_, ?_, ⟨n, SP_F F rfl ⟨hn, h8, h9⟩, IR_Fr hI F (by decide), TP_F F rfl hT, FK_F F rfl hK, ST_F hn F rfl hS, LI_F hn F rfl hL, RW_mix hR o101, CR2_mix hC o101 (fun b hb => ?_) (fun b hb => ?_), KS_keep hKs hR hC (s := 1) (r := 112) (by decide) rfl o142 (fun a b h1 h2 h3 => ?_) ?_ (fun b hb => ?_) o140 o141, WI_F hn F rfl hW, BK_F hn F rfl hB⟩⟩
  · rw [eq_Tin_keep_0]
    simp only [px_rd_mk, px_wr_mk, Int.reduceToNat, Int.toNat_natCast, if_true, if_false, Option.bind_some, px_up_cell, px_up_slot, px_up_eq, ne_eq, Nat.reduceEqDiff, not_false_eq_true, Int.reduceEq, Int.reduceLT, Int.reduceLE, Int.reduceNeg, decide_true, decide_false, Bool.and_true, Bool.true_and, Bool.and_false, Bool.false_and, and_self, and_true, true_and, and_false, false_and, bi_T, bi_F, not_true_eq_false, Bool.false_eq_true, kg_1, kg_112, kg_101, ka_106, ir_1_0 hI, ir_1_1 hI, ir_1_2 hI, ir_1_3 hI, ir_1_4 hI, ir_1_5 hI, ir_1_6 hI, ir_1_7 hI, ir_106_0 hI, ir_106_1 hI, ir_106_2 hI, R_Tin_within, e1, ir_1_0 I, ir_1_1 I, ir_1_2 I, ir_1_3 I, ir_1_4 I, ir_1_5 I, ir_1_6 I, ir_1_7 I, e2 101 1 rfl, Bool.or_true]
  · rw [eq_Mod_keep_0]
    have gb : px_gb (K0, g) 142 1 1 = true := rfl
    simp only [px_rd_mk, px_wr_mk, Int.reduceToNat, Int.toNat_natCast, if_true, if_false, Option.bind_some, px_up_cell, px_up_slot, px_up_eq, ne_eq, Nat.reduceEqDiff, not_false_eq_true, Int.reduceEq, Int.reduceLT, Int.reduceLE, Int.reduceNeg, decide_true, decide_false, Bool.and_true, Bool.true_and, Bool.and_false, Bool.false_and, and_self, and_true, true_and, and_false, false_and, bi_T, bi_F, not_true_eq_false, Bool.false_eq_true, kg_123, ir_123_0 I, ir_123_12 I, ir_123_13 I, ir_123_14 I, ir_123_15 I, ir_123_16 I, ir_123_17 I, ir_123_18 I, ir_123_19 I, ir_123_20 I, ir_123_21 I, ir_123_30 I, ir_123_31 I, ir_123_32 I, ir_123_33 I, ir_123_34 I, ir_123_35 I, ir_123_36 I, ir_123_37 I, ir_123_38 I, ir_123_39 I, ir_123_41 I, ir_123_42 I, ir_123_44 I, ir_123_45 I, ir_123_46 I, ir_123_50 I, ir_123_54 I, ir_123_55 I, ir_123_56 I, ir_123_57 I, ir_123_58 I, ir_123_59 I, ir_123_60 I, ir_123_61 I, ir_123_62 I, R_Mod_isSlot, gb]
    exact k1.trans k2
  · rw [cpy_o _ _ _ _ _ _ (by decide), cpy_no _ _ _ _ _ (by omega)]; exact e2 140 b rfl
  · rw [cpy_no _ _ _ _ _ (by omega)]; exact p141 b
  · rw [oc a b (by omega)]; exact e2 a b ((fin_f _ _ _ _).mpr (by simp; omega))
  · rw [oc _ _ (by decide), oc _ _ (by decide), oc _ _ (by decide), oc _ _ (by decide)]; exact e3
  · rw [oc _ _ (by decide), oc _ _ (by decide), oc _ _ (by decide), oc _ _ (by decide)]; exact e4 b hb
theorem C_keep_2 {h : hp} (C : CI h) : AL h mm_Tin_keep mm_Mod_keep [(2, 1), (0, 2)] [(2, 123), (0, 2), (9, 0)] := by
  have C2 := C
  obtain ⟨n, ⟨hn, h8, h9⟩, hI, hT, hK, hS, hL, hR, hC, hKs, hW, hB⟩ := C2
  obtain ⟨g, e1, e2, e3, e4⟩ := bec_117_101 hI
  have I := IR_Fr hI e2 (by decide)
  have Fu : Fr [142] [] g (px_up g 142 2 1) := Fr_up (Fr_rf _ _ _) _ rfl
  have Iu := IR_Fr I Fu (by decide)
  have k1 := keep_1 Iu (s := 2) (by decide) 162 0 rfl
  rw [cpy_0] at k1
  have Fk := cpy_Fr (px_up g 142 2 1) 140 (162 * (2 + 1)) 0 162
  have k2 := keep_2 (IR_Fr Iu Fk (by decide)) (s := 2) (by decide)
  have Fl := cpy_Fr (cpy (px_up g 142 2 1) 140 (162 * (2 + 1)) 0 162) 141 (2 * (2 + 1)) 0 2
  have F : Fr [118, 119, 120, 121, 140, 141, 142] [(117, 0), (117, 1), (117, 2), (117, 3)] h (cpy (cpy (px_up g 142 2 1) 140 (162 * (2 + 1)) 0 162) 141 (2 * (2 + 1)) 0 2) := Fr_sub (Fr_tr (Fr_tr (Fr_tr e2 Fu) Fk) Fl) rfl rfl
  have g1 : cpy (px_up g 142 2 1) 140 (162 * (2 + 1)) 0 162 140 1 = h 101 1 := (cpy_no _ _ _ _ _ (by omega)).trans ((e2 140 1 rfl).trans hC.2.1)
  rw [g1] at k2
  have o140 : ∀ b : Nat, 162 ≤ b → cpy (cpy (px_up g 142 2 1) 140 (162 * (2 + 1)) 0 162) 141 (2 * (2 + 1)) 0 2 140 b = if 162 * (2 + 1) ≤ b ∧ b < 162 * (2 + 1) + 162 then h 140 (b - 162 * (2 + 1)) else h 140 b := fun b _ => by
    rw [cpy_o _ _ _ _ _ _ (by decide)]
    by_cases q : 162 * (2 + 1) ≤ b ∧ b < 162 * (2 + 1) + 162
    · rw [if_pos q, cpy_in _ _ _ _ _ q, Nat.add_zero]; exact e2 140 _ rfl
    · rw [if_neg q, cpy_no _ _ _ _ _ q]; exact e2 140 _ rfl
  have p141 : ∀ b : Nat, cpy (px_up g 142 2 1) 140 (162 * (2 + 1)) 0 162 141 b = h 141 b := fun b => (cpy_o _ _ _ _ _ _ (by decide)).trans (e2 141 b rfl)
  have o141 : ∀ b : Nat, 2 ≤ b → cpy (cpy (px_up g 142 2 1) 140 (162 * (2 + 1)) 0 162) 141 (2 * (2 + 1)) 0 2 141 b = if 2 * (2 + 1) ≤ b ∧ b < 2 * (2 + 1) + 2 then h 141 (b - 2 * (2 + 1)) else h 141 b := fun b _ => by
    by_cases q : 2 * (2 + 1) ≤ b ∧ b < 2 * (2 + 1) + 2
    · rw [if_pos q, cpy_in _ _ _ _ _ q, Nat.add_zero]; exact p141 _
    · rw [if_neg q, cpy_no _ _ _ _ _ q]; exact p141 _
  have o142 : ∀ b : Nat, cpy (cpy (px_up g 142 2 1) 140 (162 * (2 + 1)) 0 162) 141 (2 * (2 + 1)) 0 2 142 b = if b = 2 then 1 else h 142 b := fun b => by
    rw [cpy_o _ _ _ _ _ _ (by decide), cpy_o _ _ _ _ _ _ (by decide), px_up_at, e2 142 b rfl]
  have oc : ∀ a b : Nat, a < 140 → cpy (cpy (px_up g 142 2 1) 140 (162 * (2 + 1)) 0 162) 141 (2 * (2 + 1)) 0 2 a b = g a b := fun a b ha => by
    rw [cpy_o _ _ _ _ _ _ (by omega), cpy_o _ _ _ _ _ _ (by omega), px_up_cell _ _ _ _ (by omega)]
  have o101 : ∀ a b : Nat, 101 ≤ a → a ≤ 105 → cpy (cpy (px_up g 142 2 1) 140 (162 * (2 + 1)) 0 162) 141 (2 * (2 + 1)) 0 2 a b = h a b := fun a b h1 h2 => Fr_rg F 101 106 rfl h1 (by omega) b
  refine ⟨h 101 1, g, cpy (cpy (px_up g 142 2 1) 140 (162 * (2 + 1)) 0 162) 141 (2 * (2 + 1)) 0 2, ?_, ?_, ⟨n, SP_F F rfl ⟨hn, h8, h9⟩, IR_Fr hI F (by decide), TP_F F rfl hT, FK_F F rfl hK, ST_F hn F rfl hS, LI_F hn F rfl hL, RW_mix hR o101, CR2_mix hC o101 (fun b hb => ?_) (fun b hb => ?_), KS_keep hKs hR hC (s := 2) (r := 117) (by decide) rfl o142 (fun a b h1 h2 h3 => ?_) ?_ (fun b hb => ?_) o140 o141, WI_F hn F rfl hW, BK_F hn F rfl hB⟩⟩
  · rw [eq_Tin_keep_0]
    simp only [px_rd_mk, px_wr_mk, Int.reduceToNat, Int.toNat_natCast, if_true, if_false, Option.bind_some, px_up_cell, px_up_slot, px_up_eq, ne_eq, Nat.reduceEqDiff, not_false_eq_true, Int.reduceEq, Int.reduceLT, Int.reduceLE, Int.reduceNeg, decide_true, decide_false, Bool.and_true, Bool.true_and, Bool.and_false, Bool.false_and, and_self, and_true, true_and, and_false, false_and, bi_T, bi_F, not_true_eq_false, Bool.false_eq_true, kg_1, kg_117, kg_101, ka_106, ir_1_0 hI, ir_1_1 hI, ir_1_2 hI, ir_1_3 hI, ir_1_4 hI, ir_1_5 hI, ir_1_6 hI, ir_1_7 hI, ir_106_0 hI, ir_106_1 hI, ir_106_2 hI, R_Tin_within, e1, ir_1_0 I, ir_1_1 I, ir_1_2 I, ir_1_3 I, ir_1_4 I, ir_1_5 I, ir_1_6 I, ir_1_7 I, e2 101 1 rfl, Bool.or_true]
  · rw [eq_Mod_keep_0]
    have gb : px_gb (K0, g) 142 2 1 = true := rfl
    simp only [px_rd_mk, px_wr_mk, Int.reduceToNat, Int.toNat_natCast, if_true, if_false, Option.bind_some, px_up_cell, px_up_slot, px_up_eq, ne_eq, Nat.reduceEqDiff, not_false_eq_true, Int.reduceEq, Int.reduceLT, Int.reduceLE, Int.reduceNeg, decide_true, decide_false, Bool.and_true, Bool.true_and, Bool.and_false, Bool.false_and, and_self, and_true, true_and, and_false, false_and, bi_T, bi_F, not_true_eq_false, Bool.false_eq_true, kg_123, ir_123_0 I, ir_123_12 I, ir_123_13 I, ir_123_14 I, ir_123_15 I, ir_123_16 I, ir_123_17 I, ir_123_18 I, ir_123_19 I, ir_123_20 I, ir_123_21 I, ir_123_30 I, ir_123_31 I, ir_123_32 I, ir_123_33 I, ir_123_34 I, ir_123_35 I, ir_123_36 I, ir_123_37 I, ir_123_38 I, ir_123_39 I, ir_123_41 I, ir_123_42 I, ir_123_44 I, ir_123_45 I, ir_123_46 I, ir_123_50 I, ir_123_54 I, ir_123_55 I, ir_123_56 I, ir_123_57 I, ir_123_58 I, ir_123_59 I, ir_123_60 I, ir_123_61 I, ir_123_62 I, R_Mod_isSlot, gb]
    exact k1.trans k2
  · rw [cpy_o _ _ _ _ _ _ (by decide), cpy_no _ _ _ _ _ (by omega)]; exact e2 140 b rfl
  · rw [cpy_no _ _ _ _ _ (by omega)]; exact p141 b
  · rw [oc a b (by omega)]; exact e2 a b ((fin_f _ _ _ _).mpr (by simp; omega))
  · rw [oc _ _ (by decide), oc _ _ (by decide), oc _ _ (by decide), oc _ _ (by decide)]; exact e3
  · rw [oc _ _ (by decide), oc _ _ (by decide), oc _ _ (by decide), oc _ _ (by decide)]; exact e4 b hb
theorem C_keep {h : hp} (C : CI h) (x : Int) : AL h mm_Tin_keep mm_Mod_keep [(2, 1), (0, x)] [(2, 123), (0, x), (9, 0)] := by
  by_cases hx : 0 ≤ x ∧ x ≤ 2
  · have hx3 : x = 0 ∨ x = 1 ∨ x = 2 := by omega
    rcases hx3 with rfl | rfl | rfl
    · exact C_keep_0 C
    · exact C_keep_1 C
    · exact C_keep_2 C
  · refine AL_same C (-2) ?_ ?_
    · rw [eq_Tin_keep_0]
      simp only [px_rd_mk, px_wr_mk, Int.reduceToNat, Int.toNat_natCast, if_true, if_false, Option.bind_some, px_up_cell, px_up_slot, px_up_eq, ne_eq, Nat.reduceEqDiff, not_false_eq_true, Int.reduceEq, Int.reduceLT, Int.reduceLE, Int.reduceNeg, decide_true, decide_false, Bool.and_true, Bool.true_and, Bool.and_false, Bool.false_and, and_self, and_true, true_and, and_false, false_and, bi_T, bi_F, not_true_eq_false, Bool.false_eq_true, R_Tin_within, bi_f hx]
    · rw [eq_Mod_keep_0]
      simp only [px_rd_mk, px_wr_mk, Int.reduceToNat, Int.toNat_natCast, if_true, if_false, Option.bind_some, px_up_cell, px_up_slot, px_up_eq, ne_eq, Nat.reduceEqDiff, not_false_eq_true, Int.reduceEq, Int.reduceLT, Int.reduceLE, Int.reduceNeg, decide_true, decide_false, Bool.and_true, Bool.true_and, Bool.and_false, Bool.false_and, and_self, and_true, true_and, and_false, false_and, bi_T, bi_F, not_true_eq_false, Bool.false_eq_true, R_Mod_isSlot, bi_f hx]
/-- a slot's row becomes the row -/
theorem take_ok {h : hp} {s r o p : Nat} (hr : r = 107 + 5 * s) (ho : o = 162 * (s + 1)) (hp2 : p = 2 * (s + 1)) {k : hp} (R : RWr r h) (C : CRr r o p h h) (er : k 101 0 = h r 0 ∧ k 101 1 = h r 1 ∧ k 101 2 = h r 2 ∧ k 101 3 = h r 3) (ea : ∀ b : Nat, b < 40 → k 102 b = h (r + 1) b ∧ k 103 b = h (r + 2) b ∧ k 104 b = h (r + 3) b ∧ k 105 b = h (r + 4) b) (e140 : ∀ b : Nat, b < 162 → k 140 b = h 140 (o + b)) (e141 : ∀ b : Nat, b < 2 → k 141 b = h 141 (p + b)) : RW k ∧ CR2 k k := by
  refine ⟨⟨by rw [er.1]; exact R.1, fun i hi => ?_⟩, ?_⟩
  · obtain ⟨a1, a2, a3, a4⟩ := ea i hi
    rw [a1, a2, a3, a4]
    exact R.2 i hi
  · obtain ⟨d1, d2, d3, d4, d5⟩ := C
    unfold CR2
    rw [e140 _ (by omega), e140 _ (by omega), e141 _ (by omega), e141 _ (by omega), er.1, er.2.1, er.2.2.1, er.2.2.2]
    refine ⟨d1, d2, d3, d4, fun i hi => ?_⟩
    obtain ⟨a1, a2, a3, a4⟩ := ea i hi
    obtain ⟨c1, c2, c3, c4⟩ := d5 i hi
    rw [a1, a2, a3, a4, e140 _ (by omega), e140 _ (by omega), e140 _ (by omega), e140 _ (by omega), ← c1, ← c2, ← c3, ← c4]
    exact ⟨congrArg (h 140) (by omega), congrArg (h 140) (by omega), congrArg (h 140) (by omega), congrArg (h 140) (by omega)⟩
theorem C_take_0 {h : hp} (C : CI h) : AL h mm_Tin_take mm_Mod_take [(2, 1), (0, 0)] [(2, 123), (0, 0), (9, 0)] := by
  have C2 := C
  obtain ⟨n, ⟨hn, h8, h9⟩, hI, hT, hK, hS, hL, hR, hC, hKs, hW, hB⟩ := C2
  rcases hKs 0 (by decide) with ⟨q1, q2⟩ | ⟨q1, q2, q3⟩
  · have q2 : h 107 0 = 0 := q2
    refine AL_same C (-4) ?_ ?_
    · rw [eq_Tin_take_0]
      simp only [px_rd_mk, px_wr_mk, Int.reduceToNat, Int.toNat_natCast, if_true, if_false, Option.bind_some, px_up_cell, px_up_slot, px_up_eq, ne_eq, Nat.reduceEqDiff, not_false_eq_true, Int.reduceEq, Int.reduceLT, Int.reduceLE, Int.reduceNeg, decide_true, decide_false, Bool.and_true, Bool.true_and, Bool.and_false, Bool.false_and, and_self, and_true, true_and, and_false, false_and, bi_T, bi_F, not_true_eq_false, Bool.false_eq_true, kg_1, kg_107, kg_101, ka_106, ir_1_0 hI, ir_1_1 hI, ir_1_2 hI, ir_1_3 hI, ir_1_4 hI, ir_1_5 hI, ir_1_6 hI, ir_1_7 hI, ir_106_0 hI, ir_106_1 hI, ir_106_2 hI, R_Tin_within, q2, Bool.or_true]
    · rw [eq_Mod_take_0]
      have gb : (px_ga (K0, h) 2 142 0 || px_ga (K0, h) 3 142 0) = true := rfl
      simp only [px_rd_mk, px_wr_mk, Int.reduceToNat, Int.toNat_natCast, if_true, if_false, Option.bind_some, px_up_cell, px_up_slot, px_up_eq, ne_eq, Nat.reduceEqDiff, not_false_eq_true, Int.reduceEq, Int.reduceLT, Int.reduceLE, Int.reduceNeg, decide_true, decide_false, Bool.and_true, Bool.true_and, Bool.and_false, Bool.false_and, and_self, and_true, true_and, and_false, false_and, bi_T, bi_F, not_true_eq_false, Bool.false_eq_true, kg_123, ir_123_0 hI, ir_123_12 hI, ir_123_13 hI, ir_123_14 hI, ir_123_15 hI, ir_123_16 hI, ir_123_17 hI, ir_123_18 hI, ir_123_19 hI, ir_123_20 hI, ir_123_21 hI, ir_123_30 hI, ir_123_31 hI, ir_123_32 hI, ir_123_33 hI, ir_123_34 hI, ir_123_35 hI, ir_123_36 hI, ir_123_37 hI, ir_123_38 hI, ir_123_39 hI, ir_123_41 hI, ir_123_42 hI, ir_123_44 hI, ir_123_45 hI, ir_123_46 hI, ir_123_50 hI, ir_123_54 hI, ir_123_55 hI, ir_123_56 hI, ir_123_57 hI, ir_123_58 hI, ir_123_59 hI, ir_123_60 hI, ir_123_61 hI, ir_123_62 hI, R_Mod_isSlot, gb, q1]
  · obtain ⟨g, e1, e2, e3, e4⟩ := bec_101_107 hI
    have hne : (h 107 0 = 0) = False := by
      have := q2.1
      have q4 : 2 ≤ h 107 0 := this.1
      simp
      omega
    have I := IR_Fr hI e2 (by decide)
    have k1 := take_1 I (s := 0) (by decide) 162 0 rfl
    rw [cpy_0] at k1
    have Fk := cpy_Fr g 140 0 (162 * (0 + 1)) 162
    have k2 := take_2 (IR_Fr I Fk (by decide)) (s := 0) (by decide)
    have Fl := cpy_Fr (cpy g 140 0 (162 * (0 + 1)) 162) 141 0 (2 * (0 + 1)) 2
    have F : Fr [102, 103, 104, 105, 140, 141] [(101, 0), (101, 1), (101, 2), (101, 3)] h (cpy (cpy g 140 0 (162 * (0 + 1)) 162) 141 0 (2 * (0 + 1)) 2) := Fr_sub (Fr_tr (Fr_tr e2 Fk) Fl) rfl rfl
    have g1 : cpy g 140 0 (162 * (0 + 1)) 162 140 1 = g 101 1 := (cpy_in _ _ _ _ _ (by decide)).trans ((e2 140 _ rfl).trans (q3.2.1.trans e3.2.1.symm))
    rw [g1] at k2
    have o140 : ∀ b : Nat, b < 162 → cpy (cpy g 140 0 (162 * (0 + 1)) 162) 141 0 (2 * (0 + 1)) 2 140 b = h 140 (162 * (0 + 1) + b) := fun b hb => by
      rw [cpy_o _ _ _ _ _ _ (by decide), cpy_in _ _ _ _ _ (by omega), Nat.sub_zero, Nat.add_comm]; exact e2 140 _ rfl
    have p140 : ∀ b : Nat, 162 ≤ b → cpy (cpy g 140 0 (162 * (0 + 1)) 162) 141 0 (2 * (0 + 1)) 2 140 b = h 140 b := fun b hb => by
      rw [cpy_o _ _ _ _ _ _ (by decide), cpy_no _ _ _ _ _ (by omega)]; exact e2 140 _ rfl
    have o141 : ∀ b : Nat, b < 2 → cpy (cpy g 140 0 (162 * (0 + 1)) 162) 141 0 (2 * (0 + 1)) 2 141 b = h 141 (2 * (0 + 1) + b) := fun b hb => by
      rw [cpy_in _ _ _ _ _ (by omega), cpy_o _ _ _ _ _ _ (by decide), Nat.sub_zero, Nat.add_comm]; exact e2 141 _ rfl
    have p141 : ∀ b : Nat, 2 ≤ b → cpy (cpy g 140 0 (162 * (0 + 1)) 162) 141 0 (2 * (0 + 1)) 2 141 b = h 141 b := fun b hb => by
      rw [cpy_no _ _ _ _ _ (by omega), cpy_o _ _ _ _ _ _ (by decide)]; exact e2 141 _ rfl
    have oc : ∀ a b : Nat, a < 140 → cpy (cpy g 140 0 (162 * (0 + 1)) 162) 141 0 (2 * (0 + 1)) 2 a b = g a b := fun a b ha => by
      rw [cpy_o _ _ _ _ _ _ (by omega), cpy_o _ _ _ _ _ _ (by omega)]
    have TK := take_ok (s := 0) (r := 107) (k := cpy (cpy g 140 0 (162 * (0 + 1)) 162) 141 0 (2 * (0 + 1)) 2) rfl rfl rfl q2 q3 (by
      rw [oc _ _ (by decide), oc _ _ (by decide), oc _ _ (by decide), oc _ _ (by decide)]; exact e3) (fun b hb => by
      rw [oc _ _ (by decide), oc _ _ (by decide), oc _ _ (by decide), oc _ _ (by decide)]; exact e4 b hb) o140 o141
    refine ⟨g 101 1, g, cpy (cpy g 140 0 (162 * (0 + 1)) 162) 141 0 (2 * (0 + 1)) 2, ?_, ?_, ⟨n, SP_F F rfl ⟨hn, h8, h9⟩, IR_Fr hI F (by decide), TP_F F rfl hT, FK_F F rfl hK, ST_F hn F rfl hS, LI_F hn F rfl hL, TK.1, TK.2, KS_e hKs (fun a b h1 h2 => Fr_rg F 107 122 rfl h1 h2 b) p140 p141 (fun b => F 142 b rfl), WI_F hn F rfl hW, BK_F hn F rfl hB⟩⟩
    · rw [eq_Tin_take_0]
      simp only [px_rd_mk, px_wr_mk, Int.reduceToNat, Int.toNat_natCast, if_true, if_false, Option.bind_some, px_up_cell, px_up_slot, px_up_eq, ne_eq, Nat.reduceEqDiff, not_false_eq_true, Int.reduceEq, Int.reduceLT, Int.reduceLE, Int.reduceNeg, decide_true, decide_false, Bool.and_true, Bool.true_and, Bool.and_false, Bool.false_and, and_self, and_true, true_and, and_false, false_and, bi_T, bi_F, not_true_eq_false, Bool.false_eq_true, kg_1, kg_107, kg_101, ka_106, ir_1_0 hI, ir_1_1 hI, ir_1_2 hI, ir_1_3 hI, ir_1_4 hI, ir_1_5 hI, ir_1_6 hI, ir_1_7 hI, ir_106_0 hI, ir_106_1 hI, ir_106_2 hI, R_Tin_within, hne, e1, ir_1_0 I, ir_1_1 I, ir_1_2 I, ir_1_3 I, ir_1_4 I, ir_1_5 I, ir_1_6 I, ir_1_7 I, Bool.or_true]
    · rw [eq_Mod_take_0]
      have gb : (px_ga (K0, g) 2 142 0 || px_ga (K0, g) 3 142 0) = true := rfl
      have q5 : g 142 0 = 1 := (e2 142 _ rfl).trans q1
      simp only [px_rd_mk, px_wr_mk, Int.reduceToNat, Int.toNat_natCast, if_true, if_false, Option.bind_some, px_up_cell, px_up_slot, px_up_eq, ne_eq, Nat.reduceEqDiff, not_false_eq_true, Int.reduceEq, Int.reduceLT, Int.reduceLE, Int.reduceNeg, decide_true, decide_false, Bool.and_true, Bool.true_and, Bool.and_false, Bool.false_and, and_self, and_true, true_and, and_false, false_and, bi_T, bi_F, not_true_eq_false, Bool.false_eq_true, kg_123, ir_123_0 I, ir_123_12 I, ir_123_13 I, ir_123_14 I, ir_123_15 I, ir_123_16 I, ir_123_17 I, ir_123_18 I, ir_123_19 I, ir_123_20 I, ir_123_21 I, ir_123_30 I, ir_123_31 I, ir_123_32 I, ir_123_33 I, ir_123_34 I, ir_123_35 I, ir_123_36 I, ir_123_37 I, ir_123_38 I, ir_123_39 I, ir_123_41 I, ir_123_42 I, ir_123_44 I, ir_123_45 I, ir_123_46 I, ir_123_50 I, ir_123_54 I, ir_123_55 I, ir_123_56 I, ir_123_57 I, ir_123_58 I, ir_123_59 I, ir_123_60 I, ir_123_61 I, ir_123_62 I, R_Mod_isSlot, gb, q5]
      exact k1.trans k2
theorem C_take_1 {h : hp} (C : CI h) : AL h mm_Tin_take mm_Mod_take [(2, 1), (0, 1)] [(2, 123), (0, 1), (9, 0)] := by
  have C2 := C
  obtain ⟨n, ⟨hn, h8, h9⟩, hI, hT, hK, hS, hL, hR, hC, hKs, hW, hB⟩ := C2
  rcases hKs 1 (by decide) with ⟨q1, q2⟩ | ⟨q1, q2, q3⟩
  · have q2 : h 112 0 = 0 := q2
    refine AL_same C (-4) ?_ ?_
    · rw [eq_Tin_take_0]
      simp only [px_rd_mk, px_wr_mk, Int.reduceToNat, Int.toNat_natCast, if_true, if_false, Option.bind_some, px_up_cell, px_up_slot, px_up_eq, ne_eq, Nat.reduceEqDiff, not_false_eq_true, Int.reduceEq, Int.reduceLT, Int.reduceLE, Int.reduceNeg, decide_true, decide_false, Bool.and_true, Bool.true_and, Bool.and_false, Bool.false_and, and_self, and_true, true_and, and_false, false_and, bi_T, bi_F, not_true_eq_false, Bool.false_eq_true, kg_1, kg_112, kg_101, ka_106, ir_1_0 hI, ir_1_1 hI, ir_1_2 hI, ir_1_3 hI, ir_1_4 hI, ir_1_5 hI, ir_1_6 hI, ir_1_7 hI, ir_106_0 hI, ir_106_1 hI, ir_106_2 hI, R_Tin_within, q2, Bool.or_true]
    · rw [eq_Mod_take_0]
      have gb : (px_ga (K0, h) 2 142 1 || px_ga (K0, h) 3 142 1) = true := rfl
      simp only [px_rd_mk, px_wr_mk, Int.reduceToNat, Int.toNat_natCast, if_true, if_false, Option.bind_some, px_up_cell, px_up_slot, px_up_eq, ne_eq, Nat.reduceEqDiff, not_false_eq_true, Int.reduceEq, Int.reduceLT, Int.reduceLE, Int.reduceNeg, decide_true, decide_false, Bool.and_true, Bool.true_and, Bool.and_false, Bool.false_and, and_self, and_true, true_and, and_false, false_and, bi_T, bi_F, not_true_eq_false, Bool.false_eq_true, kg_123, ir_123_0 hI, ir_123_12 hI, ir_123_13 hI, ir_123_14 hI, ir_123_15 hI, ir_123_16 hI, ir_123_17 hI, ir_123_18 hI, ir_123_19 hI, ir_123_20 hI, ir_123_21 hI, ir_123_30 hI, ir_123_31 hI, ir_123_32 hI, ir_123_33 hI, ir_123_34 hI, ir_123_35 hI, ir_123_36 hI, ir_123_37 hI, ir_123_38 hI, ir_123_39 hI, ir_123_41 hI, ir_123_42 hI, ir_123_44 hI, ir_123_45 hI, ir_123_46 hI, ir_123_50 hI, ir_123_54 hI, ir_123_55 hI, ir_123_56 hI, ir_123_57 hI, ir_123_58 hI, ir_123_59 hI, ir_123_60 hI, ir_123_61 hI, ir_123_62 hI, R_Mod_isSlot, gb, q1]
  · obtain ⟨g, e1, e2, e3, e4⟩ := bec_101_112 hI
    have hne : (h 112 0 = 0) = False := by
      have := q2.1
      have q4 : 2 ≤ h 112 0 := this.1
      simp
      omega
    have I := IR_Fr hI e2 (by decide)
    have k1 := take_1 I (s := 1) (by decide) 162 0 rfl
    rw [cpy_0] at k1
    have Fk := cpy_Fr g 140 0 (162 * (1 + 1)) 162
    have k2 := take_2 (IR_Fr I Fk (by decide)) (s := 1) (by decide)
    have Fl := cpy_Fr (cpy g 140 0 (162 * (1 + 1)) 162) 141 0 (2 * (1 + 1)) 2
    have F : Fr [102, 103, 104, 105, 140, 141] [(101, 0), (101, 1), (101, 2), (101, 3)] h (cpy (cpy g 140 0 (162 * (1 + 1)) 162) 141 0 (2 * (1 + 1)) 2) := Fr_sub (Fr_tr (Fr_tr e2 Fk) Fl) rfl rfl
    have g1 : cpy g 140 0 (162 * (1 + 1)) 162 140 1 = g 101 1 := (cpy_in _ _ _ _ _ (by decide)).trans ((e2 140 _ rfl).trans (q3.2.1.trans e3.2.1.symm))
    rw [g1] at k2
    have o140 : ∀ b : Nat, b < 162 → cpy (cpy g 140 0 (162 * (1 + 1)) 162) 141 0 (2 * (1 + 1)) 2 140 b = h 140 (162 * (1 + 1) + b) := fun b hb => by
      rw [cpy_o _ _ _ _ _ _ (by decide), cpy_in _ _ _ _ _ (by omega), Nat.sub_zero, Nat.add_comm]; exact e2 140 _ rfl
    have p140 : ∀ b : Nat, 162 ≤ b → cpy (cpy g 140 0 (162 * (1 + 1)) 162) 141 0 (2 * (1 + 1)) 2 140 b = h 140 b := fun b hb => by
      rw [cpy_o _ _ _ _ _ _ (by decide), cpy_no _ _ _ _ _ (by omega)]; exact e2 140 _ rfl
    have o141 : ∀ b : Nat, b < 2 → cpy (cpy g 140 0 (162 * (1 + 1)) 162) 141 0 (2 * (1 + 1)) 2 141 b = h 141 (2 * (1 + 1) + b) := fun b hb => by
      rw [cpy_in _ _ _ _ _ (by omega), cpy_o _ _ _ _ _ _ (by decide), Nat.sub_zero, Nat.add_comm]; exact e2 141 _ rfl
    have p141 : ∀ b : Nat, 2 ≤ b → cpy (cpy g 140 0 (162 * (1 + 1)) 162) 141 0 (2 * (1 + 1)) 2 141 b = h 141 b := fun b hb => by
      rw [cpy_no _ _ _ _ _ (by omega), cpy_o _ _ _ _ _ _ (by decide)]; exact e2 141 _ rfl
    have oc : ∀ a b : Nat, a < 140 → cpy (cpy g 140 0 (162 * (1 + 1)) 162) 141 0 (2 * (1 + 1)) 2 a b = g a b := fun a b ha => by
      rw [cpy_o _ _ _ _ _ _ (by omega), cpy_o _ _ _ _ _ _ (by omega)]
    have TK := take_ok (s := 1) (r := 112) (k := cpy (cpy g 140 0 (162 * (1 + 1)) 162) 141 0 (2 * (1 + 1)) 2) rfl rfl rfl q2 q3 (by
      rw [oc _ _ (by decide), oc _ _ (by decide), oc _ _ (by decide), oc _ _ (by decide)]; exact e3) (fun b hb => by
      rw [oc _ _ (by decide), oc _ _ (by decide), oc _ _ (by decide), oc _ _ (by decide)]; exact e4 b hb) o140 o141
    refine ⟨g 101 1, g, cpy (cpy g 140 0 (162 * (1 + 1)) 162) 141 0 (2 * (1 + 1)) 2, ?_, ?_, ⟨n, SP_F F rfl ⟨hn, h8, h9⟩, IR_Fr hI F (by decide), TP_F F rfl hT, FK_F F rfl hK, ST_F hn F rfl hS, LI_F hn F rfl hL, TK.1, TK.2, KS_e hKs (fun a b h1 h2 => Fr_rg F 107 122 rfl h1 h2 b) p140 p141 (fun b => F 142 b rfl), WI_F hn F rfl hW, BK_F hn F rfl hB⟩⟩
    · rw [eq_Tin_take_0]
      simp only [px_rd_mk, px_wr_mk, Int.reduceToNat, Int.toNat_natCast, if_true, if_false, Option.bind_some, px_up_cell, px_up_slot, px_up_eq, ne_eq, Nat.reduceEqDiff, not_false_eq_true, Int.reduceEq, Int.reduceLT, Int.reduceLE, Int.reduceNeg, decide_true, decide_false, Bool.and_true, Bool.true_and, Bool.and_false, Bool.false_and, and_self, and_true, true_and, and_false, false_and, bi_T, bi_F, not_true_eq_false, Bool.false_eq_true, kg_1, kg_112, kg_101, ka_106, ir_1_0 hI, ir_1_1 hI, ir_1_2 hI, ir_1_3 hI, ir_1_4 hI, ir_1_5 hI, ir_1_6 hI, ir_1_7 hI, ir_106_0 hI, ir_106_1 hI, ir_106_2 hI, R_Tin_within, hne, e1, ir_1_0 I, ir_1_1 I, ir_1_2 I, ir_1_3 I, ir_1_4 I, ir_1_5 I, ir_1_6 I, ir_1_7 I, Bool.or_true]
    · rw [eq_Mod_take_0]
      have gb : (px_ga (K0, g) 2 142 1 || px_ga (K0, g) 3 142 1) = true := rfl
      have q5 : g 142 1 = 1 := (e2 142 _ rfl).trans q1
      simp only [px_rd_mk, px_wr_mk, Int.reduceToNat, Int.toNat_natCast, if_true, if_false, Option.bind_some, px_up_cell, px_up_slot, px_up_eq, ne_eq, Nat.reduceEqDiff, not_false_eq_true, Int.reduceEq, Int.reduceLT, Int.reduceLE, Int.reduceNeg, decide_true, decide_false, Bool.and_true, Bool.true_and, Bool.and_false, Bool.false_and, and_self, and_true, true_and, and_false, false_and, bi_T, bi_F, not_true_eq_false, Bool.false_eq_true, kg_123, ir_123_0 I, ir_123_12 I, ir_123_13 I, ir_123_14 I, ir_123_15 I, ir_123_16 I, ir_123_17 I, ir_123_18 I, ir_123_19 I, ir_123_20 I, ir_123_21 I, ir_123_30 I, ir_123_31 I, ir_123_32 I, ir_123_33 I, ir_123_34 I, ir_123_35 I, ir_123_36 I, ir_123_37 I, ir_123_38 I, ir_123_39 I, ir_123_41 I, ir_123_42 I, ir_123_44 I, ir_123_45 I, ir_123_46 I, ir_123_50 I, ir_123_54 I, ir_123_55 I, ir_123_56 I, ir_123_57 I, ir_123_58 I, ir_123_59 I, ir_123_60 I, ir_123_61 I, ir_123_62 I, R_Mod_isSlot, gb, q5]
      exact k1.trans k2
theorem C_take_2 {h : hp} (C : CI h) : AL h mm_Tin_take mm_Mod_take [(2, 1), (0, 2)] [(2, 123), (0, 2), (9, 0)] := by
  have C2 := C
  obtain ⟨n, ⟨hn, h8, h9⟩, hI, hT, hK, hS, hL, hR, hC, hKs, hW, hB⟩ := C2
  rcases hKs 2 (by decide) with ⟨q1, q2⟩ | ⟨q1, q2, q3⟩
  · have q2 : h 117 0 = 0 := q2
    refine AL_same C (-4) ?_ ?_
    · rw [eq_Tin_take_0]
      simp only [px_rd_mk, px_wr_mk, Int.reduceToNat, Int.toNat_natCast, if_true, if_false, Option.bind_some, px_up_cell, px_up_slot, px_up_eq, ne_eq, Nat.reduceEqDiff, not_false_eq_true, Int.reduceEq, Int.reduceLT, Int.reduceLE, Int.reduceNeg, decide_true, decide_false, Bool.and_true, Bool.true_and, Bool.and_false, Bool.false_and, and_self, and_true, true_and, and_false, false_and, bi_T, bi_F, not_true_eq_false, Bool.false_eq_true, kg_1, kg_117, kg_101, ka_106, ir_1_0 hI, ir_1_1 hI, ir_1_2 hI, ir_1_3 hI, ir_1_4 hI, ir_1_5 hI, ir_1_6 hI, ir_1_7 hI, ir_106_0 hI, ir_106_1 hI, ir_106_2 hI, R_Tin_within, q2, Bool.or_true]
    · rw [eq_Mod_take_0]
      have gb : (px_ga (K0, h) 2 142 2 || px_ga (K0, h) 3 142 2) = true := rfl
      simp only [px_rd_mk, px_wr_mk, Int.reduceToNat, Int.toNat_natCast, if_true, if_false, Option.bind_some, px_up_cell, px_up_slot, px_up_eq, ne_eq, Nat.reduceEqDiff, not_false_eq_true, Int.reduceEq, Int.reduceLT, Int.reduceLE, Int.reduceNeg, decide_true, decide_false, Bool.and_true, Bool.true_and, Bool.and_false, Bool.false_and, and_self, and_true, true_and, and_false, false_and, bi_T, bi_F, not_true_eq_false, Bool.false_eq_true, kg_123, ir_123_0 hI, ir_123_12 hI, ir_123_13 hI, ir_123_14 hI, ir_123_15 hI, ir_123_16 hI, ir_123_17 hI, ir_123_18 hI, ir_123_19 hI, ir_123_20 hI, ir_123_21 hI, ir_123_30 hI, ir_123_31 hI, ir_123_32 hI, ir_123_33 hI, ir_123_34 hI, ir_123_35 hI, ir_123_36 hI, ir_123_37 hI, ir_123_38 hI, ir_123_39 hI, ir_123_41 hI, ir_123_42 hI, ir_123_44 hI, ir_123_45 hI, ir_123_46 hI, ir_123_50 hI, ir_123_54 hI, ir_123_55 hI, ir_123_56 hI, ir_123_57 hI, ir_123_58 hI, ir_123_59 hI, ir_123_60 hI, ir_123_61 hI, ir_123_62 hI, R_Mod_isSlot, gb, q1]
  · obtain ⟨g, e1, e2, e3, e4⟩ := bec_101_117 hI
    have hne : (h 117 0 = 0) = False := by
      have := q2.1
      have q4 : 2 ≤ h 117 0 := this.1
      simp
      omega
    have I := IR_Fr hI e2 (by decide)
    have k1 := take_1 I (s := 2) (by decide) 162 0 rfl
    rw [cpy_0] at k1
    have Fk := cpy_Fr g 140 0 (162 * (2 + 1)) 162
    have k2 := take_2 (IR_Fr I Fk (by decide)) (s := 2) (by decide)
    have Fl := cpy_Fr (cpy g 140 0 (162 * (2 + 1)) 162) 141 0 (2 * (2 + 1)) 2
    have F : Fr [102, 103, 104, 105, 140, 141] [(101, 0), (101, 1), (101, 2), (101, 3)] h (cpy (cpy g 140 0 (162 * (2 + 1)) 162) 141 0 (2 * (2 + 1)) 2) := Fr_sub (Fr_tr (Fr_tr e2 Fk) Fl) rfl rfl
    have g1 : cpy g 140 0 (162 * (2 + 1)) 162 140 1 = g 101 1 := (cpy_in _ _ _ _ _ (by decide)).trans ((e2 140 _ rfl).trans (q3.2.1.trans e3.2.1.symm))
    rw [g1] at k2
    have o140 : ∀ b : Nat, b < 162 → cpy (cpy g 140 0 (162 * (2 + 1)) 162) 141 0 (2 * (2 + 1)) 2 140 b = h 140 (162 * (2 + 1) + b) := fun b hb => by
      rw [cpy_o _ _ _ _ _ _ (by decide), cpy_in _ _ _ _ _ (by omega), Nat.sub_zero, Nat.add_comm]; exact e2 140 _ rfl
    have p140 : ∀ b : Nat, 162 ≤ b → cpy (cpy g 140 0 (162 * (2 + 1)) 162) 141 0 (2 * (2 + 1)) 2 140 b = h 140 b := fun b hb => by
      rw [cpy_o _ _ _ _ _ _ (by decide), cpy_no _ _ _ _ _ (by omega)]; exact e2 140 _ rfl
    have o141 : ∀ b : Nat, b < 2 → cpy (cpy g 140 0 (162 * (2 + 1)) 162) 141 0 (2 * (2 + 1)) 2 141 b = h 141 (2 * (2 + 1) + b) := fun b hb => by
      rw [cpy_in _ _ _ _ _ (by omega), cpy_o _ _ _ _ _ _ (by decide), Nat.sub_zero, Nat.add_comm]; exact e2 141 _ rfl
    have p141 : ∀ b : Nat, 2 ≤ b → cpy (cpy g 140 0 (162 * (2 + 1)) 162) 141 0 (2 * (2 + 1)) 2 141 b = h 141 b := fun b hb => by
      rw [cpy_no _ _ _ _ _ (by omega), cpy_o _ _ _ _ _ _ (by decide)]; exact e2 141 _ rfl
    have oc : ∀ a b : Nat, a < 140 → cpy (cpy g 140 0 (162 * (2 + 1)) 162) 141 0 (2 * (2 + 1)) 2 a b = g a b := fun a b ha => by
      rw [cpy_o _ _ _ _ _ _ (by omega), cpy_o _ _ _ _ _ _ (by omega)]
    have TK := take_ok (s := 2) (r := 117) (k := cpy (cpy g 140 0 (162 * (2 + 1)) 162) 141 0 (2 * (2 + 1)) 2) rfl rfl rfl q2 q3 (by
      rw [oc _ _ (by decide), oc _ _ (by decide), oc _ _ (by decide), oc _ _ (by decide)]; exact e3) (fun b hb => by
      rw [oc _ _ (by decide), oc _ _ (by decide), oc _ _ (by decide), oc _ _ (by decide)]; exact e4 b hb) o140 o141
    refine ⟨g 101 1, g, cpy (cpy g 140 0 (162 * (2 + 1)) 162) 141 0 (2 * (2 + 1)) 2, ?_, ?_, ⟨n, SP_F F rfl ⟨hn, h8, h9⟩, IR_Fr hI F (by decide), TP_F F rfl hT, FK_F F rfl hK, ST_F hn F rfl hS, LI_F hn F rfl hL, TK.1, TK.2, KS_e hKs (fun a b h1 h2 => Fr_rg F 107 122 rfl h1 h2 b) p140 p141 (fun b => F 142 b rfl), WI_F hn F rfl hW, BK_F hn F rfl hB⟩⟩
    · rw [eq_Tin_take_0]
      simp only [px_rd_mk, px_wr_mk, Int.reduceToNat, Int.toNat_natCast, if_true, if_false, Option.bind_some, px_up_cell, px_up_slot, px_up_eq, ne_eq, Nat.reduceEqDiff, not_false_eq_true, Int.reduceEq, Int.reduceLT, Int.reduceLE, Int.reduceNeg, decide_true, decide_false, Bool.and_true, Bool.true_and, Bool.and_false, Bool.false_and, and_self, and_true, true_and, and_false, false_and, bi_T, bi_F, not_true_eq_false, Bool.false_eq_true, kg_1, kg_117, kg_101, ka_106, ir_1_0 hI, ir_1_1 hI, ir_1_2 hI, ir_1_3 hI, ir_1_4 hI, ir_1_5 hI, ir_1_6 hI, ir_1_7 hI, ir_106_0 hI, ir_106_1 hI, ir_106_2 hI, R_Tin_within, hne, e1, ir_1_0 I, ir_1_1 I, ir_1_2 I, ir_1_3 I, ir_1_4 I, ir_1_5 I, ir_1_6 I, ir_1_7 I, Bool.or_true]
    · rw [eq_Mod_take_0]
      have gb : (px_ga (K0, g) 2 142 2 || px_ga (K0, g) 3 142 2) = true := rfl
      have q5 : g 142 2 = 1 := (e2 142 _ rfl).trans q1
      simp only [px_rd_mk, px_wr_mk, Int.reduceToNat, Int.toNat_natCast, if_true, if_false, Option.bind_some, px_up_cell, px_up_slot, px_up_eq, ne_eq, Nat.reduceEqDiff, not_false_eq_true, Int.reduceEq, Int.reduceLT, Int.reduceLE, Int.reduceNeg, decide_true, decide_false, Bool.and_true, Bool.true_and, Bool.and_false, Bool.false_and, and_self, and_true, true_and, and_false, false_and, bi_T, bi_F, not_true_eq_false, Bool.false_eq_true, kg_123, ir_123_0 I, ir_123_12 I, ir_123_13 I, ir_123_14 I, ir_123_15 I, ir_123_16 I, ir_123_17 I, ir_123_18 I, ir_123_19 I, ir_123_20 I, ir_123_21 I, ir_123_30 I, ir_123_31 I, ir_123_32 I, ir_123_33 I, ir_123_34 I, ir_123_35 I, ir_123_36 I, ir_123_37 I, ir_123_38 I, ir_123_39 I, ir_123_41 I, ir_123_42 I, ir_123_44 I, ir_123_45 I, ir_123_46 I, ir_123_50 I, ir_123_54 I, ir_123_55 I, ir_123_56 I, ir_123_57 I, ir_123_58 I, ir_123_59 I, ir_123_60 I, ir_123_61 I, ir_123_62 I, R_Mod_isSlot, gb, q5]
      exact k1.trans k2
theorem C_take {h : hp} (C : CI h) (x : Int) : AL h mm_Tin_take mm_Mod_take [(2, 1), (0, x)] [(2, 123), (0, x), (9, 0)] := by
  by_cases hx : 0 ≤ x ∧ x ≤ 2
  · have hx3 : x = 0 ∨ x = 1 ∨ x = 2 := by omega
    rcases hx3 with rfl | rfl | rfl
    · exact C_take_0 C
    · exact C_take_1 C
    · exact C_take_2 C
  · refine AL_same C (-2) ?_ ?_
    · rw [eq_Tin_take_0]
      simp only [px_rd_mk, px_wr_mk, Int.reduceToNat, Int.toNat_natCast, if_true, if_false, Option.bind_some, px_up_cell, px_up_slot, px_up_eq, ne_eq, Nat.reduceEqDiff, not_false_eq_true, Int.reduceEq, Int.reduceLT, Int.reduceLE, Int.reduceNeg, decide_true, decide_false, Bool.and_true, Bool.true_and, Bool.and_false, Bool.false_and, and_self, and_true, true_and, and_false, false_and, bi_T, bi_F, not_true_eq_false, Bool.false_eq_true, R_Tin_within, bi_f hx]
    · rw [eq_Mod_take_0]
      simp only [px_rd_mk, px_wr_mk, Int.reduceToNat, Int.toNat_natCast, if_true, if_false, Option.bind_some, px_up_cell, px_up_slot, px_up_eq, ne_eq, Nat.reduceEqDiff, not_false_eq_true, Int.reduceEq, Int.reduceLT, Int.reduceLE, Int.reduceNeg, decide_true, decide_false, Bool.and_true, Bool.true_and, Bool.and_false, Bool.false_and, and_self, and_true, true_and, and_false, false_and, bi_T, bi_F, not_true_eq_false, Bool.false_eq_true, R_Mod_isSlot, bi_f hx]
