/-! The two loops that weigh what is known. -/
theorem hcs_row {g k : hp} {D c : Nat} (h : ∀ c, DC c → c ≠ D → k c = g c) (hc : c < 6) (hne : ¬ 91 + c = D) : k (91 + c) = g (91 + c) := h _ (Or.inr ⟨by omega, by omega⟩) hne
theorem weigh_C {W N : Nat} {L : Nat → Nat → Int} {b : Nat → Nat → Int} {Lc M : Nat} {known : Int} (hF : BF b W Lc M) (r : Nat) : ∀ (k S P : Nat) (g : hp) (y5 y6 : pv), k + r = Lc → EC W N L g → BC b Lc M g → S < 64 → (∀ w, w < W → inS S w = true → ∀ a, a < 6 → g (91 + w) a = tkS W N L (2 ^ W - 1) w a) → PD (g 98) B32 11 P → wgF b known (wyV W N L b known M) k = some P → ∃ g2 : hp, px_R (mm_Book_weigh, 12, [(2, 83), (2, 51), (0, known), (0, (S : Int)), (0, (k : Int)), y5, y6], [], (K0, g)) = some (bo (wgF b known (wyV W N L b known M) Lc), (K0, g2)) ∧ Fr wcs [(51, 5)] g g2 ∧ ∀ Q, wgF b known (wyV W N L b known M) Lc = some Q → PD (g2 98) B32 11 Q := by
  induction r with
  | zero =>
    intro k S P g y5 y6 hk E H hS R hP hw
    have : k = Lc := hk
    subst this
    have hlt : ((k : Int) < (k : Int)) = False := eq_false (Int.lt_irrefl _)
    refine ⟨g, ?_, Fr_rf _ _ _, fun Q hQ => ?_⟩
    · rw [hw, eq_Book_weigh_12]
      simp only [px_rd_mk, px_wr_mk, Int.reduceToNat, Int.toNat_natCast, if_true, if_false, Option.bind_some, px_up_cell, px_up_slot, px_up_eq, ne_eq, Nat.reduceEqDiff, not_false_eq_true, Int.reduceEq, Int.reduceLT, Int.reduceLE, Int.reduceNeg, decide_true, decide_false, Bool.and_true, Bool.true_and, Bool.and_false, Bool.false_and, and_self, and_true, true_and, and_false, false_and, bi_T, bi_F, not_true_eq_false, Bool.false_eq_true, kg_83, H.1, hlt]
      rfl
    · rw [hw] at hQ
      have := Option.some.inj hQ
      subst this
      exact hP
  | succ r ih =>
    intro k S P g y5 y6 hk E H hS R hP hw
    have hkL : k < Lc := by omega
    have L20 := hF.1
    have hlt : ((k : Int) < (Lc : Int)) = True := eq_true (by omega)
    have gk : (decide ((0 : Int) ≤ (k : Int)) && decide ((k : Int) < 20)) = true := gd_ok (by omega)
    have f0 : g 84 k = b 0 k := H.2.2 0 (by decide) k
    have f1 : g 85 k = b 1 k := H.2.2 1 (by decide) k
    have I := E.2.2.1
    have ws := wgF_s hw
    by_cases c : known < b 0 k
    · have c1 := eq_true c
      rw [if_pos c] at ws
      obtain ⟨g2, r1, r2⟩ := ih (k + 1) S P g y5 y6 (by omega) E H hS R hP ws
      refine ⟨g2, ?_, r2⟩
      have w1 := px_w_s (show k < 1000000 by omega)
      rw [eq_Book_weigh_12]
      simp only [px_rd_mk, px_wr_mk, Int.reduceToNat, Int.toNat_natCast, if_true, if_false, Option.bind_some, px_up_cell, px_up_slot, px_up_eq, ne_eq, Nat.reduceEqDiff, not_false_eq_true, Int.reduceEq, Int.reduceLT, Int.reduceLE, Int.reduceNeg, decide_true, decide_false, Bool.and_true, Bool.true_and, Bool.and_false, Bool.false_and, and_self, and_true, true_and, and_false, false_and, bi_T, bi_F, not_true_eq_false, Bool.false_eq_true, kg_83, ka_84, H.1, hlt, ir_83_3 I, ir_83_4 I, ir_83_5 I, ir_83_6 I, ir_83_7 I, ir_83_8 I, ir_83_12 I, ir_83_13 I, ir_83_14 I, gk, f0, c1, w1]
      exact r1
    · have c1 := eq_false c
      rw [if_neg c] at ws
      have b1 := (hF.2.2.1 k hkL).1
      have W6 := E.1
      obtain ⟨wd, hwd⟩ := Int.eq_ofNat_of_zero_le b1.1
      have wdW : wd < W := by omega
      have w6 : wd < 6 := by omega
      have fx := fx_hd ⟨S, hS⟩ ⟨wd, w6⟩
      simp only at fx
      have mid : ∃ (g1 : hp) (S1 : Nat), px_R (mm_Book_weigh, 12, [(2, 83), (2, 51), (0, known), (0, (S : Int)), (0, (k : Int)), y5, y6], [], (K0, g)) = px_R (mm_Book_weigh, 78, [(2, 83), (2, 51), (0, known), (0, (S1 : Int)), (0, (k : Int)), (0, (wd : Int)), y6], [], (K0, g1)) ∧ Fr (hcs ++ dcs) [(51, 5)] g g1 ∧ S1 < 64 ∧ (∀ w, w < W → inS S1 w = true → ∀ a, a < 6 → g1 (91 + w) a = tkS W N L (2 ^ W - 1) w a) ∧ ∀ a, a < 6 → g1 (91 + wd) a = tkS W N L (2 ^ W - 1) wd a := by
        have f1 := f1.trans hwd
        by_cases hd : inS S wd = true
        · have c0 : (px_and (px_shr (S : Int) (wd : Int)) 1 = 0) = False := eq_false (by
            rw [fx.1, if_pos hd]
            decide)
          refine ⟨g, S, ?_, Fr_rf _ _ _, hS, R, R wd wdW hd⟩
          rw [eq_Book_weigh_12]
          simp only [px_rd_mk, px_wr_mk, Int.reduceToNat, Int.toNat_natCast, if_true, if_false, Option.bind_some, px_up_cell, px_up_slot, px_up_eq, ne_eq, Nat.reduceEqDiff, not_false_eq_true, Int.reduceEq, Int.reduceLT, Int.reduceLE, Int.reduceNeg, decide_true, decide_false, Bool.and_true, Bool.true_and, Bool.and_false, Bool.false_and, and_self, and_true, true_and, and_false, false_and, bi_T, bi_F, not_true_eq_false, Bool.false_eq_true, kg_83, ka_84, ka_85, H.1, hlt, ir_83_3 I, ir_83_4 I, ir_83_5 I, ir_83_6 I, ir_83_7 I, ir_83_8 I, ir_83_12 I, ir_83_13 I, ir_83_14 I, gk, f0, f1, c1, c0]
        · have c0 : (px_and (px_shr (S : Int) (wd : Int)) 1 = 0) = True := eq_true (by rw [fx.1, if_neg hd])
          have T64 := all_lt W6
          have al := fx_all ⟨W, by omega⟩
          have inA := al.2 ⟨wd, w6⟩ wdW
          have al := al.1
          simp only at al inA
          obtain ⟨g1, e1, ⟨F1, F2⟩, V1⟩ := R_hear E (D := 91 + wd) (T := 2 ^ W - 1) (a := wd) (by omega) wdW wdW inA (Or.inr ⟨by omega, by omega⟩)
          have i90 := ir90 I w6
          have gw : (decide ((0 : Int) ≤ (wd : Int)) && decide ((wd : Int) < 6)) = true := gd_ok (by omega)
          have row : ∀ a, a < 6 → g1 (91 + wd) a = tkS W N L (2 ^ W - 1) wd a := fun a ha => (V1 a ha).trans (tk_w E.2.1 _ _ _ _)
          refine ⟨g1, S ||| 2 ^ wd, ?_, F1, fx.2.2.1, fun w hw hi a ha => ?_, row⟩
          · rw [eq_Book_weigh_12]
            simp only [px_rd_mk, px_wr_mk, Int.reduceToNat, Int.toNat_natCast, if_true, if_false, Option.bind_some, px_up_cell, px_up_slot, px_up_eq, ne_eq, Nat.reduceEqDiff, not_false_eq_true, Int.reduceEq, Int.reduceLT, Int.reduceLE, Int.reduceNeg, decide_true, decide_false, Bool.and_true, Bool.true_and, Bool.and_false, Bool.false_and, and_self, and_true, true_and, and_false, false_and, bi_T, bi_F, not_true_eq_false, Bool.false_eq_true, kg_83, ka_84, ka_85, kg_51, ka_90, H.1, hlt, ir_83_3 I, ir_83_4 I, ir_83_5 I, ir_83_6 I, ir_83_7 I, ir_83_8 I, ir_83_12 I, ir_83_13 I, ir_83_14 I, gk, f0, f1, c1, c0, E.2.2.2.1, al, i90, gw, Bool.true_or, e1, fx.2.1]
          · by_cases e : w = wd
            · rw [e]
              exact row a ha
            · rw [hcs_row F2 (show w < 6 by omega) (by omega)]
              exact R w hw ((fx.2.2.2 ⟨w, by omega⟩ hi).resolve_left e) a ha
      obtain ⟨g1, S1, m1, m2, m3, m4, m5⟩ := mid
      have E1 : EC W N L g1 := EC_F E m2 (by decide) rfl
      have H1 : BC b Lc M g1 := BC_F H m2 rfl
      have P1 : PD (g1 98) B32 11 P := fun i hi => (m2 98 i rfl).trans (hP i hi)
      rw [m1]
      rcases weigh78 hF hkL hwd E1 H1 P1 m5 (S1 : Int) y6 with ⟨z, r1⟩ | ⟨z, g2, z6, r1, r2, r3⟩
      · rw [if_pos z] at ws
        have wn := wgF_none ws (r := r)
        rw [show k + 1 + r = Lc by omega] at wn
        refine ⟨g1, ?_, Fr_sub m2 rfl rfl, fun Q hQ => ?_⟩
        · rw [r1, wn]
          rfl
        · rw [wn] at hQ
          cases hQ
      · rw [if_neg z] at ws
        have E2 : EC W N L g2 := EC_F E1 r2 (by decide) rfl
        have H2 : BC b Lc M g2 := BC_F H1 r2 rfl
        obtain ⟨g3, s1, s2, s3⟩ := ih (k + 1) S1 (P * wyV W N L b known M k) g2 (0, (wd : Int)) z6 (by omega) E2 H2 m3 (fun w hw hi a ha => by
          rw [Fr_rg r2 91 97 rfl (show 91 ≤ 91 + w by omega) (by omega) a]
          exact m4 w hw hi a ha) r3 ws
        exact ⟨g3, r1.trans s1, Fr_sub (Fr_tr (Fr_tr m2 r2) s2) rfl rfl, s3⟩
theorem R_weigh {W N : Nat} {L : Nat → Nat → Int} {b : Nat → Nat → Int} {Lc M : Nat} {known : Int} (hF : BF b W Lc M) {g : hp} (E : EC W N L g) (H : BC b Lc M g) : ∃ g2 : hp, px_R (mm_Book_weigh, 0, [(2, 83), (2, 51), (0, known), (9, 0), (9, 0), (9, 0), (9, 0)], [], (K0, g)) = some (bo (wgF b known (wyV W N L b known M) Lc), (K0, g2)) ∧ Fr wcs [(51, 5)] g g2 ∧ ∀ Q, wgF b known (wyV W N L b known M) Lc = some Q → PD (g2 98) B32 11 Q := by
  obtain ⟨g1, r1, r2, r3⟩ := R_oneC E.2.2.1
  have E1 : EC W N L g1 := EC_F E r2 (by decide) rfl
  have H1 : BC b Lc M g1 := BC_F H r2 rfl
  obtain ⟨g2, s1, s2, s3⟩ := weigh_C hF Lc 0 0 1 g1 (9, 0) (9, 0) (Nat.zero_add _) E1 H1 (by decide) (fun w hw hi => by
    unfold inS at hi
    rw [Nat.zero_div] at hi
    exact absurd (of_decide_eq_true hi) (by decide)) r3 (known := known) rfl
  have s1 : px_R (mm_Book_weigh, 12, [(2, 83), (2, 51), (0, known), (0, 0), (0, 0), (9, 0), (9, 0)], [], (K0, g1)) = _ := s1
  refine ⟨g2, ?_, Fr_sub (Fr_tr r2 s2) rfl rfl, s3⟩
  have I := E.2.2.1
  rw [eq_Book_weigh_0]
  simp only [px_rd_mk, px_wr_mk, Int.reduceToNat, Int.toNat_natCast, if_true, if_false, Option.bind_some, px_up_cell, px_up_slot, px_up_eq, ne_eq, Nat.reduceEqDiff, not_false_eq_true, Int.reduceEq, Int.reduceLT, Int.reduceLE, Int.reduceNeg, decide_true, decide_false, Bool.and_true, Bool.true_and, Bool.and_false, Bool.false_and, and_self, and_true, true_and, and_false, false_and, bi_T, bi_F, not_true_eq_false, Bool.false_eq_true, kg_83, kg_97, ir_83_3 I, ir_83_4 I, ir_83_5 I, ir_83_6 I, ir_83_7 I, ir_83_8 I, ir_83_12 I, ir_83_13 I, ir_83_14 I, r1]
  exact s1
def mcs : List Nat := [138, 139, 157]
theorem lets_M {W N : Nat} {L : Nat → Nat → Int} {b : Nat → Nat → Int} {Lc M : Nat} {known : Int} (hF : BF b W Lc M) (x1 : Int) (r : Nat) : ∀ (k P : Nat) (g : hp) (y4 : pv), k + r = Lc → MC W N L g → BM b Lc M g → PD (g 157) BT 30 P → wgF b known (wyV W N L b known M) k = some P → ∃ g2 : hp, px_R (mm_Mod_lets, 52, [(2, 123), (0, x1), (0, known), (0, (k : Int)), y4], [], (K0, g)) = some (bo (wgF b known (wyV W N L b known M) Lc), (K0, g2)) ∧ Fr mcs [] g g2 ∧ ∀ Q, wgF b known (wyV W N L b known M) Lc = some Q → PD (g2 157) BT 30 Q := by
  induction r with
  | zero =>
    intro k P g y4 hk E H hP hw
    have : k = Lc := hk
    subst this
    have hlt : ((k : Int) < (k : Int)) = False := eq_false (Int.lt_irrefl _)
    refine ⟨g, ?_, Fr_rf _ _ _, fun Q hQ => ?_⟩
    · rw [hw, eq_Mod_lets_52]
      simp only [px_rd_mk, px_wr_mk, Int.reduceToNat, Int.toNat_natCast, if_true, if_false, Option.bind_some, px_up_cell, px_up_slot, px_up_eq, ne_eq, Nat.reduceEqDiff, not_false_eq_true, Int.reduceEq, Int.reduceLT, Int.reduceLE, Int.reduceNeg, decide_true, decide_false, Bool.and_true, Bool.true_and, Bool.and_false, Bool.false_and, and_self, and_true, true_and, and_false, false_and, bi_T, bi_F, not_true_eq_false, Bool.false_eq_true, kg_123, H.1, hlt]
      rfl
    · rw [hw] at hQ
      have := Option.some.inj hQ
      subst this
      exact hP
  | succ r ih =>
    intro k P g y4 hk E H hP hw
    have hkL : k < Lc := by omega
    have L20 := hF.1
    have M20 := hF.2.1
    have hlt : ((k : Int) < (Lc : Int)) = True := eq_true (by omega)
    have gk : (decide ((0 : Int) ≤ (k : Int)) && decide ((k : Int) < 20)) = true := gd_ok (by omega)
    have f0 : g 151 k = b 0 k := H.2.2 0 (by decide) k
    have f1 : g 152 k = b 1 k := H.2.2 1 (by decide) k
    have I := E.2.2.1
    have ws := wgF_s hw
    by_cases c : known < b 0 k
    · have c1 := eq_true c
      rw [if_pos c] at ws
      obtain ⟨g2, r1, r2⟩ := ih (k + 1) P g y4 (by omega) E H hP ws
      refine ⟨g2, ?_, r2⟩
      have w1 := px_w_s (show k < 1000000 by omega)
      rw [eq_Mod_lets_52]
      simp only [px_rd_mk, px_wr_mk, Int.reduceToNat, Int.toNat_natCast, if_true, if_false, Option.bind_some, px_up_cell, px_up_slot, px_up_eq, ne_eq, Nat.reduceEqDiff, not_false_eq_true, Int.reduceEq, Int.reduceLT, Int.reduceLE, Int.reduceNeg, decide_true, decide_false, Bool.and_true, Bool.true_and, Bool.and_false, Bool.false_and, and_self, and_true, true_and, and_false, false_and, bi_T, bi_F, not_true_eq_false, Bool.false_eq_true, kg_123, ka_151, H.1, hlt, ir_123_0 I, ir_123_12 I, ir_123_13 I, ir_123_14 I, ir_123_15 I, ir_123_16 I, ir_123_17 I, ir_123_18 I, ir_123_19 I, ir_123_20 I, ir_123_21 I, ir_123_30 I, ir_123_31 I, ir_123_32 I, ir_123_33 I, ir_123_34 I, ir_123_35 I, ir_123_36 I, ir_123_37 I, ir_123_38 I, ir_123_39 I, ir_123_41 I, ir_123_42 I, ir_123_44 I, ir_123_45 I, ir_123_46 I, ir_123_50 I, ir_123_54 I, ir_123_55 I, ir_123_56 I, ir_123_57 I, ir_123_58 I, ir_123_59 I, ir_123_60 I, ir_123_61 I, ir_123_62 I, gk, f0, c1, w1]
      exact r1
    · have c1 := eq_false c
      rw [if_neg c] at ws
      have b1 := (hF.2.2.1 k hkL).1
      have wr := wkF_rng hF known hkL M (Nat.le_refl _)
      have W6 := E.1
      obtain ⟨wd, hwd⟩ := Int.eq_ofNat_of_zero_le b1.1
      obtain ⟨a, ha⟩ := Int.eq_ofNat_of_zero_le wr.1
      have wdW : wd < W := by omega
      have w6 : wd < 6 := by omega
      have a6 : a < 6 := by omega
      have f1 := f1.trans hwd
      have T64 := all_lt W6
      have inA := (fx_all ⟨W, by omega⟩).2 ⟨wd, w6⟩ wdW
      simp only at inA
      have aw := R_mallWords I E.2.2.2.1 W6
      obtain ⟨g1, e1, F1, V1⟩ := R_listen E (T := 2 ^ W - 1) (a := wd) (by omega) wdW wdW inA
      have E1 : MC W N L g1 := MC_F E F1 (by decide) rfl
      have H1 : BM b Lc M g1 := BM_F H F1 rfl
      have I1 := E1.2.2.1
      have P1 : PD (g1 157) BT 30 P := fun i hi => (F1 157 i rfl).trans (hP i hi)
      have tr := tkS_rng E.2.1 L (2 ^ W - 1) wd a (W := W)
      have yv : wyV W N L b known M k = (tkS W N L (2 ^ W - 1) wd a).toNat := by
        unfold wyV
        rw [hwd, ha]
        rfl
      have ye : tkS W N L (2 ^ W - 1) wd a = (wyV W N L b known M k : Int) := by
        rw [yv]
        omega
      have yl : wyV W N L b known M k ≤ 65536 := by omega
      have ra := ((V1 a a6).trans (tk_w E.2.1 _ _ _ _)).trans ye
      have ga : (decide ((0 : Int) ≤ (a : Int)) && decide ((a : Int) < 6)) = true := gd_ok (by omega)
      have wk := R_wkM I1 H1 M20 known (show k < 20 by omega)
      rw [ha] at wk
      have wk : px_R (mm_Mod_wroteAt, 0, [(2, 123), (0, (k : Int)), (0, known), (9, 0), (9, 0)], [], (K0, g1)) = some ((a : Int), (K0, g1)) := wk
      by_cases z : wyV W N L b known M k = 0
      · have z1 : ((wyV W N L b known M k : Int) = 0) = True := eq_true (by rw [z]; rfl)
        rw [if_pos z] at ws
        have wn := wgF_none ws (r := r)
        rw [show k + 1 + r = Lc by omega] at wn
        refine ⟨g1, ?_, Fr_sub F1 rfl rfl, fun Q hQ => ?_⟩
        · rw [wn, eq_Mod_lets_52]
          simp only [px_rd_mk, px_wr_mk, Int.reduceToNat, Int.toNat_natCast, if_true, if_false, Option.bind_some, px_up_cell, px_up_slot, px_up_eq, ne_eq, Nat.reduceEqDiff, not_false_eq_true, Int.reduceEq, Int.reduceLT, Int.reduceLE, Int.reduceNeg, decide_true, decide_false, Bool.and_true, Bool.true_and, Bool.and_false, Bool.false_and, and_self, and_true, true_and, and_false, false_and, bi_T, bi_F, not_true_eq_false, Bool.false_eq_true, kg_123, ka_151, ka_152, ka_139, H.1, hlt, ir_123_0 I, ir_123_12 I, ir_123_13 I, ir_123_14 I, ir_123_15 I, ir_123_16 I, ir_123_17 I, ir_123_18 I, ir_123_19 I, ir_123_20 I, ir_123_21 I, ir_123_30 I, ir_123_31 I, ir_123_32 I, ir_123_33 I, ir_123_34 I, ir_123_35 I, ir_123_36 I, ir_123_37 I, ir_123_38 I, ir_123_39 I, ir_123_41 I, ir_123_42 I, ir_123_44 I, ir_123_45 I, ir_123_46 I, ir_123_50 I, ir_123_54 I, ir_123_55 I, ir_123_56 I, ir_123_57 I, ir_123_58 I, ir_123_59 I, ir_123_60 I, ir_123_61 I, ir_123_62 I, gk, f0, c1, aw, f1, e1, wk, ir_123_0 I1, ir_123_12 I1, ir_123_13 I1, ir_123_14 I1, ir_123_15 I1, ir_123_16 I1, ir_123_17 I1, ir_123_18 I1, ir_123_19 I1, ir_123_20 I1, ir_123_21 I1, ir_123_30 I1, ir_123_31 I1, ir_123_32 I1, ir_123_33 I1, ir_123_34 I1, ir_123_35 I1, ir_123_36 I1, ir_123_37 I1, ir_123_38 I1, ir_123_39 I1, ir_123_41 I1, ir_123_42 I1, ir_123_44 I1, ir_123_45 I1, ir_123_46 I1, ir_123_50 I1, ir_123_54 I1, ir_123_55 I1, ir_123_56 I1, ir_123_57 I1, ir_123_58 I1, ir_123_59 I1, ir_123_60 I1, ir_123_61 I1, ir_123_62 I1, ga, ra, z1]
          rfl
        · rw [wn] at hQ
          cases hQ
      · have z1 : ((wyV W N L b known M k : Int) = 0) = False := eq_false (fun q => z (Int.ofNat.inj q))
        rw [if_neg z] at ws
        obtain ⟨g2, r1, r2, r3⟩ := R_timesM I1 yl P1
        have E2 : MC W N L g2 := MC_F E1 r2 (by decide) rfl
        have H2 : BM b Lc M g2 := BM_F H1 r2 rfl
        obtain ⟨g3, s1, s2, s3⟩ := ih (k + 1) (P * wyV W N L b known M k) g2 (0, (wyV W N L b known M k : Int)) (by omega) E2 H2 r3 ws
        refine ⟨g3, ?_, Fr_sub (Fr_tr (Fr_tr F1 r2) s2) rfl rfl, s3⟩
        have w1 := px_w_s (show k < 1000000 by omega)
        rw [eq_Mod_lets_52]
        simp only [px_rd_mk, px_wr_mk, Int.reduceToNat, Int.toNat_natCast, if_true, if_false, Option.bind_some, px_up_cell, px_up_slot, px_up_eq, ne_eq, Nat.reduceEqDiff, not_false_eq_true, Int.reduceEq, Int.reduceLT, Int.reduceLE, Int.reduceNeg, decide_true, decide_false, Bool.and_true, Bool.true_and, Bool.and_false, Bool.false_and, and_self, and_true, true_and, and_false, false_and, bi_T, bi_F, not_true_eq_false, Bool.false_eq_true, kg_123, ka_151, ka_152, ka_139, H.1, hlt, ir_123_0 I, ir_123_12 I, ir_123_13 I, ir_123_14 I, ir_123_15 I, ir_123_16 I, ir_123_17 I, ir_123_18 I, ir_123_19 I, ir_123_20 I, ir_123_21 I, ir_123_30 I, ir_123_31 I, ir_123_32 I, ir_123_33 I, ir_123_34 I, ir_123_35 I, ir_123_36 I, ir_123_37 I, ir_123_38 I, ir_123_39 I, ir_123_41 I, ir_123_42 I, ir_123_44 I, ir_123_45 I, ir_123_46 I, ir_123_50 I, ir_123_54 I, ir_123_55 I, ir_123_56 I, ir_123_57 I, ir_123_58 I, ir_123_59 I, ir_123_60 I, ir_123_61 I, ir_123_62 I, gk, f0, c1, aw, f1, e1, wk, ir_123_0 I1, ir_123_12 I1, ir_123_13 I1, ir_123_14 I1, ir_123_15 I1, ir_123_16 I1, ir_123_17 I1, ir_123_18 I1, ir_123_19 I1, ir_123_20 I1, ir_123_21 I1, ir_123_30 I1, ir_123_31 I1, ir_123_32 I1, ir_123_33 I1, ir_123_34 I1, ir_123_35 I1, ir_123_36 I1, ir_123_37 I1, ir_123_38 I1, ir_123_39 I1, ir_123_41 I1, ir_123_42 I1, ir_123_44 I1, ir_123_45 I1, ir_123_46 I1, ir_123_50 I1, ir_123_54 I1, ir_123_55 I1, ir_123_56 I1, ir_123_57 I1, ir_123_58 I1, ir_123_59 I1, ir_123_60 I1, ir_123_61 I1, ir_123_62 I1, ga, ra, z1, r1, w1]
        exact s1
