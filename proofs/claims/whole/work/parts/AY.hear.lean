/-! The class's ear: what it hears. -/
def dcs : List Nat := [66, 91, 92, 93, 94, 95, 96]
def DC (D : Nat) : Prop := D = 66 ∨ (91 ≤ D ∧ D < 97)
theorem kdD {D : Nat} (hD : DC D) (h : hp) : px_kd (K0, h) (D : Int) = (0, 6) := by
  have q : D = 66 ∨ D = 91 ∨ D = 92 ∨ D = 93 ∨ D = 94 ∨ D = 95 ∨ D = 96 := by unfold DC at hD; omega
  rcases q with rfl | rfl | rfl | rfl | rfl | rfl | rfl <;> rfl
theorem kaD {D : Nat} (hD : DC D) (h : hp) (i : Int) : px_ga (K0, h) 0 (D : Int) i = (decide (0 ≤ i) && decide (i < 6)) := by
  have q : D = 66 ∨ D = 91 ∨ D = 92 ∨ D = 93 ∨ D = 94 ∨ D = 95 ∨ D = 96 := by unfold DC at hD; omega
  rcases q with rfl | rfl | rfl | rfl | rfl | rfl | rfl <;> rfl
theorem fmD {D : Nat} (hD : DC D) (i : Nat) : fin dcs [] D i = true := by
  have q : D = 66 ∨ D = 91 ∨ D = 92 ∨ D = 93 ∨ D = 94 ∨ D = 95 ∨ D = 96 := by unfold DC at hD; omega
  rcases q with rfl | rfl | rfl | rfl | rfl | rfl | rfl <;> rfl
theorem px_w_2 (a b : Int) : px_w (px_w a + b) = px_w (a + b) := by
  unfold px_w
  rw [Int.bmod_add_bmod]
/-- what stands spread -/
def HX (s : Nat → Nat) (o wt : Nat → Nat → Int) (h : hp) : Prop := ∀ b, b < 4 → h 68 b = (s b : Int) ∧ s b ≤ 7 ∧ ∀ i, i < s b → (h (75 + b) i = wt b i ∧ 0 ≤ wt b i ∧ wt b i ≤ 16) ∧ (h (70 + b) i = o b i ∧ 0 ≤ o b i ∧ o b i < 1152921504606846976)
theorem HX_F {s : Nat → Nat} {o wt : Nat → Nat → Int} {h g : hp} (H : HX s o wt h) (F : Fr dcs [] h g) : HX s o wt g := fun b hb => by
  rw [F 68 b rfl, Fr_cell F 67 79 rfl (show 67 ≤ 75 + b by omega) (by omega), Fr_cell F 67 79 rfl (show 67 ≤ 70 + b by omega) (by omega)]
  exact H b hb
def nvV (m : Nat) (t : Nat → Nat) (x : Int) : Nat := t (am (fld x) m)
theorem nvV_lt {W N : Nat} {L : Nat → Nat → Int} {m : Nat} {t : Nat → Nat} {h : hp} (H : TC W N L m t h) (x : Int) : nvV m t x < W := (H.2.2.2 _ (am_ok (fld x) m H.2.2.1.1).1).2
theorem hr_inner {W N : Nat} {L : Nat → Nat → Int} {m : Nat} {t : Nat → Nat} {s : Nat → Nat} {o wt : Nat → Nat → Int} {h : hp} (H : TC W N L m t h) (X : HX s o wt h) {D : Nat} (hD : DC D) (x1 x3 x5 : Int) {x6 x8 : Int} (h6 : 0 ≤ x6 ∧ x6 < 4611686018427387904) (h8 : 0 ≤ x8 ∧ x8 ≤ 4096) (S : Nat → Int) (hS : ∀ w, w < 6 → h D w = px_w (S w)) (y10 : pv) : ∃ (g : hp) (z10 : pv), px_R (mm_Ear_hearRest, 43, [(2, 51), (1, x1), (9, 0), (0, x3), (2, (D : Int)), (0, x5), (1, x6), (9, 0), (0, x8), (0, 0), y10], [], (K0, h)) = px_R (mm_Ear_hearRest, 3, [(2, 51), (1, x1), (9, 0), (0, x3), (2, (D : Int)), (0, px_w (x5 + 1)), (1, x6), (9, 0), (0, x8), (0, (s 3 : Int)), z10], [], (K0, g)) ∧ (Fr dcs [] h g ∧ ∀ c, c ≠ D → g c = h c) ∧ ∀ w, w < 6 → g D w = px_w (S w + sm (s 3) fun l => if nvV m t (x6 + o 3 l) = w then x8 * wt 3 l else 0) := by
  have hW := H.1.1
  have hI := H.1.2.2.1
  have lp := px_lp (fun z : List pv × hp => px_R (mm_Ear_hearRest, 43, z.1, [], (K0, z.2))) (fun l z => (∃ y10 : pv, z.1 = [(2, 51), (1, x1), (9, 0), (0, x3), (2, (D : Int)), (0, x5), (1, x6), (9, 0), (0, x8), (0, (l : Int)), y10]) ∧ (Fr dcs [] h z.2 ∧ ∀ c, c ≠ D → z.2 c = h c) ∧ ∀ w, w < 6 → z.2 D w = px_w (S w + sm l fun l => if nvV m t (x6 + o 3 l) = w then x8 * wt 3 l else 0)) (s 3) (by
    rintro l ⟨ls, g⟩ hl ⟨⟨y10, e1⟩, ⟨F, Fc⟩, V⟩
    simp only at e1 F Fc V
    subst e1
    have Hg := TC_F H F (by decide) rfl rfl
    have Xg := HX_F X F
    have Ig := Hg.1.2.2.1
    obtain ⟨q1, q2, q3⟩ := Xg 3 (by decide)
    obtain ⟨⟨q4, q5, q6⟩, q7, q8, q9⟩ := q3 l hl
    have q4 : g 78 l = wt 3 l := q4
    have q7 : g 73 l = o 3 l := q7
    have hlt : ((l : Int) < (s 3 : Int)) = True := eq_true (by omega)
    have gl : (decide ((0 : Int) ≤ (l : Int)) && decide ((l : Int) < 7)) = true := gd_ok (by omega)
    have v1 : -9223372036854775808 ≤ x6 + o 3 l ∧ x6 + o 3 l < 9223372036854775808 := by omega
    have nr := R_nearest Hg (off := x6 + o 3 l) (by omega)
    have nw := nvV_lt Hg (x6 + o 3 l)
    have nr : px_R (mm_Ear_nearest, 0, [(2, 51), (1, x6 + o 3 l), (9, 0), (9, 0), (9, 0), (9, 0), (9, 0), (9, 0), (9, 0)], [], (K0, g)) = some (((nvV m t (x6 + o 3 l) : Nat) : Int), (K0, g)) := nr
    have nm := V (nvV m t (x6 + o 3 l)) (by omega)
    have p1 : 0 ≤ x8 * wt 3 l := Int.mul_nonneg h8.1 q5
    have p2 : x8 * wt 3 l ≤ 4096 * 16 := Int.le_trans (Int.mul_le_mul_of_nonneg_right h8.2 q5) (Int.mul_le_mul_of_nonneg_left q6 (by decide))
    have v2 : -2147483648 ≤ x8 * wt 3 l ∧ x8 * wt 3 l < 2147483648 := by omega
    have n6 : ((((nvV m t (x6 + o 3 l) : Nat) : Int)) < ((6 : Nat) : Int)) = True := eq_true (by omega)
    have gn : (decide ((0 : Int) ≤ ((nvV m t (x6 + o 3 l) : Nat) : Int)) && decide (((nvV m t (x6 + o 3 l) : Nat) : Int) < 6)) = true := gd_ok (by omega)
    have bl : Nat.ble 0 6 = true := rfl
    refine ⟨([(2, 51), (1, x1), (9, 0), (0, x3), (2, (D : Int)), (0, x5), (1, x6), (9, 0), (0, x8), (0, ((l + 1 : Nat) : Int)), (0, ((nvV m t (x6 + o 3 l) : Nat) : Int))], px_up g D (nvV m t (x6 + o 3 l)) (px_w (S (nvV m t (x6 + o 3 l)) + (sm l (fun l' => if nvV m t (x6 + o 3 l') = nvV m t (x6 + o 3 l) then x8 * wt 3 l' else 0)) + x8 * wt 3 l))), ?_, ⟨_, rfl⟩, ⟨Fr_up F _ (fmD hD _), fun c hc => ?_⟩, fun w hw => ?_⟩
    · show px_R (mm_Ear_hearRest, 43, _, [], (K0, g)) = _
      rw [eq_Ear_hearRest_43]
      simp only [px_rd_mk, px_wr_mk, Int.reduceToNat, Int.toNat_natCast, if_true, if_false, Option.bind_some, px_up_cell, px_up_slot, px_up_eq, ne_eq, Nat.reduceEqDiff, not_false_eq_true, Int.reduceEq, Int.reduceLT, Int.reduceLE, Int.reduceNeg, decide_true, decide_false, Bool.and_true, Bool.true_and, Bool.and_false, Bool.false_and, and_self, and_true, true_and, and_false, false_and, bi_T, bi_F, not_true_eq_false, Bool.false_eq_true, kg_51, ka_68, ka_69, ka_73, ka_74, ka_78, ir_51_2 Ig, ir_51_3 Ig, ir_51_4 Ig, ir_51_6 Ig, ir_51_7 Ig, ir_51_8 Ig, ir_51_9 Ig, ir_69_0 Ig, ir_69_1 Ig, ir_69_2 Ig, ir_69_3 Ig, ir_74_0 Ig, ir_74_1 Ig, ir_74_2 Ig, ir_74_3 Ig, q1, hlt, gl, q4, q7, Bool.or_true, Bool.true_or, px_wl_n v1, nr, kdD hD, kaD hD, bl, n6, gn, nm, px_w_n v2, px_w_2, px_w_s (show l < 1000000 by omega)]
    · funext x
      show px_up g D _ _ c x = _
      rw [px_up_cell _ _ _ _ hc, Fc c hc]
    · show px_up g D _ _ D w = _
      rw [px_up_at, sm]
      by_cases e : w = nvV m t (x6 + o 3 l)
      · rw [if_pos e, ← e, if_pos rfl, Int.add_assoc]
      · rw [if_neg e, if_neg (fun q => e q.symm), Int.add_zero]
        exact V w hw) (s 3) 0
  obtain ⟨⟨ls, g⟩, f1, ⟨z10, f2⟩, F, V⟩ := lp ([(2, 51), (1, x1), (9, 0), (0, x3), (2, (D : Int)), (0, x5), (1, x6), (9, 0), (0, x8), (0, 0), y10], h) (Nat.zero_add _) ⟨⟨y10, rfl⟩, ⟨Fr_rf _ _ _, fun c _ => rfl⟩, fun w hw => by rw [sm, Int.add_zero]; exact hS w hw⟩
  simp only at f1 f2 F V
  subst f2
  refine ⟨g, z10, ?_, F, V⟩
  have Hg := TC_F H F.1 (by decide) rfl rfl
  have Xg := HX_F X F.1
  have Ig := Hg.1.2.2.1
  obtain ⟨q1, q2, q3⟩ := Xg 3 (by decide)
  have hlt : ((s 3 : Int) < (s 3 : Int)) = False := eq_false (by omega)
  rw [f1, eq_Ear_hearRest_43]
  simp only [px_rd_mk, px_wr_mk, Int.reduceToNat, Int.toNat_natCast, if_true, if_false, Option.bind_some, px_up_cell, px_up_slot, px_up_eq, ne_eq, Nat.reduceEqDiff, not_false_eq_true, Int.reduceEq, Int.reduceLT, Int.reduceLE, Int.reduceNeg, decide_true, decide_false, Bool.and_true, Bool.true_and, Bool.and_false, Bool.false_and, and_self, and_true, true_and, and_false, false_and, bi_T, bi_F, not_true_eq_false, Bool.false_eq_true, kg_51, ka_68, ir_51_2 Ig, ir_51_3 Ig, ir_51_4 Ig, ir_51_6 Ig, ir_51_7 Ig, ir_51_8 Ig, ir_51_9 Ig, q1, hlt]
theorem R_hearRest {W N : Nat} {L : Nat → Nat → Int} {m : Nat} {t : Nat → Nat} {s : Nat → Nat} {o wt : Nat → Nat → Int} {h : hp} (H : TC W N L m t h) (X : HX s o wt h) {D : Nat} (hD : DC D) {x1 x3 : Int} (h1 : 0 ≤ x1 ∧ x1 < 2305843009213693952) (h3 : 0 ≤ x3 ∧ x3 ≤ 256) (S : Nat → Int) (hS : ∀ w, w < 6 → h D w = px_w (S w)) : ∃ g : hp, px_R (mm_Ear_hearRest, 0, [(2, 51), (1, x1), (9, 0), (0, x3), (2, (D : Int)), (9, 0), (9, 0), (9, 0), (9, 0), (9, 0), (9, 0)], [], (K0, h)) = some (0, (K0, g)) ∧ (Fr dcs [] h g ∧ ∀ c, c ≠ D → g c = h c) ∧ ∀ w, w < 6 → g D w = px_w (S w + sm (s 2) fun k => sm (s 3) fun l => if nvV m t (x1 + o 2 k + o 3 l) = w then x3 * wt 2 k * wt 3 l else 0) := by
  have hW := H.1.1
  have lp := px_lp (fun z : List pv × hp => px_R (mm_Ear_hearRest, 3, z.1, [], (K0, z.2))) (fun k z => (∃ y6 y8 y9 y10 : pv, z.1 = [(2, 51), (1, x1), (9, 0), (0, x3), (2, (D : Int)), (0, (k : Int)), y6, (9, 0), y8, y9, y10]) ∧ (Fr dcs [] h z.2 ∧ ∀ c, c ≠ D → z.2 c = h c) ∧ ∀ w, w < 6 → z.2 D w = px_w (S w + sm k fun k => sm (s 3) fun l => if nvV m t (x1 + o 2 k + o 3 l) = w then x3 * wt 2 k * wt 3 l else 0)) (s 2) (by
    rintro k ⟨ls, g⟩ hk ⟨⟨y6, y8, y9, y10, e1⟩, ⟨F, Fc⟩, V⟩
    simp only at e1 F Fc V
    subst e1
    have Hg := TC_F H F (by decide) rfl rfl
    have Xg := HX_F X F
    have Ig := Hg.1.2.2.1
    obtain ⟨q1, q2, q3⟩ := Xg 2 (by decide)
    obtain ⟨⟨q4, q5, q6⟩, q7, q8, q9⟩ := q3 k hk
    have q4 : g 77 k = wt 2 k := q4
    have q7 : g 72 k = o 2 k := q7
    have hlt : ((k : Int) < (s 2 : Int)) = True := eq_true (by omega)
    have gl : (decide ((0 : Int) ≤ (k : Int)) && decide ((k : Int) < 7)) = true := gd_ok (by omega)
    have v1 : -9223372036854775808 ≤ x1 + o 2 k ∧ x1 + o 2 k < 9223372036854775808 := by omega
    have p1 : 0 ≤ x3 * wt 2 k := Int.mul_nonneg h3.1 q5
    have p2 : x3 * wt 2 k ≤ 256 * 16 := Int.le_trans (Int.mul_le_mul_of_nonneg_right h3.2 q5) (Int.mul_le_mul_of_nonneg_left q6 (by decide))
    have v2 : -2147483648 ≤ x3 * wt 2 k ∧ x3 * wt 2 k < 2147483648 := by omega
    obtain ⟨j, z10, j1, ⟨j2, j2c⟩, j3⟩ := hr_inner Hg Xg hD x1 x3 (k : Int) (x6 := x1 + o 2 k) (x8 := x3 * wt 2 k) (by omega) (by omega) _ V y10
    rw [px_w_s (show k < 1000000 by omega)] at j1
    refine ⟨([(2, 51), (1, x1), (9, 0), (0, x3), (2, (D : Int)), (0, ((k + 1 : Nat) : Int)), (1, x1 + o 2 k), (9, 0), (0, x3 * wt 2 k), (0, (s 3 : Int)), z10], j), ?_, ⟨_, _, _, _, rfl⟩, ⟨Fr_tr2 F j2, fun c hc => (j2c c hc).trans (Fc c hc)⟩, fun w hw => ?_⟩
    · show px_R (mm_Ear_hearRest, 3, _, [], (K0, g)) = _
      rw [eq_Ear_hearRest_3]
      simp only [px_rd_mk, px_wr_mk, Int.reduceToNat, Int.toNat_natCast, if_true, if_false, Option.bind_some, px_up_cell, px_up_slot, px_up_eq, ne_eq, Nat.reduceEqDiff, not_false_eq_true, Int.reduceEq, Int.reduceLT, Int.reduceLE, Int.reduceNeg, decide_true, decide_false, Bool.and_true, Bool.true_and, Bool.and_false, Bool.false_and, and_self, and_true, true_and, and_false, false_and, bi_T, bi_F, not_true_eq_false, Bool.false_eq_true, kg_51, ka_68, ka_69, ka_72, ka_74, ka_77, ir_51_2 Ig, ir_51_3 Ig, ir_51_4 Ig, ir_51_6 Ig, ir_51_7 Ig, ir_51_8 Ig, ir_51_9 Ig, ir_69_0 Ig, ir_69_1 Ig, ir_69_2 Ig, ir_69_3 Ig, ir_74_0 Ig, ir_74_1 Ig, ir_74_2 Ig, ir_74_3 Ig, q1, hlt, gl, q4, q7, Bool.or_true, Bool.true_or, px_wl_n v1, px_w_n v2]
      exact j1
    · show j D w = _
      rw [j3 w hw, sm, Int.add_assoc]) (s 2) 0
  obtain ⟨⟨ls, g⟩, f1, ⟨y6, y8, y9, y10, f2⟩, F, V⟩ := lp ([(2, 51), (1, x1), (9, 0), (0, x3), (2, (D : Int)), (0, 0), (9, 0), (9, 0), (9, 0), (9, 0), (9, 0)], h) (Nat.zero_add _) ⟨⟨_, _, _, _, rfl⟩, ⟨Fr_rf _ _ _, fun c _ => rfl⟩, fun w hw => by rw [sm, Int.add_zero]; exact hS w hw⟩
  simp only at f1 f2 F V
  subst f2
  refine ⟨g, ?_, F, V⟩
  have Hg := TC_F H F.1 (by decide) rfl rfl
  have Xg := HX_F X F.1
  have Ig := Hg.1.2.2.1
  obtain ⟨q1, q2, q3⟩ := Xg 2 (by decide)
  have hlt : ((s 2 : Int) < (s 2 : Int)) = False := eq_false (by omega)
  rw [eq_Ear_hearRest_0, f1, eq_Ear_hearRest_3]
  simp only [px_rd_mk, px_wr_mk, Int.reduceToNat, Int.toNat_natCast, if_true, if_false, Option.bind_some, px_up_cell, px_up_slot, px_up_eq, ne_eq, Nat.reduceEqDiff, not_false_eq_true, Int.reduceEq, Int.reduceLT, Int.reduceLE, Int.reduceNeg, decide_true, decide_false, Bool.and_true, Bool.true_and, Bool.and_false, Bool.false_and, and_self, and_true, true_and, and_false, false_and, bi_T, bi_F, not_true_eq_false, Bool.false_eq_true, kg_51, ka_68, ir_51_2 Ig, ir_51_3 Ig, ir_51_4 Ig, ir_51_6 Ig, ir_51_7 Ig, ir_51_8 Ig, ir_51_9 Ig, q1, hlt]
