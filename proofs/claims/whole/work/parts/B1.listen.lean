/-! The reference's ear. -/
def MC (W N : Nat) (L : Nat → Nat → Int) (h : hp) : Prop := W ≤ 6 ∧ N ≤ 3 ∧ IR h ∧ h 125 2 = (W : Int) ∧ h 125 8 = (N : Int) ∧ ∀ w b : Nat, w < W → b < 4 → h 137 (4 * w + b) = L w b ∧ 0 ≤ L w b ∧ L w b ≤ 9
theorem MC_F {W N : Nat} {L : Nat → Nat → Int} {h g : hp} {cs : List Nat} {ss : List (Nat × Nat)} (H : MC W N L h) (F : Fr cs ss h g) (e1 : (rl.all fun q => !(fin cs ss q.1 q.2.1)) = true) (e2 : fdj cs ss [125, 137] [] = true) : MC W N L g := by
  have c := Fr_dj F e2
  obtain ⟨h1, h2, h3, h4, h5, h6⟩ := H
  exact ⟨h1, h2, IR_Fr h3 F e1, (c 125 2 rfl).trans h4, (c 125 8 rfl).trans h5, fun w b hw hb => by rw [c 137 _ rfl]; exact h6 w b hw hb⟩
def ds (L : Nat → Nat → Int) (r : Nat → Int) (w : Nat) : Nat → Int
  | 0 => 0
  | b + 1 => ds L r w b + ((L w b - r b).natAbs : Int)
theorem ds_dst (L : Nat → Nat → Int) (r : Nat → Int) (w : Nat) : ds L r w 4 = dst L r w := by
  show 0 + _ + _ + _ + _ = _
  unfold dst
  generalize ((L w 0 - r 0).natAbs : Int) = a0
  generalize ((L w 1 - r 1).natAbs : Int) = a1
  generalize ((L w 2 - r 2).natAbs : Int) = a2
  generalize ((L w 3 - r 3).natAbs : Int) = a3
  omega
theorem mear_inner {W N : Nat} {L : Nat → Nat → Int} {r : Nat → Int} {h : hp} (M : MC W N L h) (hr : ∀ b, b < 4 → h 138 b = r b ∧ 0 ≤ r b ∧ r b ≤ 9) {w : Nat} (hw : w < W) (x1 x2 x3 : Int) (k : Nat) : ∀ b : Nat, b + k = 4 → (0 ≤ ds L r w b ∧ ds L r w b ≤ 9 * (b : Int)) → px_R (mm_Mod_ear, 36, [(2, 123), (0, x1), (0, x2), (0, x3), (0, (w : Int)), (0, ds L r w b), (0, (b : Int))], [], (K0, h)) = px_R (mm_Mod_ear, 7, [(2, 123), (0, x1), (0, if x2 = -1 ∨ ds L r w 4 < x3 then (w : Int) else x2), (0, if x2 = -1 ∨ ds L r w 4 < x3 then ds L r w 4 else x3), (0, ((w + 1 : Nat) : Int)), (0, ds L r w 4), (0, 4)], [], (K0, h)) := by
  obtain ⟨hW, hN, hI, e1, e2, e3⟩ := M
  induction k with
  | zero =>
    intro b hb _
    have : b = 4 := hb
    subst this
    rw [eq_Mod_ear_36, if_neg (by decide), px_w_s (by omega)]
    by_cases c1 : x2 = -1
    · rw [if_pos c1, if_pos (Or.inl c1), if_pos (Or.inl c1)]
      rfl
    · rw [if_neg c1]
      by_cases c2 : ds L r w 4 < x3
      · rw [if_pos c2, if_pos (Or.inr c2), if_pos (Or.inr c2)]
        rfl
      · rw [if_neg c2, if_neg (by omega), if_neg (by omega)]
        rfl
  | succ k ih =>
    intro b hb hd
    have hb4 : b < 4 := by omega
    have hlt : ((b : Int) < 4) = True := eq_true (by omega)
    have l := e3 w b hw hb4
    have q := hr b hb4
    have u1 : -2147483648 ≤ 4 * (w : Int) ∧ 4 * (w : Int) < 2147483648 := by omega
    have u3 : -2147483648 ≤ ((4 * w : Nat) : Int) + (b : Int) ∧ ((4 * w : Nat) : Int) + (b : Int) < 2147483648 := by omega
    have v1 : 4 * (w : Int) = ((4 * w : Nat) : Int) := by omega
    have v3 : ((4 * w : Nat) : Int) + (b : Int) = ((4 * w + b : Nat) : Int) := by omega
    have g4 : (decide ((0 : Int) ≤ ((4 * w + b : Nat) : Int)) && decide (((4 * w + b : Nat) : Int) < 24)) = true := gd_ok (by omega)
    have gb : (decide ((0 : Int) ≤ (b : Int)) && decide (True)) = true := by simp
    have u4 : -2147483648 ≤ L w b - r b ∧ L w b - r b < 2147483648 := by omega
    have pl := R_Mod_plain (a := L w b - r b) (by omega) (by omega) (K0, h)
    have na : ((L w b - r b).natAbs : Int) ≤ 9 := by omega
    have es : ds L r w b + ((L w b - r b).natAbs : Int) = ds L r w (b + 1) := rfl
    have i1 := ih (b + 1) (by omega) (by rw [← es]; omega)
    have u5 : -2147483648 ≤ ds L r w b + ((L w b - r b).natAbs : Int) ∧ ds L r w b + ((L w b - r b).natAbs : Int) < 2147483648 := by omega
    rw [eq_Mod_ear_36]
    simp only [px_rd_mk, px_wr_mk, Int.reduceToNat, Int.toNat_natCast, if_true, if_false, Option.bind_some, px_up_cell, px_up_slot, px_up_eq, ne_eq, Nat.reduceEqDiff, not_false_eq_true, Int.reduceEq, Int.reduceLT, Int.reduceLE, Int.reduceNeg, decide_true, decide_false, Bool.and_true, Bool.true_and, Bool.and_false, Bool.false_and, and_self, and_true, true_and, and_false, false_and, bi_T, bi_F, not_true_eq_false, Bool.false_eq_true, kg_123, ka_137, ka_138, ir_123_0 hI, ir_123_12 hI, ir_123_13 hI, ir_123_14 hI, ir_123_15 hI, ir_123_16 hI, ir_123_17 hI, ir_123_18 hI, ir_123_19 hI, ir_123_20 hI, ir_123_21 hI, ir_123_30 hI, ir_123_31 hI, ir_123_32 hI, ir_123_33 hI, ir_123_34 hI, ir_123_35 hI, ir_123_36 hI, ir_123_37 hI, ir_123_38 hI, ir_123_39 hI, ir_123_41 hI, ir_123_42 hI, ir_123_44 hI, ir_123_45 hI, ir_123_46 hI, ir_123_50 hI, ir_123_54 hI, ir_123_55 hI, ir_123_56 hI, ir_123_57 hI, ir_123_58 hI, ir_123_59 hI, ir_123_60 hI, ir_123_61 hI, ir_123_62 hI, hlt, (px_w_n u1).trans v1, (px_w_n u3).trans v3, g4, gb, l.1, q.1, px_w_n u4, pl, (px_w_n u5).trans es, px_w_s (show b < 1000000 by omega)]
    exact i1
theorem dst_rng {W N : Nat} {L : Nat → Nat → Int} {r : Nat → Int} {h : hp} (M : MC W N L h) (hr : ∀ b, b < 4 → 0 ≤ r b ∧ r b ≤ 9) {w : Nat} (hw : w < W) : 0 ≤ dst L r w ∧ dst L r w ≤ 36 := by
  have a := fun b (hb : b < 4) => (M.2.2.2.2.2 w b hw hb).2
  have a0 := a 0 (by decide)
  have a1 := a 1 (by decide)
  have a2 := a 2 (by decide)
  have a3 := a 3 (by decide)
  have b0 := hr 0 (by decide)
  have b1 := hr 1 (by decide)
  have b2 := hr 2 (by decide)
  have b3 := hr 3 (by decide)
  have c : ∀ x y : Int, (0 ≤ x ∧ x ≤ 9) → (0 ≤ y ∧ y ≤ 9) → 0 ≤ ((x - y).natAbs : Int) ∧ ((x - y).natAbs : Int) ≤ 9 := fun x y _ _ => by omega
  have d0 := c _ _ a0 b0
  have d1 := c _ _ a1 b1
  have d2 := c _ _ a2 b2
  have d3 := c _ _ a3 b3
  unfold dst
  generalize ((L w 0 - r 0).natAbs : Int) = z0 at *
  generalize ((L w 1 - r 1).natAbs : Int) = z1 at *
  generalize ((L w 2 - r 2).natAbs : Int) = z2 at *
  generalize ((L w 3 - r 3).natAbs : Int) = z3 at *
  omega
theorem mear_loop {W N T : Nat} {L : Nat → Nat → Int} {r : Nat → Int} {h : hp} (M : MC W N L h) (hT : T < 1024) (hr : ∀ b, b < 4 → h 138 b = r b ∧ 0 ≤ r b ∧ r b ≤ 9) (k : Nat) : ∀ i : Nat, i + k = W → ∀ y5 y6 : pv, px_R (mm_Mod_ear, 7, [(2, 123), (0, (T : Int)), (0, (efs T (dst L r) i).1), (0, (efs T (dst L r) i).2), (0, (i : Int)), y5, y6], [], (K0, h)) = some (eaV W T (dst L r), (K0, h)) := by
  have MM := M
  obtain ⟨hW, hN, hI, e1, e2, e3⟩ := M
  induction k with
  | zero =>
    intro i hi y5 y6
    have : i = W := hi
    subst this
    have hlt : ((i : Int) < (i : Int)) = False := eq_false (by omega)
    rw [eq_Mod_ear_7]
    simp only [px_rd_mk, px_wr_mk, Int.reduceToNat, Int.toNat_natCast, if_true, if_false, Option.bind_some, px_up_cell, px_up_slot, px_up_eq, ne_eq, Nat.reduceEqDiff, not_false_eq_true, Int.reduceEq, Int.reduceLT, Int.reduceLE, Int.reduceNeg, decide_true, decide_false, Bool.and_true, Bool.true_and, Bool.and_false, Bool.false_and, and_self, and_true, true_and, and_false, false_and, bi_T, bi_F, not_true_eq_false, Bool.false_eq_true, kg_123, ka_125, ir_123_0 hI, ir_123_12 hI, ir_123_13 hI, ir_123_14 hI, ir_123_15 hI, ir_123_16 hI, ir_123_17 hI, ir_123_18 hI, ir_123_19 hI, ir_123_20 hI, ir_123_21 hI, ir_123_30 hI, ir_123_31 hI, ir_123_32 hI, ir_123_33 hI, ir_123_34 hI, ir_123_35 hI, ir_123_36 hI, ir_123_37 hI, ir_123_38 hI, ir_123_39 hI, ir_123_41 hI, ir_123_42 hI, ir_123_44 hI, ir_123_45 hI, ir_123_46 hI, ir_123_50 hI, ir_123_54 hI, ir_123_55 hI, ir_123_56 hI, ir_123_57 hI, ir_123_58 hI, ir_123_59 hI, ir_123_60 hI, ir_123_61 hI, ir_123_62 hI, e1, hlt]
    rfl
  | succ k ih =>
    intro i hi y5 y6
    have hlt : ((i : Int) < (W : Int)) = True := eq_true (by omega)
    have bg := bit_g hT (show i < 10 by omega)
    have lt2 : T / 2 ^ i % 2 < 2 := Nat.mod_lt _ (by decide)
    by_cases b : T / 2 ^ i % 2 = 1
    · have bt : inS T i = true := by unfold inS; exact decide_eq_true b
      rw [b] at bg
      have bg1 : px_and (px_shr (T : Int) (i : Int)) 1 = 1 := bg
      have inn := mear_inner MM hr (w := i) (by omega) (T : Int) (efs T (dst L r) i).1 (efs T (dst L r) i).2 4 0 rfl ⟨Int.le_refl 0, by show (0 : Int) ≤ 9 * ((0 : Nat) : Int); decide⟩
      have inn : px_R (mm_Mod_ear, 36, [(2, 123), (0, (T : Int)), (0, (efs T (dst L r) i).1), (0, (efs T (dst L r) i).2), (0, (i : Int)), (0, 0), (0, 0)], [], (K0, h)) = _ := inn
      rw [ds_dst] at inn
      have i1 := ih (i + 1) (by omega) (0, dst L r i) (0, 4)
      rw [efs, if_pos bt] at i1
      rw [eq_Mod_ear_7]
      simp only [px_rd_mk, px_wr_mk, Int.reduceToNat, Int.toNat_natCast, if_true, if_false, Option.bind_some, px_up_cell, px_up_slot, px_up_eq, ne_eq, Nat.reduceEqDiff, not_false_eq_true, Int.reduceEq, Int.reduceLT, Int.reduceLE, Int.reduceNeg, decide_true, decide_false, Bool.and_true, Bool.true_and, Bool.and_false, Bool.false_and, and_self, and_true, true_and, and_false, false_and, bi_T, bi_F, not_true_eq_false, Bool.false_eq_true, kg_123, ka_125, ir_123_0 hI, ir_123_12 hI, ir_123_13 hI, ir_123_14 hI, ir_123_15 hI, ir_123_16 hI, ir_123_17 hI, ir_123_18 hI, ir_123_19 hI, ir_123_20 hI, ir_123_21 hI, ir_123_30 hI, ir_123_31 hI, ir_123_32 hI, ir_123_33 hI, ir_123_34 hI, ir_123_35 hI, ir_123_36 hI, ir_123_37 hI, ir_123_38 hI, ir_123_39 hI, ir_123_41 hI, ir_123_42 hI, ir_123_44 hI, ir_123_45 hI, ir_123_46 hI, ir_123_50 hI, ir_123_54 hI, ir_123_55 hI, ir_123_56 hI, ir_123_57 hI, ir_123_58 hI, ir_123_59 hI, ir_123_60 hI, ir_123_61 hI, ir_123_62 hI, e1, hlt, bg1]
      rw [inn]
      by_cases c : (efs T (dst L r) i).1 = -1 ∨ dst L r i < (efs T (dst L r) i).2
      · rw [if_pos c] at i1
        rw [if_pos c, if_pos c]
        exact i1
      · rw [if_neg c] at i1
        rw [if_neg c, if_neg c]
        exact i1
    · have b0 : T / 2 ^ i % 2 = 0 := by omega
      have bt : inS T i = false := by unfold inS; exact decide_eq_false b
      rw [b0] at bg
      have bg1 : px_and (px_shr (T : Int) (i : Int)) 1 = 0 := bg
      have i1 := ih (i + 1) (by omega) y5 y6
      rw [efs, if_neg (by rw [bt]; decide)] at i1
      rw [eq_Mod_ear_7]
      simp only [px_rd_mk, px_wr_mk, Int.reduceToNat, Int.toNat_natCast, if_true, if_false, Option.bind_some, px_up_cell, px_up_slot, px_up_eq, ne_eq, Nat.reduceEqDiff, not_false_eq_true, Int.reduceEq, Int.reduceLT, Int.reduceLE, Int.reduceNeg, decide_true, decide_false, Bool.and_true, Bool.true_and, Bool.and_false, Bool.false_and, and_self, and_true, true_and, and_false, false_and, bi_T, bi_F, not_true_eq_false, Bool.false_eq_true, kg_123, ka_125, ir_123_0 hI, ir_123_12 hI, ir_123_13 hI, ir_123_14 hI, ir_123_15 hI, ir_123_16 hI, ir_123_17 hI, ir_123_18 hI, ir_123_19 hI, ir_123_20 hI, ir_123_21 hI, ir_123_30 hI, ir_123_31 hI, ir_123_32 hI, ir_123_33 hI, ir_123_34 hI, ir_123_35 hI, ir_123_36 hI, ir_123_37 hI, ir_123_38 hI, ir_123_39 hI, ir_123_41 hI, ir_123_42 hI, ir_123_44 hI, ir_123_45 hI, ir_123_46 hI, ir_123_50 hI, ir_123_54 hI, ir_123_55 hI, ir_123_56 hI, ir_123_57 hI, ir_123_58 hI, ir_123_59 hI, ir_123_60 hI, ir_123_61 hI, ir_123_62 hI, e1, hlt, bg1, px_w_s (show i < 1000000 by omega)]
      exact i1
theorem R_mear {W N T : Nat} {L : Nat → Nat → Int} {r : Nat → Int} {h : hp} (M : MC W N L h) (hT : T < 1024) (hr : ∀ b, b < 4 → h 138 b = r b ∧ 0 ≤ r b ∧ r b ≤ 9) : px_R (mm_Mod_ear, 0, [(2, 123), (0, (T : Int)), (9, 0), (9, 0), (9, 0), (9, 0), (9, 0)], [], (K0, h)) = some (eaV W T (dst L r), (K0, h)) := by
  have l := mear_loop M hT hr W 0 (Nat.zero_add W) (9, 0) (9, 0)
  rw [eq_Mod_ear_0]
  exact l
theorem tmod_n (a b : Nat) : Int.tmod (a : Int) (b : Int) = ((a % b : Nat) : Int) := rfl
theorem tdiv_n (a b : Nat) : Int.tdiv (a : Int) (b : Int) = ((a / b : Nat) : Int) := rfl
theorem listen_b {W N : Nat} {L : Nat → Nat → Int} {h : hp} (M : MC W N L h) {a : Nat} (ha : a < W) (x1 x5 : Int) {l b : Nat} (hb : b < 4) (hl : l < 100000) {ways : Int} (hw : 0 ≤ ways ∧ ways ≤ 64) (y9 : pv) : px_R (mm_Mod_listen, 68, [(2, 123), (0, x1), (0, (a : Int)), (0, (N : Int)), (0, ((2 * N + 1 : Nat) : Int)), (0, x5), (0, ways), (0, (l : Int)), (0, (b : Int)), y9], [], (K0, h)) = px_R (mm_Mod_listen, 68, [(2, 123), (0, x1), (0, (a : Int)), (0, (N : Int)), (0, ((2 * N + 1 : Nat) : Int)), (0, x5), (0, ways * wtV N (l % (2 * N + 1))), (0, ((l / (2 * N + 1) : Nat) : Int)), (0, ((b + 1 : Nat) : Int)), (0, ((l % (2 * N + 1) : Nat) : Int) - (N : Int))], [], (K0, px_up h 138 b (clp 0 9 (L a b + (((l % (2 * N + 1) : Nat) : Int) - (N : Int)))))) := by
  obtain ⟨hW, hN, hI, e1, e2, e3⟩ := M
  have hlt : ((b : Int) < 4) = True := eq_true (by omega)
  have ne : (!decide (((2 * N + 1 : Nat) : Int) = 0)) = true := by simp; omega
  have ml : l % (2 * N + 1) < 2 * N + 1 := Nat.mod_lt _ (by omega)
  have dl : l / (2 * N + 1) ≤ l := Nat.div_le_self _ _
  have lv := e3 a b ha hb
  have wr := wtV_rng ml
  have u1 : -2147483648 ≤ 4 * (a : Int) ∧ 4 * (a : Int) < 2147483648 := by omega
  have u3 : -2147483648 ≤ ((4 * a : Nat) : Int) + (b : Int) ∧ ((4 * a : Nat) : Int) + (b : Int) < 2147483648 := by omega
  have v1 : 4 * (a : Int) = ((4 * a : Nat) : Int) := by omega
  have v3 : ((4 * a : Nat) : Int) + (b : Int) = ((4 * a + b : Nat) : Int) := by omega
  have g4 : (((4 * a + b : Nat) : Int) < 24) = True := eq_true (by omega)
  have u4 : -2147483648 ≤ ((l % (2 * N + 1) : Nat) : Int) - (N : Int) ∧ ((l % (2 * N + 1) : Nat) : Int) - (N : Int) < 2147483648 := by omega
  have pl := R_Mod_plain (a := ((l % (2 * N + 1) : Nat) : Int) - (N : Int)) (by omega) (by omega) (K0, h)
  have u5 : -2147483648 ≤ L a b + (((l % (2 * N + 1) : Nat) : Int) - (N : Int)) ∧ L a b + (((l % (2 * N + 1) : Nat) : Int) - (N : Int)) < 2147483648 := by omega
  have u6 : -2147483648 ≤ (N : Int) + 1 ∧ (N : Int) + 1 < 2147483648 := by omega
  have ew : (N : Int) + 1 - ((((l % (2 * N + 1) : Nat) : Int) - (N : Int)).natAbs : Int) = wtV N (l % (2 * N + 1)) := rfl
  have u7 : -2147483648 ≤ (N : Int) + 1 - ((((l % (2 * N + 1) : Nat) : Int) - (N : Int)).natAbs : Int) ∧ (N : Int) + 1 - ((((l % (2 * N + 1) : Nat) : Int) - (N : Int)).natAbs : Int) < 2147483648 := by rw [ew]; omega
  have p1 : 0 ≤ ways * wtV N (l % (2 * N + 1)) := Int.mul_nonneg hw.1 (by omega)
  have p2 : ways * wtV N (l % (2 * N + 1)) ≤ 64 * 4 := Int.le_trans (Int.mul_le_mul_of_nonneg_right hw.2 (by omega)) (Int.mul_le_mul_of_nonneg_left (by omega) (by decide))
  have u8 : -2147483648 ≤ ways * wtV N (l % (2 * N + 1)) ∧ ways * wtV N (l % (2 * N + 1)) < 2147483648 := by omega
  have u9 : -2147483648 ≤ ((l / (2 * N + 1) : Nat) : Int) ∧ ((l / (2 * N + 1) : Nat) : Int) < 2147483648 := ⟨Int.le_trans (by decide) (Int.natCast_nonneg _), Int.lt_of_le_of_lt (Int.ofNat_le.mpr dl) (by omega)⟩
  rw [eq_Mod_listen_68]
  simp only [px_rd_mk, px_wr_mk, Int.reduceToNat, Int.toNat_natCast, if_true, if_false, Option.bind_some, px_up_cell, px_up_slot, px_up_eq, ne_eq, Nat.reduceEqDiff, not_false_eq_true, Int.reduceEq, Int.reduceLT, Int.reduceLE, Int.reduceNeg, decide_true, decide_false, Bool.and_true, Bool.true_and, Bool.and_false, Bool.false_and, and_self, and_true, true_and, and_false, false_and, bi_T, bi_F, not_true_eq_false, Bool.false_eq_true, kg_123, ka_137, ka_138, ir_123_0 hI, ir_123_12 hI, ir_123_13 hI, ir_123_14 hI, ir_123_15 hI, ir_123_16 hI, ir_123_17 hI, ir_123_18 hI, ir_123_19 hI, ir_123_20 hI, ir_123_21 hI, ir_123_30 hI, ir_123_31 hI, ir_123_32 hI, ir_123_33 hI, ir_123_34 hI, ir_123_35 hI, ir_123_36 hI, ir_123_37 hI, ir_123_38 hI, ir_123_39 hI, ir_123_41 hI, ir_123_42 hI, ir_123_44 hI, ir_123_45 hI, ir_123_46 hI, ir_123_50 hI, ir_123_54 hI, ir_123_55 hI, ir_123_56 hI, ir_123_57 hI, ir_123_58 hI, ir_123_59 hI, ir_123_60 hI, ir_123_61 hI, ir_123_62 hI, hlt, ne, tmod_n, tdiv_n, px_w_n u4, pl, (px_w_n u1).trans v1, (px_w_n u3).trans v3, g4, Int.natCast_nonneg, lv.1, px_w_n u5, R_Mod_heard, px_w_n u6, (px_w_n u7).trans ew, px_w_n u8, px_w_n u9, px_w_s (show b < 1000000 by omega)]
theorem wt_rng1 (N l : Nat) (hN : N ≤ 3) : 0 ≤ wtV N (l % (2 * N + 1)) ∧ wtV N (l % (2 * N + 1)) ≤ 4 := by
  have := wtV_rng (N := N) (r := l % (2 * N + 1)) (Nat.mod_lt _ (by omega))
  omega
theorem ways4 {x y c : Int} (hx : 0 ≤ x ∧ x ≤ c) (hy : 0 ≤ y ∧ y ≤ 4) (hc : 0 ≤ c) : 0 ≤ x * y ∧ x * y ≤ c * 4 := ⟨Int.mul_nonneg hx.1 hy.1, Int.le_trans (Int.mul_le_mul_of_nonneg_right hx.2 hy.1) (Int.mul_le_mul_of_nonneg_left hy.2 hc)⟩
def way4 (N c : Nat) : Int := wtV N (c % (2 * N + 1)) * wtV N (c / (2 * N + 1) % (2 * N + 1)) * wtV N (c / (2 * N + 1) / (2 * N + 1) % (2 * N + 1)) * wtV N (c / (2 * N + 1) / (2 * N + 1) / (2 * N + 1) % (2 * N + 1))
def rw4 (L : Nat → Nat → Int) (a N c : Nat) : Nat → Int := rwC L a N (c % (2 * N + 1)) (c / (2 * N + 1) % (2 * N + 1)) (c / (2 * N + 1) / (2 * N + 1) % (2 * N + 1)) (c / (2 * N + 1) / (2 * N + 1) / (2 * N + 1) % (2 * N + 1))
theorem listen_row {W N : Nat} {L : Nat → Nat → Int} {h : hp} (M : MC W N L h) {a : Nat} (ha : a < W) (x1 : Int) {c : Nat} (hc : c < 100000) (y9 : pv) : ∃ (g : hp) (z7 z9 : pv), px_R (mm_Mod_listen, 68, [(2, 123), (0, x1), (0, (a : Int)), (0, (N : Int)), (0, ((2 * N + 1 : Nat) : Int)), (0, (c : Int)), (0, 1), (0, (c : Int)), (0, 0), y9], [], (K0, h)) = px_R (mm_Mod_listen, 68, [(2, 123), (0, x1), (0, (a : Int)), (0, (N : Int)), (0, ((2 * N + 1 : Nat) : Int)), (0, (c : Int)), (0, way4 N c), z7, (0, 4), z9], [], (K0, g)) ∧ (∃ q : Int, z7 = (0, q)) ∧ Fr [138] [] h g ∧ ∀ b, b < 4 → g 138 b = rw4 L a N c b := by
  have hN := M.2.1
  have F : ∀ (h : hp) (b : Nat) (v : Int), Fr [138] [] h (px_up h 138 b v) := fun h b v => Fr_up (Fr_rf _ _ _) _ rfl
  have d1 : c / (2 * N + 1) ≤ c := Nat.div_le_self _ _
  have d2 : c / (2 * N + 1) / (2 * N + 1) ≤ c / (2 * N + 1) := Nat.div_le_self _ _
  have d3 : c / (2 * N + 1) / (2 * N + 1) / (2 * N + 1) ≤ c / (2 * N + 1) / (2 * N + 1) := Nat.div_le_self _ _
  have w1 := wt_rng1 N c hN
  have w2 := wt_rng1 N (c / (2 * N + 1)) hN
  have w3 := wt_rng1 N (c / (2 * N + 1) / (2 * N + 1)) hN
  have p1 : 0 ≤ 1 * wtV N (c % (2 * N + 1)) ∧ 1 * wtV N (c % (2 * N + 1)) ≤ 1 * 4 := ways4 (by decide) w1 (by decide)
  have p2 := ways4 p1 w2 (by decide)
  have p3 := ways4 p2 w3 (by decide)
  have s1 := listen_b M ha x1 (c : Int) (l := c) (b := 0) (by decide) hc (ways := 1) (by decide) y9
  have M1 := MC_F M (F h 0 (clp 0 9 (L a 0 + (((c % (2 * N + 1) : Nat) : Int) - (N : Int))))) (by decide) rfl
  have s2 := listen_b M1 ha x1 (c : Int) (l := c / (2 * N + 1)) (b := 1) (by decide) (by omega) (ways := 1 * wtV N (c % (2 * N + 1))) (by omega) (0, ((c % (2 * N + 1) : Nat) : Int) - (N : Int))
  have M2 := MC_F M1 (F _ 1 (clp 0 9 (L a 1 + (((c / (2 * N + 1) % (2 * N + 1) : Nat) : Int) - (N : Int))))) (by decide) rfl
  have s3 := listen_b M2 ha x1 (c : Int) (l := c / (2 * N + 1) / (2 * N + 1)) (b := 2) (by decide) (by omega) (ways := 1 * wtV N (c % (2 * N + 1)) * wtV N (c / (2 * N + 1) % (2 * N + 1))) (by omega) (0, ((c / (2 * N + 1) % (2 * N + 1) : Nat) : Int) - (N : Int))
  have M3 := MC_F M2 (F _ 2 (clp 0 9 (L a 2 + (((c / (2 * N + 1) / (2 * N + 1) % (2 * N + 1) : Nat) : Int) - (N : Int))))) (by decide) rfl
  have s4 := listen_b M3 ha x1 (c : Int) (l := c / (2 * N + 1) / (2 * N + 1) / (2 * N + 1)) (b := 3) (by decide) (by omega) (ways := 1 * wtV N (c % (2 * N + 1)) * wtV N (c / (2 * N + 1) % (2 * N + 1)) * wtV N (c / (2 * N + 1) / (2 * N + 1) % (2 * N + 1))) (by omega) (0, ((c / (2 * N + 1) / (2 * N + 1) % (2 * N + 1) : Nat) : Int) - (N : Int))
  refine ⟨px_up (px_up (px_up (px_up h 138 0 (rw4 L a N c 0)) 138 1 (rw4 L a N c 1)) 138 2 (rw4 L a N c 2)) 138 3 (rw4 L a N c 3), (0, ((c / (2 * N + 1) / (2 * N + 1) / (2 * N + 1) / (2 * N + 1) : Nat) : Int)), (0, ((c / (2 * N + 1) / (2 * N + 1) / (2 * N + 1) % (2 * N + 1) : Nat) : Int) - (N : Int)), ?_, ⟨_, rfl⟩, Fr_tr2 (Fr_tr2 (Fr_tr2 (F _ _ _) (F _ _ _)) (F _ _ _)) (F _ _ _), fun b hb => ?_⟩
  · refine s1.trans (s2.trans (s3.trans (s4.trans ?_)))
    unfold way4
    rw [Int.one_mul]
    rfl
  · have q : b = 0 ∨ b = 1 ∨ b = 2 ∨ b = 3 := by omega
    rcases q with rfl | rfl | rfl | rfl <;> rfl
theorem R_listen {W N : Nat} {L : Nat → Nat → Int} {h : hp} (M : MC W N L h) {T a : Nat} (hT : T < 1024) (ha : a < W) {a2 : Nat} (ha2 : a2 < W) (hb2 : inS T a2 = true) : ∃ g : hp, px_R (mm_Mod_listen, 0, [(2, 123), (0, (T : Int)), (0, (a : Int)), (9, 0), (9, 0), (9, 0), (9, 0), (9, 0), (9, 0), (9, 0)], [], (K0, h)) = some (0, (K0, g)) ∧ Fr [138, 139] [] h g ∧ ∀ w, w < 6 → g 139 w = px_w (tkS W N L T a w) := by
  have hW := M.1
  have hN := M.2.1
  have lz := px_lp (fun z : List pv × hp => px_R (mm_Mod_listen, 18, z.1, [], (K0, z.2))) (fun i z => z.1 = [(2, 123), (0, (T : Int)), (0, (a : Int)), (0, (N : Int)), (0, ((2 * N + 1 : Nat) : Int)), (0, (i : Int)), (9, 0), (9, 0), (9, 0), (9, 0)] ∧ Fr [138, 139] [] h z.2 ∧ ∀ w, w < i → z.2 139 w = 0) 6 (by
    rintro i ⟨ls, g⟩ hi ⟨e1, F, Z⟩
    simp only at e1 F Z
    subst e1
    have Ig := IR_Fr M.2.2.1 F (by decide)
    have hlt : ((i : Int) < 6) = True := eq_true (by omega)
    refine ⟨([(2, 123), (0, (T : Int)), (0, (a : Int)), (0, (N : Int)), (0, ((2 * N + 1 : Nat) : Int)), (0, ((i + 1 : Nat) : Int)), (9, 0), (9, 0), (9, 0), (9, 0)], px_up g 139 i 0), ?_, rfl, Fr_up F _ rfl, fun w hw => ?_⟩
    · show px_R (mm_Mod_listen, 18, _, [], (K0, g)) = _
      rw [eq_Mod_listen_18]
      simp only [px_rd_mk, px_wr_mk, Int.reduceToNat, Int.toNat_natCast, if_true, if_false, Option.bind_some, px_up_cell, px_up_slot, px_up_eq, ne_eq, Nat.reduceEqDiff, not_false_eq_true, Int.reduceEq, Int.reduceLT, Int.reduceLE, Int.reduceNeg, decide_true, decide_false, Bool.and_true, Bool.true_and, Bool.and_false, Bool.false_and, and_self, and_true, true_and, and_false, false_and, bi_T, bi_F, not_true_eq_false, Bool.false_eq_true, kg_123, ka_139, ir_123_0 Ig, ir_123_12 Ig, ir_123_13 Ig, ir_123_14 Ig, ir_123_15 Ig, ir_123_16 Ig, ir_123_17 Ig, ir_123_18 Ig, ir_123_19 Ig, ir_123_20 Ig, ir_123_21 Ig, ir_123_30 Ig, ir_123_31 Ig, ir_123_32 Ig, ir_123_33 Ig, ir_123_34 Ig, ir_123_35 Ig, ir_123_36 Ig, ir_123_37 Ig, ir_123_38 Ig, ir_123_39 Ig, ir_123_41 Ig, ir_123_42 Ig, ir_123_44 Ig, ir_123_45 Ig, ir_123_46 Ig, ir_123_50 Ig, ir_123_54 Ig, ir_123_55 Ig, ir_123_56 Ig, ir_123_57 Ig, ir_123_58 Ig, ir_123_59 Ig, ir_123_60 Ig, ir_123_61 Ig, ir_123_62 Ig, hlt, Int.natCast_nonneg, px_w_s (show i < 1000000 by omega)]
    · show px_up g 139 i 0 139 w = 0
      rw [px_up_at]
      by_cases e : w = i
      · rw [if_pos e]
      · rw [if_neg e]; exact Z w (by omega)) 6 0
  obtain ⟨⟨ls, g0⟩, f1, f2, F0, Z0⟩ := lz ([(2, 123), (0, (T : Int)), (0, (a : Int)), (0, (N : Int)), (0, ((2 * N + 1 : Nat) : Int)), (0, 0), (9, 0), (9, 0), (9, 0), (9, 0)], h) rfl ⟨rfl, Fr_rf _ _ _, fun w hw => absurd hw (by omega)⟩
  simp only at f1 f2 F0 Z0
  subst f2
  have UU : (2 * N + 1) * ((2 * N + 1) * ((2 * N + 1) * (2 * N + 1))) ≤ 2401 := by
    have : 2 * N + 1 ≤ 7 := by omega
    calc (2 * N + 1) * ((2 * N + 1) * ((2 * N + 1) * (2 * N + 1))) ≤ 7 * (7 * (7 * 7)) := Nat.mul_le_mul this (Nat.mul_le_mul this (Nat.mul_le_mul this this))
      _ = 2401 := rfl
  have u2 : (2 * N + 1) * (2 * N + 1) ≤ 49 := Nat.mul_le_mul (show 2 * N + 1 ≤ 7 by omega) (show 2 * N + 1 ≤ 7 by omega)
  have u3 : (2 * N + 1) * (2 * N + 1) * (2 * N + 1) ≤ 49 * 7 := Nat.mul_le_mul u2 (show 2 * N + 1 ≤ 7 by omega)
  have eU : px_w (px_w (px_w (((2 * N + 1 : Nat) : Int) * ((2 * N + 1 : Nat) : Int)) * ((2 * N + 1 : Nat) : Int)) * ((2 * N + 1 : Nat) : Int)) = (((2 * N + 1) * ((2 * N + 1) * ((2 * N + 1) * (2 * N + 1))) : Nat) : Int) := by
    have e4 : (2 * N + 1) * (2 * N + 1) * (2 * N + 1) * (2 * N + 1) = (2 * N + 1) * ((2 * N + 1) * ((2 * N + 1) * (2 * N + 1))) := by rw [Nat.mul_assoc, Nat.mul_assoc]
    generalize hU : 2 * N + 1 = U at *
    have c1 : px_w ((U : Int) * (U : Int)) = ((U * U : Nat) : Int) := by rw [← Int.natCast_mul]; exact px_w_id (by omega) (by omega)
    have c2 : px_w (((U * U : Nat) : Int) * (U : Int)) = ((U * U * U : Nat) : Int) := by rw [← Int.natCast_mul]; exact px_w_id (by omega) (by omega)
    have c3 : px_w (((U * U * U : Nat) : Int) * (U : Int)) = ((U * U * U * U : Nat) : Int) := by rw [← Int.natCast_mul]; exact px_w_id (by omega) (by omega)
    rw [c1, c2, c3, e4]
  have lp := px_lp (fun z : List pv × hp => px_R (mm_Mod_listen, 42, z.1, [], (K0, z.2))) (fun c z => (∃ y6 y7 y8 y9 : pv, z.1 = [(2, 123), (0, (T : Int)), (0, (a : Int)), (0, (N : Int)), (0, ((2 * N + 1 : Nat) : Int)), (0, (c : Int)), y6, y7, y8, y9]) ∧ Fr [138, 139] [] h z.2 ∧ ∀ w, w < 6 → z.2 139 w = px_w (sm c fun c => if eaV W T (dst L (rw4 L a N c)) = (w : Int) then way4 N c else 0)) ((2 * N + 1) * ((2 * N + 1) * ((2 * N + 1) * (2 * N + 1)))) (by
    rintro c ⟨ls, g⟩ hc ⟨⟨y6, y7, y8, y9, e1⟩, F, V⟩
    simp only at e1 F V
    subst e1
    have Mg := MC_F M F (by decide) rfl
    have hlt : ((c : Int) < (((2 * N + 1) * ((2 * N + 1) * ((2 * N + 1) * (2 * N + 1))) : Nat) : Int)) = True := eq_true (Int.ofNat_lt.mpr hc)
    obtain ⟨k, z7, z9, k1, ⟨q7, k7⟩, k2, k3⟩ := listen_row Mg ha (T : Int) (c := c) (by omega) y9
    subst k7
    have Mk := MC_F Mg k2 (by decide) rfl
    have er := R_mear Mk hT (r := rw4 L a N c) fun b hb => ⟨k3 b hb, rwC_rng L a N _ _ _ _ b⟩
    obtain ⟨v, v1, v2⟩ := eaV_ok (d := dst L (rw4 L a N c)) ha2 hb2
    have v3 := v2.1
    have gv : (decide ((0 : Int) ≤ (v : Int)) && decide ((v : Int) < 6)) = true := gd_ok (by omega)
    have kv : k 139 v = px_w (sm c fun c => if eaV W T (dst L (rw4 L a N c)) = (v : Int) then way4 N c else 0) := (k2 139 v rfl).trans (V v (by omega))
    refine ⟨([(2, 123), (0, (T : Int)), (0, (a : Int)), (0, (N : Int)), (0, ((2 * N + 1 : Nat) : Int)), (0, ((c + 1 : Nat) : Int)), (0, way4 N c), (0, q7), (0, 4), z9], px_up k 139 v (px_w ((sm c fun c => if eaV W T (dst L (rw4 L a N c)) = (v : Int) then way4 N c else 0) + way4 N c))), ?_, ⟨_, _, _, _, rfl⟩, Fr_up (Fr_tr2 F (Fr_sub k2 rfl rfl)) _ rfl, fun w hw => ?_⟩
    · show px_R (mm_Mod_listen, 42, _, [], (K0, g)) = _
      rw [eq_Mod_listen_42, eU, if_pos (Int.ofNat_lt.mpr hc), k1, eq_Mod_listen_68, if_neg (by decide)]
      simp only [px_rd_mk, px_wr_mk, Int.reduceToNat, Int.toNat_natCast, if_true, if_false, Option.bind_some, px_up_cell, px_up_slot, px_up_eq, ne_eq, Nat.reduceEqDiff, not_false_eq_true, Int.reduceEq, Int.reduceLT, Int.reduceLE, Int.reduceNeg, decide_true, decide_false, Bool.and_true, Bool.true_and, Bool.and_false, Bool.false_and, and_self, and_true, true_and, and_false, false_and, bi_T, bi_F, not_true_eq_false, Bool.false_eq_true, kg_123, ka_139, ir_123_0 Mk.2.2.1, ir_123_12 Mk.2.2.1, ir_123_13 Mk.2.2.1, ir_123_14 Mk.2.2.1, ir_123_15 Mk.2.2.1, ir_123_16 Mk.2.2.1, ir_123_17 Mk.2.2.1, ir_123_18 Mk.2.2.1, ir_123_19 Mk.2.2.1, ir_123_20 Mk.2.2.1, ir_123_21 Mk.2.2.1, ir_123_30 Mk.2.2.1, ir_123_31 Mk.2.2.1, ir_123_32 Mk.2.2.1, ir_123_33 Mk.2.2.1, ir_123_34 Mk.2.2.1, ir_123_35 Mk.2.2.1, ir_123_36 Mk.2.2.1, ir_123_37 Mk.2.2.1, ir_123_38 Mk.2.2.1, ir_123_39 Mk.2.2.1, ir_123_41 Mk.2.2.1, ir_123_42 Mk.2.2.1, ir_123_44 Mk.2.2.1, ir_123_45 Mk.2.2.1, ir_123_46 Mk.2.2.1, ir_123_50 Mk.2.2.1, ir_123_54 Mk.2.2.1, ir_123_55 Mk.2.2.1, ir_123_56 Mk.2.2.1, ir_123_57 Mk.2.2.1, ir_123_58 Mk.2.2.1, ir_123_59 Mk.2.2.1, ir_123_60 Mk.2.2.1, ir_123_61 Mk.2.2.1, ir_123_62 Mk.2.2.1, ir_123_0 Mg.2.2.1, ir_123_12 Mg.2.2.1, ir_123_13 Mg.2.2.1, ir_123_14 Mg.2.2.1, ir_123_15 Mg.2.2.1, ir_123_16 Mg.2.2.1, ir_123_17 Mg.2.2.1, ir_123_18 Mg.2.2.1, ir_123_19 Mg.2.2.1, ir_123_20 Mg.2.2.1, ir_123_21 Mg.2.2.1, ir_123_30 Mg.2.2.1, ir_123_31 Mg.2.2.1, ir_123_32 Mg.2.2.1, ir_123_33 Mg.2.2.1, ir_123_34 Mg.2.2.1, ir_123_35 Mg.2.2.1, ir_123_36 Mg.2.2.1, ir_123_37 Mg.2.2.1, ir_123_38 Mg.2.2.1, ir_123_39 Mg.2.2.1, ir_123_41 Mg.2.2.1, ir_123_42 Mg.2.2.1, ir_123_44 Mg.2.2.1, ir_123_45 Mg.2.2.1, ir_123_46 Mg.2.2.1, ir_123_50 Mg.2.2.1, ir_123_54 Mg.2.2.1, ir_123_55 Mg.2.2.1, ir_123_56 Mg.2.2.1, ir_123_57 Mg.2.2.1, ir_123_58 Mg.2.2.1, ir_123_59 Mg.2.2.1, ir_123_60 Mg.2.2.1, ir_123_61 Mg.2.2.1, ir_123_62 Mg.2.2.1, er, v1, gv, kv, px_w_2, px_w_s (show c < 1000000 by omega)]
    · show px_up k 139 v _ 139 w = _
      rw [px_up_at, sm]
      by_cases e : w = v
      · rw [if_pos e, e, if_pos v1]
      · rw [if_neg e, if_neg (by omega), Int.add_zero, k2 139 w rfl]
        exact V w hw) ((2 * N + 1) * ((2 * N + 1) * ((2 * N + 1) * (2 * N + 1)))) 0
  obtain ⟨⟨ls, g⟩, f3, ⟨y6, y7, y8, y9, f4⟩, F, V⟩ := lp ([(2, 123), (0, (T : Int)), (0, (a : Int)), (0, (N : Int)), (0, ((2 * N + 1 : Nat) : Int)), (0, 0), (9, 0), (9, 0), (9, 0), (9, 0)], g0) (Nat.zero_add _) ⟨⟨_, _, _, _, rfl⟩, F0, fun w hw => by show g0 139 w = px_w 0; rw [Z0 w hw]; rfl⟩
  simp only at f3 f4 F V
  subst f4
  refine ⟨g, ?_, F, fun w hw => ?_⟩
  · have h8 := M.2.2.2.2.1
    have v1 : -2147483648 ≤ 2 * (N : Int) ∧ 2 * (N : Int) < 2147483648 := by omega
    have v2 : -2147483648 ≤ 2 * (N : Int) + 1 ∧ 2 * (N : Int) + 1 < 2147483648 := by omega
    have e2 : 2 * (N : Int) + 1 = ((2 * N + 1 : Nat) : Int) := by omega
    rw [eq_Mod_listen_0]
    simp only [px_rd_mk, px_wr_mk, Int.reduceToNat, Int.toNat_natCast, if_true, if_false, Option.bind_some, px_up_cell, px_up_slot, px_up_eq, ne_eq, Nat.reduceEqDiff, not_false_eq_true, Int.reduceEq, Int.reduceLT, Int.reduceLE, Int.reduceNeg, decide_true, decide_false, Bool.and_true, Bool.true_and, Bool.and_false, Bool.false_and, and_self, and_true, true_and, and_false, false_and, bi_T, bi_F, not_true_eq_false, Bool.false_eq_true, kg_123, ka_125, ir_123_0 M.2.2.1, ir_123_12 M.2.2.1, ir_123_13 M.2.2.1, ir_123_14 M.2.2.1, ir_123_15 M.2.2.1, ir_123_16 M.2.2.1, ir_123_17 M.2.2.1, ir_123_18 M.2.2.1, ir_123_19 M.2.2.1, ir_123_20 M.2.2.1, ir_123_21 M.2.2.1, ir_123_30 M.2.2.1, ir_123_31 M.2.2.1, ir_123_32 M.2.2.1, ir_123_33 M.2.2.1, ir_123_34 M.2.2.1, ir_123_35 M.2.2.1, ir_123_36 M.2.2.1, ir_123_37 M.2.2.1, ir_123_38 M.2.2.1, ir_123_39 M.2.2.1, ir_123_41 M.2.2.1, ir_123_42 M.2.2.1, ir_123_44 M.2.2.1, ir_123_45 M.2.2.1, ir_123_46 M.2.2.1, ir_123_50 M.2.2.1, ir_123_54 M.2.2.1, ir_123_55 M.2.2.1, ir_123_56 M.2.2.1, ir_123_57 M.2.2.1, ir_123_58 M.2.2.1, ir_123_59 M.2.2.1, ir_123_60 M.2.2.1, ir_123_61 M.2.2.1, ir_123_62 M.2.2.1, h8, px_w_n v1, (px_w_n v2).trans e2]
    rw [f1, eq_Mod_listen_18, if_neg (by decide), f3, eq_Mod_listen_42, eU, if_neg (Int.lt_irrefl _)]
  · rw [V w hw]
    have e := sm_four (2 * N + 1) fun i j k l => if eaV W T (dst L (rwC L a N i j k l)) = (w : Int) then wtV N i * wtV N j * wtV N k * wtV N l else 0
    exact congrArg px_w e
theorem tkS_rng {W N : Nat} (hN : N ≤ 3) (L : Nat → Nat → Int) (T a w : Nat) : 0 ≤ tkS W N L T a w ∧ tkS W N L T a w ≤ 65536 := by
  have wn : ∀ r, r < 2 * N + 1 → 0 ≤ wtV N r := fun r hr => by have := wtV_rng hr; omega
  have b0 : ∀ A : Int, 0 ≤ A → ∀ P : Nat → Prop, [DecidablePred P] → 0 ≤ (sm (2 * N + 1) fun l => if P l then A * wtV N l else 0) ∧ (sm (2 * N + 1) fun l => if P l then A * wtV N l else 0) ≤ A * sm (2 * N + 1) (wtV N) := fun A hA P _ => by
    rw [← sm_mul]
    refine sm_bd fun l hl => ?_
    have := Int.mul_nonneg hA (wn l hl)
    split <;> omega
  have s16 := sw16 N hN
  have s0 : 0 ≤ sm (2 * N + 1) (wtV N) := (sm_bd (n := 2 * N + 1) (f := wtV N) (c := wtV N) fun r hr => ⟨wn r hr, Int.le_refl _⟩).1
  generalize hs : sm (2 * N + 1) (wtV N) = s at *
  have b1 : ∀ A : Int, 0 ≤ A → ∀ P : Nat → Nat → Prop, [∀ k, DecidablePred (P k)] → 0 ≤ (sm (2 * N + 1) fun k => sm (2 * N + 1) fun l => if P k l then A * wtV N k * wtV N l else 0) ∧ (sm (2 * N + 1) fun k => sm (2 * N + 1) fun l => if P k l then A * wtV N k * wtV N l else 0) ≤ A * s * s := fun A hA P _ => by
    have e : A * s * s = sm (2 * N + 1) fun k => A * s * wtV N k := by rw [sm_mul, hs]
    rw [e]
    refine sm_bd fun k hk => ?_
    have := b0 (A * wtV N k) (Int.mul_nonneg hA (wn k hk)) (P k)
    have e2 : A * wtV N k * s = A * s * wtV N k := by grind
    omega
  have b2 : ∀ A : Int, 0 ≤ A → ∀ P : Nat → Nat → Nat → Prop, [∀ j k, DecidablePred (P j k)] → 0 ≤ (sm (2 * N + 1) fun j => sm (2 * N + 1) fun k => sm (2 * N + 1) fun l => if P j k l then A * wtV N j * wtV N k * wtV N l else 0) ∧ (sm (2 * N + 1) fun j => sm (2 * N + 1) fun k => sm (2 * N + 1) fun l => if P j k l then A * wtV N j * wtV N k * wtV N l else 0) ≤ A * s * s * s := fun A hA P _ => by
    have e : A * s * s * s = sm (2 * N + 1) fun j => A * s * s * wtV N j := by rw [sm_mul, hs]
    rw [e]
    refine sm_bd fun j hj => ?_
    have := b1 (A * wtV N j) (Int.mul_nonneg hA (wn j hj)) (P j)
    have e2 : A * wtV N j * s * s = A * s * s * wtV N j := by grind
    omega
  have b3 : 0 ≤ tkS W N L T a w ∧ tkS W N L T a w ≤ sm (2 * N + 1) fun i => s * s * s * wtV N i := by
    refine sm_bd fun i hi => ?_
    have := b2 (wtV N i) (wn i hi) (fun j k l => eaV W T (dst L (rwC L a N i j k l)) = (w : Int))
    have e2 : wtV N i * s * s * s = s * s * s * wtV N i := by grind
    omega
  rw [sm_mul, hs] at b3
  have h1 : s * s ≤ 16 * 16 := Int.le_trans (Int.mul_le_mul_of_nonneg_right s16 s0) (Int.mul_le_mul_of_nonneg_left s16 (by decide))
  have h1n := Int.mul_nonneg s0 s0
  have h2 : s * s * s ≤ 16 * 16 * 16 := Int.le_trans (Int.mul_le_mul_of_nonneg_right h1 s0) (Int.mul_le_mul_of_nonneg_left s16 (by decide))
  have h2n := Int.mul_nonneg h1n s0
  have h3 : s * s * s * s ≤ 16 * 16 * 16 * 16 := Int.le_trans (Int.mul_le_mul_of_nonneg_right h2 s0) (Int.mul_le_mul_of_nonneg_left s16 (by decide))
  omega
