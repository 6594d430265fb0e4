/-! longest. -/
theorem efs_c {T : Nat} {d e : Nat → Int} : ∀ i : Nat, (∀ w, w < i → d w = e w) → efs T d i = efs T e i
  | 0, _ => rfl
  | i + 1, h => by
    rw [efs, efs, efs_c i fun w hw => h w (by omega), h i (by omega)]
theorem tkS_c {W N : Nat} {L M : Nat → Nat → Int} (h : ∀ w b, w < W → b < 4 → L w b = M w b) {T a : Nat} (ha : a < W) (w : Nat) : tkS W N L T a w = tkS W N M T a w := by
  refine sm_c fun i _ => sm_c fun j _ => sm_c fun k _ => sm_c fun l _ => ?_
  have e : eaV W T (dst L (rwC L a N i j k l)) = eaV W T (dst M (rwC M a N i j k l)) := by
    unfold eaV
    rw [efs_c W fun v hv => ?_]
    unfold dst rwC
    rw [h v 0 hv (by decide), h v 1 hv (by decide), h v 2 hv (by decide), h v 3 hv (by decide), h a 0 ha (by decide), h a 1 ha (by decide), h a 2 ha (by decide), h a 3 ha (by decide)]
  rw [e]
def awV (N : Nat) : Nat → Int
  | 0 => 1
  | k + 1 => awV N k * ((N : Int) + 1)
theorem awV_rng {N : Nat} (hN : N ≤ 3) : ∀ k : Nat, k ≤ 8 → 0 ≤ awV N k ∧ awV N k ≤ 65536 := by
  have q : N = 0 ∨ N = 1 ∨ N = 2 ∨ N = 3 := by omega
  intro k hk
  have c : k = 0 ∨ k = 1 ∨ k = 2 ∨ k = 3 ∨ k = 4 ∨ k = 5 ∨ k = 6 ∨ k = 7 ∨ k = 8 := by omega
  rcases q with rfl | rfl | rfl | rfl <;> rcases c with rfl | rfl | rfl | rfl | rfl | rfl | rfl | rfl | rfl <;> exact ⟨by decide, by decide⟩
theorem R_tallWays {h : hp} {N : Nat} (hN : h 51 1 = (N : Int)) (h3 : N ≤ 3) : px_R (mm_Ear_allWays, 0, [(2, 51), (9, 0)], [], (K0, h)) = some (awV N 8, (K0, h)) := by
  rw [eq_Ear_allWays_0]
  simp only [px_rd_mk, px_wr_mk, Int.reduceToNat, Int.toNat_natCast, if_true, if_false, Option.bind_some, px_up_cell, px_up_slot, px_up_eq, ne_eq, Nat.reduceEqDiff, not_false_eq_true, Int.reduceEq, Int.reduceLT, Int.reduceLE, Int.reduceNeg, decide_true, decide_false, Bool.and_true, Bool.true_and, Bool.and_false, Bool.false_and, and_self, and_true, true_and, and_false, false_and, bi_T, bi_F, not_true_eq_false, Bool.false_eq_true, kg_51, hN]
  have q : N = 0 ∨ N = 1 ∨ N = 2 ∨ N = 3 := by omega
  rcases q with rfl | rfl | rfl | rfl <;> rfl
theorem R_mallWays {h : hp} (hI : IR h) {N : Nat} (hN : h 125 8 = (N : Int)) (h3 : N ≤ 3) : px_R (mm_Mod_allWays, 0, [(2, 123), (9, 0), (9, 0)], [], (K0, h)) = some (awV N 8, (K0, h)) := by
  have lp : ∀ k i : Nat, i + k = 8 → px_R (mm_Mod_allWays, 4, [(2, 123), (0, awV N i), (0, (i : Int))], [], (K0, h)) = some (awV N 8, (K0, h)) := by
    intro k
    induction k with
    | zero =>
      intro i hi
      have : i = 8 := hi
      subst this
      rw [eq_Mod_allWays_4, if_neg (by decide)]
    | succ k ih =>
      intro i hi
      have hl : (i : Int) < 8 := by omega
      have r := awV_rng h3 (i + 1) (by omega)
      have v1 : -2147483648 ≤ (N : Int) + 1 ∧ (N : Int) + 1 < 2147483648 := by omega
      have e : awV N i * ((N : Int) + 1) = awV N (i + 1) := rfl
      have v2 : -2147483648 ≤ awV N i * ((N : Int) + 1) ∧ awV N i * ((N : Int) + 1) < 2147483648 := by rw [e]; omega
      have i1 := ih (i + 1) (by omega)
      rw [eq_Mod_allWays_4, if_pos hl]
      simp only [px_rd_mk, px_wr_mk, Int.reduceToNat, Int.toNat_natCast, if_true, if_false, Option.bind_some, px_up_cell, px_up_slot, px_up_eq, ne_eq, Nat.reduceEqDiff, not_false_eq_true, Int.reduceEq, Int.reduceLT, Int.reduceLE, Int.reduceNeg, decide_true, decide_false, Bool.and_true, Bool.true_and, Bool.and_false, Bool.false_and, and_self, and_true, true_and, and_false, false_and, bi_T, bi_F, not_true_eq_false, Bool.false_eq_true, kg_123, ka_125, ir_123_0 hI, ir_123_12 hI, ir_123_13 hI, ir_123_14 hI, ir_123_15 hI, ir_123_16 hI, ir_123_17 hI, ir_123_18 hI, ir_123_19 hI, ir_123_20 hI, ir_123_21 hI, ir_123_30 hI, ir_123_31 hI, ir_123_32 hI, ir_123_33 hI, ir_123_34 hI, ir_123_35 hI, ir_123_36 hI, ir_123_37 hI, ir_123_38 hI, ir_123_39 hI, ir_123_41 hI, ir_123_42 hI, ir_123_44 hI, ir_123_45 hI, ir_123_46 hI, ir_123_50 hI, ir_123_54 hI, ir_123_55 hI, ir_123_56 hI, ir_123_57 hI, ir_123_58 hI, ir_123_59 hI, ir_123_60 hI, ir_123_61 hI, ir_123_62 hI, hN, px_w_n v1, (px_w_n v2).trans e, px_w_s (show i < 1000000 by omega)]
      exact i1
  rw [eq_Mod_allWays_0]
  exact lp 8 0 rfl
theorem cmp_lt {a b c d : Int} (ha : 0 ≤ a ∧ a ≤ 65536) (hb : 0 ≤ b ∧ b ≤ 65536) (hc : 0 ≤ c ∧ c ≤ 65536) (hd : 0 ≤ d ∧ d ≤ 65536) : (px_cmp (px_wl (a * b)) (px_wl (c * d)) < 0) = (a * b < c * d) := by
  have m : ∀ x y : Int, 0 ≤ x ∧ x ≤ 65536 → 0 ≤ y ∧ y ≤ 65536 → 0 ≤ x * y ∧ x * y ≤ 65536 * 65536 := fun x y hx hy => ⟨Int.mul_nonneg hx.1 hy.1, Int.le_trans (Int.mul_le_mul_of_nonneg_right hx.2 hy.1) (Int.mul_le_mul_of_nonneg_left hy.2 (by decide))⟩
  have m1 := m a b ha hb
  have m2 := m c d hc hd
  have v1 : -9223372036854775808 ≤ a * b ∧ a * b < 9223372036854775808 := by omega
  have v2 : -9223372036854775808 ≤ c * d ∧ c * d < 9223372036854775808 := by omega
  rw [px_wl_n v1, px_wl_n v2]
  unfold px_cmp
  generalize a * b = x
  generalize c * d = y
  apply propext
  by_cases q : y < x
  · rw [if_pos q]; constructor <;> intro z <;> omega
  · rw [if_neg q]
    by_cases q2 : x = y
    · rw [if_pos q2]; constructor <;> intro z <;> omega
    · rw [if_neg q2]; constructor <;> intro z <;> omega
/-- whether word a is heard over so many yards -/
def hdV (W N : Nat) (L : Nat → Nat → Nat → Int) (a : Nat) (u o : Int) (y : Nat) : Bool := decide (u * awV N 8 ≤ tkS W N (L y) (2 ^ W - 1) a a * o)
def lgV (f : Nat → Bool) : Nat → Int
  | 0 => -1
  | y + 1 => if f (y + 1) = true then ((y + 1 : Nat) : Int) else lgV f y
theorem hdV_f {W N : Nat} {L : Nat → Nat → Nat → Int} {a : Nat} {u o : Int} {y : Nat} (hN : N ≤ 3) (hu : 0 ≤ u ∧ u ≤ 65536) (ho : 0 ≤ o ∧ o ≤ 65536) : (px_cmp (px_wl (tkS W N (L y) (2 ^ W - 1) a a * o)) (px_wl (u * awV N 8)) < 0) = (hdV W N L a u o y = false) := by
  rw [cmp_lt (tkS_rng hN (L y) _ a a) ho hu (awV_rng hN 8 (Nat.le_refl 8))]
  unfold hdV
  rw [decide_eq_false_iff_not]
  apply propext
  omega
theorem R_mlongest {n : Nat} {h : hp} (C : LC n h) {s t : Nat} (h0 : h 123 24 = (s : Int)) (hs : (s : Int) < h (n + 1) 0) (h1 : h 123 25 = (t : Int)) (ht : (t : Int) < h (n + 1) 1) {W N : Nat} (hW : h (n + 1) 2 = (W : Int)) (hN : h (n + 21) 0 = (N : Int)) {a : Nat} (ha : a < W) {u o : Int} (hu : 0 ≤ u ∧ u ≤ 65536) (ho : 0 ≤ o ∧ o ≤ 65536) : ∃ g : hp, px_R (mm_Mod_longest, 49, [(2, 123), (0, (a : Int)), (0, u), (0, o), (0, 400)], [], (K0, h)) = some (lgV (hdV W N (fun y => lvl n h s t y) a u o) 400, (K0, g)) ∧ Fr [137, 138, 139] [] h g := by
  have hn := C.1
  have N3 := C.2.2.1.2.2.2.2.1
  have ml : ∀ (y : Nat) (g : hp), y ≤ 400 → Fr [137, 138, 139] [] h g → ∃ j : hp, px_R (mm_Mod_longest, 49, [(2, 123), (0, (a : Int)), (0, u), (0, o), (0, (y : Int))], [], (K0, g)) = some (lgV (hdV W N (fun y => lvl n h s t y) a u o) y, (K0, j)) ∧ Fr [137, 138, 139] [] h j := by
    intro y
    induction y with
    | zero =>
      intro g _ F
      refine ⟨g, ?_, F⟩
      rw [eq_Mod_longest_49, if_neg (by decide)]
      rfl
    | succ y ih =>
      intro g hy F
      have Cg := LC_F C F (by decide) rfl rfl
      have f1 := Fr_st hn F rfl (n + 1) (by omega) (by omega)
      have f21 := Fr_st hn F rfl (n + 21) (by omega) (by omega)
      obtain ⟨k1, m1, G1, M1⟩ := R_makeMC (LC_LD Cg) (s := s) (t := t) (y := y + 1) (by rw [f1]; exact hs) (by rw [f1]; exact ht) hy (W := W) (N := N) (by rw [f1]; exact hW) (by rw [f21]; exact hN)
      rw [lvl_48 hn F rfl] at M1
      have W6 := M1.1
      have T64 := all_lt W6
      have inA := (fx_all ⟨W, by omega⟩).2 ⟨a, by omega⟩ ha
      obtain ⟨k2, m2, G2⟩ := R_mright M1 (T := 2 ^ W - 1) (by omega) ha inA
      have m2 : px_R (mm_Mod_right_0, 0, [(2, 123), (0, ((2 ^ W - 1 : Nat) : Int)), (0, (a : Int))], [], (K0, k1)) = some (tkS W N ((fun y => lvl n h s t y) (y + 1)) (2 ^ W - 1) a a, (K0, k2)) := m2
      have M2 := MC_F M1 G2 (by decide) rfl
      have aw := R_mallWords M1.2.2.1 M1.2.2.2.1 W6
      have al := R_mallWays M2.2.2.1 M2.2.2.2.2.1 M2.2.1
      have F2 : Fr [137, 138, 139] [] h k2 := Fr_sub (Fr_tr (Fr_tr F G1) G2) rfl rfl
      have hd := hdV_f (W := W) (L := fun y => lvl n h s t y) (a := a) (y := y + 1) M2.2.1 hu ho
      have pos : (0 < ((y + 1 : Nat) : Int)) = True := eq_true (by omega)
      have v1 : -2147483648 ≤ ((y + 1 : Nat) : Int) + -1 ∧ ((y + 1 : Nat) : Int) + -1 < 2147483648 := by omega
      have e1 : ((y + 1 : Nat) : Int) + -1 = (y : Int) := by omega
      cases c : hdV W N (fun y => lvl n h s t y) a u o (y + 1)
      · have hd1 := hd.mpr c
        obtain ⟨j, j1, j2⟩ := ih k2 (by omega) F2
        refine ⟨j, ?_, j2⟩
        rw [eq_Mod_longest_49]
        simp only [px_rd_mk, px_wr_mk, Int.reduceToNat, Int.toNat_natCast, if_true, if_false, Option.bind_some, px_up_cell, px_up_slot, px_up_eq, ne_eq, Nat.reduceEqDiff, not_false_eq_true, Int.reduceEq, Int.reduceLT, Int.reduceLE, Int.reduceNeg, decide_true, decide_false, Bool.and_true, Bool.true_and, Bool.and_false, Bool.false_and, and_self, and_true, true_and, and_false, false_and, bi_T, bi_F, not_true_eq_false, Bool.false_eq_true, kg_123, pos, (F 123 24 rfl).trans h0, (F 123 25 rfl).trans h1, m1, aw, m2, al, hd1, (px_w_n v1).trans e1]
        rw [j1, lgV, c, if_neg (by decide)]
      · have hd1 : ¬ (px_cmp (px_wl (tkS W N ((fun y => lvl n h s t y) (y + 1)) (2 ^ W - 1) a a * o)) (px_wl (u * awV N 8)) < 0) := fun z => by
          have := hd.mp z
          rw [c] at this
          cases this
        refine ⟨k2, ?_, F2⟩
        rw [eq_Mod_longest_49]
        simp only [px_rd_mk, px_wr_mk, Int.reduceToNat, Int.toNat_natCast, if_true, if_false, Option.bind_some, px_up_cell, px_up_slot, px_up_eq, ne_eq, Nat.reduceEqDiff, not_false_eq_true, Int.reduceEq, Int.reduceLT, Int.reduceLE, Int.reduceNeg, decide_true, decide_false, Bool.and_true, Bool.true_and, Bool.and_false, Bool.false_and, and_self, and_true, true_and, and_false, false_and, bi_T, bi_F, not_true_eq_false, Bool.false_eq_true, kg_123, pos, (F 123 24 rfl).trans h0, (F 123 25 rfl).trans h1, m1, aw, m2, al, hd1]
        rw [lgV, c, if_pos rfl]
  exact ml 400 h (Nat.le_refl _) (Fr_rf _ _ _)
theorem R_tlongest {n : Nat} {h : hp} (h8 : h 1 8 = (n : Int)) (C : LC n h) {s t : Nat} (h0 : h 48 0 = (s : Int)) (hs : (s : Int) < h (n + 1) 0) (h1 : h 48 1 = (t : Int)) (ht : (t : Int) < h (n + 1) 1) {W N : Nat} (hW : h (n + 1) 2 = (W : Int)) (hN : h (n + 21) 0 = (N : Int)) {a : Nat} (ha : a < W) {u o : Int} (hu : 0 ≤ u ∧ u ≤ 65536) (ho : 0 ≤ o ∧ o ≤ 65536) {g0 : hp} (F0 : Fr bcs [(51, 0), (51, 1)] h g0) (g0W : g0 51 0 = (W : Int)) (g0N : g0 51 1 = (N : Int)) (g0P : ∀ w b : Nat, w < W → b < 4 → g0 (60 + w) b = enW n h s t w b) : ∃ g : hp, px_R (mm_Tin_longest, 66, [(2, 1), (0, (a : Int)), (0, u), (0, o), (0, -1), (0, 0), (0, 1)], [], (K0, g0)) = some (lgV (hdV W N (fun y => lvl n h s t y) a u o) 400, (K0, g)) ∧ Fr xcs [(51, 0), (51, 1), (51, 5)] h g := by
  have hn := C.1
  have c2 := ST_n C.2.2.1 (k := 2) (by decide)
  have N3 := C.2.2.1.2.2.2.2.1
  have W6 : W ≤ 6 := by omega
  have T64 := all_lt W6
  have inA := (fx_all ⟨W, by omega⟩).2 ⟨a, by omega⟩ ha
  have lp := px_lp (fun z : List pv × hp => px_R (mm_Tin_longest, 66, z.1, [], (K0, z.2))) (fun y z => (∃ x5 : Int, z.1 = [(2, 1), (0, (a : Int)), (0, u), (0, o), (0, lgV (hdV W N (fun y => lvl n h s t y) a u o) y), (0, x5), (0, ((y + 1 : Nat) : Int))] ∧ (1 ≤ y → x5 = if hdV W N (fun y => lvl n h s t y) a u o y = true then 1 else 0)) ∧ Fr xcs [(51, 0), (51, 1), (51, 5)] h z.2 ∧ (z.2 51 0 = (W : Int) ∧ z.2 51 1 = (N : Int)) ∧ (∀ w b : Nat, w < W → b < 4 → z.2 (60 + w) b = oyV (1000 - h (n + 13) (5 * s + 1 + b)) y (enW n h s t w b)) ∧ (1 ≤ y → ∀ w b : Nat, w < W → b < 4 → z.2 (53 + w) b = lvl n h s t y w b)) 400 (by
    rintro y ⟨ls, g⟩ hy ⟨⟨x5, e1, ex⟩, F, ⟨gW, gN⟩, P, V⟩
    simp only at e1 F gW gN P V
    subst e1
    have Cg := LC_F C F (by decide) rfl rfl
    have f1 := Fr_st hn F rfl (n + 1) (by omega) (by omega)
    have f13 := Fr_st hn F rfl (n + 13) (by omega) (by omega)
    have prng : ∀ w b : Nat, w < W → b < 4 → 0 ≤ enW n h s t w b ∧ enW n h s t w b ≤ 9000 := fun w b hw hb => by
      have q := C.2.2.1.2.2.2.2.2.2.2.1 w (by omega) b hb
      exact en_rng C.2.2.1 C.2.2.2 ht hb q.2
    obtain ⟨v, g2, e2, F2, V2, v01, v0⟩ := R_goOn Cg (s := s) (t := t) ((F 48 0 rfl).trans h0) (by rw [f1]; exact hs) ((F 48 1 rfl).trans h1) (by rw [f1]; exact ht) gW W6 (fun w b hw hb => by
      rw [P w b hw hb]
      exact oy_rng C.2.2.1 hs hb (prng w b hw hb) y) (k := 1) (by decide)
    have FF : Fr xcs [(51, 0), (51, 1), (51, 5)] h g2 := Fr_sub (Fr_tr F F2) rfl rfl
    have V2l : ∀ w b : Nat, w < W → b < 4 → g2 (53 + w) b = lvl n h s t (y + 1) w b := fun w b hw hb => by
      rw [(V2 w b hw hb).2, P w b hw hb, f13]
      unfold lvP
      rw [lvV_F hn F rfl]
      rfl
    have V2p : ∀ w b : Nat, w < W → b < 4 → g2 (60 + w) b = oyV (1000 - h (n + 13) (5 * s + 1 + b)) (y + 1) (enW n h s t w b) := fun w b hw hb => by
      rw [(V2 w b hw hb).1, P w b hw hb, f13]
      rfl
    have E2 : EC W N (lvl n h s t (y + 1)) g2 := ⟨W6, by omega, IR_Fr C.2.1 FF (by decide), (F2 51 0 rfl).trans gW, (F2 51 1 rfl).trans gN, fun w b hw hb => ⟨V2l w b hw hb, lvl_rng C.2.2.1 C.2.2.2 hs ht (y + 1) (by omega) hb⟩⟩
    have hl : ¬ (400 < ((y + 1 : Nat) : Int)) := by omega
    have I := Cg.2.1
    have toG : px_R (mm_Tin_longest, 66, [(2, 1), (0, (a : Int)), (0, u), (0, o), (0, lgV (hdV W N (fun y => lvl n h s t y) a u o) y), (0, x5), (0, ((y + 1 : Nat) : Int))], [], (K0, g)) = (if v = 0 then (if ((y + 1 : Nat) : Int) = 1 then px_R (mm_Tin_longest, 99, [(2, 1), (0, (a : Int)), (0, u), (0, o), (0, lgV (hdV W N (fun y => lvl n h s t y) a u o) y), (0, x5), (0, ((y + 1 : Nat) : Int))], [], (K0, g2)) else (if x5 = 0 then px_R (mm_Tin_longest, 66, [(2, 1), (0, (a : Int)), (0, u), (0, o), (0, lgV (hdV W N (fun y => lvl n h s t y) a u o) y), (0, x5), (0, ((y + 1 + 1 : Nat) : Int))], [], (K0, g2)) else px_R (mm_Tin_longest, 66, [(2, 1), (0, (a : Int)), (0, u), (0, o), (0, ((y + 1 : Nat) : Int)), (0, x5), (0, ((y + 1 + 1 : Nat) : Int))], [], (K0, g2)))) else px_R (mm_Tin_longest, 99, [(2, 1), (0, (a : Int)), (0, u), (0, o), (0, lgV (hdV W N (fun y => lvl n h s t y) a u o) y), (0, x5), (0, ((y + 1 : Nat) : Int))], [], (K0, g2))) := by
      rw [eq_Tin_longest_66, if_neg hl]
      have e2 : px_R (mm_Ear_goOn, 0, [(2, 51), (2, (n : Int)), (2, 48), (0, 1), (9, 0), (9, 0), (9, 0), (9, 0)], [], (K0, g)) = some (v, (K0, g2)) := e2
      simp only [px_rd_mk, px_wr_mk, Int.reduceToNat, Int.toNat_natCast, if_true, if_false, Option.bind_some, px_up_cell, px_up_slot, px_up_eq, ne_eq, Nat.reduceEqDiff, not_false_eq_true, Int.reduceEq, Int.reduceLT, Int.reduceLE, Int.reduceNeg, decide_true, decide_false, Bool.and_true, Bool.true_and, Bool.and_false, Bool.false_and, and_self, and_true, true_and, and_false, false_and, bi_T, bi_F, not_true_eq_false, Bool.false_eq_true, kg_1, kg_48, kg_51, ir_1_0 I, ir_1_1 I, ir_1_2 I, ir_1_3 I, ir_1_4 I, ir_1_5 I, ir_1_6 I, ir_1_7 I, (F 1 8 rfl).trans h8, e2, px_w_s (show y + 1 < 1000000 by omega)]
    have lgs : lgV (hdV W N (fun y => lvl n h s t y) a u o) (y + 1) = if hdV W N (fun y => lvl n h s t y) a u o (y + 1) = true then ((y + 1 : Nat) : Int) else lgV (hdV W N (fun y => lvl n h s t y) a u o) y := rfl
    have hr : ∃ g3 : hp, px_R (mm_Tin_longest, 99, [(2, 1), (0, (a : Int)), (0, u), (0, o), (0, lgV (hdV W N (fun y => lvl n h s t y) a u o) y), (0, x5), (0, ((y + 1 : Nat) : Int))], [], (K0, g2)) = px_R (mm_Tin_longest, 66, [(2, 1), (0, (a : Int)), (0, u), (0, o), (0, lgV (hdV W N (fun y => lvl n h s t y) a u o) (y + 1)), (0, if hdV W N (fun y => lvl n h s t y) a u o (y + 1) = true then 1 else 0), (0, ((y + 1 + 1 : Nat) : Int))], [], (K0, g3)) ∧ Fr (hcs ++ dcs) [(51, 5)] g2 g3 := by
      obtain ⟨g3, e3, ⟨F3, _⟩, V3⟩ := R_hear E2 (D := 66) (T := 2 ^ W - 1) (a := a) (by omega) ha ha inA (Or.inl rfl)
      have e3 : px_R (mm_Ear_hear, 0, [(2, 51), (0, (a : Int)), (0, ((2 ^ W - 1 : Nat) : Int)), (2, 66), (9, 0), (9, 0)], [], (K0, g2)) = some (0, (K0, g3)) := e3
      have E3 := EC_F E2 F3 (by decide) rfl
      have I2 := E2.2.2.1
      have I3 := E3.2.2.1
      have va : g3 66 a = tkS W N ((fun y => lvl n h s t y) (y + 1)) (2 ^ W - 1) a a := (V3 a (by omega)).trans (tk_w E2.2.1 _ _ _ _)
      have aw := R_tallWords hn ((FF 1 8 rfl).trans h8) I2 (W := W) (by rw [Fr_st hn FF rfl (n + 1) (by omega) (by omega)]; exact hW) W6
      have al := R_tallWays E3.2.2.2.2.1 E3.2.1
      have ga : (decide ((0 : Int) ≤ (a : Int)) && decide ((a : Int) < 6)) = true := gd_ok (by omega)
      have hd := hdV_f (W := W) (L := fun y => lvl n h s t y) (a := a) (y := y + 1) E2.2.1 hu ho
      refine ⟨g3, ?_, F3⟩
      cases c : hdV W N (fun y => lvl n h s t y) a u o (y + 1)
      · have hd1 := hd.mpr c
        rw [eq_Tin_longest_99]
        simp only [px_rd_mk, px_wr_mk, Int.reduceToNat, Int.toNat_natCast, if_true, if_false, Option.bind_some, px_up_cell, px_up_slot, px_up_eq, ne_eq, Nat.reduceEqDiff, not_false_eq_true, Int.reduceEq, Int.reduceLT, Int.reduceLE, Int.reduceNeg, decide_true, decide_false, Bool.and_true, Bool.true_and, Bool.and_false, Bool.false_and, and_self, and_true, true_and, and_false, false_and, bi_T, bi_F, not_true_eq_false, Bool.false_eq_true, kg_1, kg_51, ka_66, ir_1_0 I2, ir_1_1 I2, ir_1_2 I2, ir_1_3 I2, ir_1_4 I2, ir_1_5 I2, ir_1_6 I2, ir_1_7 I2, ir_51_2 I2, ir_51_3 I2, ir_51_4 I2, ir_51_6 I2, ir_51_7 I2, ir_51_8 I2, ir_51_9 I2, aw, e3, ir_1_0 I3, ir_1_1 I3, ir_1_2 I3, ir_1_3 I3, ir_1_4 I3, ir_1_5 I3, ir_1_6 I3, ir_1_7 I3, ir_51_2 I3, ir_51_3 I3, ir_51_4 I3, ir_51_6 I3, ir_51_7 I3, ir_51_8 I3, ir_51_9 I3, al, ga, va, hd1, px_w_s (show y + 1 < 1000000 by omega)]
        rw [lgs, c, if_neg (by decide)]
      · have hd1 : ¬ (px_cmp (px_wl (tkS W N ((fun y => lvl n h s t y) (y + 1)) (2 ^ W - 1) a a * o)) (px_wl (u * awV N 8)) < 0) := fun z => by
          have := hd.mp z
          rw [c] at this
          cases this
        rw [eq_Tin_longest_99]
        simp only [px_rd_mk, px_wr_mk, Int.reduceToNat, Int.toNat_natCast, if_true, if_false, Option.bind_some, px_up_cell, px_up_slot, px_up_eq, ne_eq, Nat.reduceEqDiff, not_false_eq_true, Int.reduceEq, Int.reduceLT, Int.reduceLE, Int.reduceNeg, decide_true, decide_false, Bool.and_true, Bool.true_and, Bool.and_false, Bool.false_and, and_self, and_true, true_and, and_false, false_and, bi_T, bi_F, not_true_eq_false, Bool.false_eq_true, kg_1, kg_51, ka_66, ir_1_0 I2, ir_1_1 I2, ir_1_2 I2, ir_1_3 I2, ir_1_4 I2, ir_1_5 I2, ir_1_6 I2, ir_1_7 I2, ir_51_2 I2, ir_51_3 I2, ir_51_4 I2, ir_51_6 I2, ir_51_7 I2, ir_51_8 I2, ir_51_9 I2, aw, e3, ir_1_0 I3, ir_1_1 I3, ir_1_2 I3, ir_1_3 I3, ir_1_4 I3, ir_1_5 I3, ir_1_6 I3, ir_1_7 I3, ir_51_2 I3, ir_51_3 I3, ir_51_4 I3, ir_51_6 I3, ir_51_7 I3, ir_51_8 I3, ir_51_9 I3, al, ga, va, hd1, px_w_s (show y + 1 < 1000000 by omega)]
        rw [lgs, c, if_pos rfl]
    have go99 : (v = 0 → y = 0) → ∃ (g3 : hp), px_R (mm_Tin_longest, 66, [(2, 1), (0, (a : Int)), (0, u), (0, o), (0, lgV (hdV W N (fun y => lvl n h s t y) a u o) y), (0, x5), (0, ((y + 1 : Nat) : Int))], [], (K0, g)) = px_R (mm_Tin_longest, 66, [(2, 1), (0, (a : Int)), (0, u), (0, o), (0, lgV (hdV W N (fun y => lvl n h s t y) a u o) (y + 1)), (0, if hdV W N (fun y => lvl n h s t y) a u o (y + 1) = true then 1 else 0), (0, ((y + 1 + 1 : Nat) : Int))], [], (K0, g3)) ∧ Fr (hcs ++ dcs) [(51, 5)] g2 g3 := fun hv => by
      obtain ⟨g3, r1, r2⟩ := hr
      refine ⟨g3, ?_, r2⟩
      rw [toG]
      by_cases c : v = 0
      · have := hv c
        rw [if_pos c, if_pos (by omega)]
        exact r1
      · rw [if_neg c]
        exact r1
    by_cases c : v = 0 ∧ 1 ≤ y
    · have same : hdV W N (fun y => lvl n h s t y) a u o (y + 1) = hdV W N (fun y => lvl n h s t y) a u o y := by
        unfold hdV
        rw [tkS_c (fun w b hw hb => by
          show lvl n h s t (y + 1) w b = lvl n h s t y w b
          rw [← V2l w b hw hb, v0 c.1 w b hw hb, V c.2 w b hw hb]) ha a]
      refine ⟨([(2, 1), (0, (a : Int)), (0, u), (0, o), (0, lgV (hdV W N (fun y => lvl n h s t y) a u o) (y + 1)), (0, if hdV W N (fun y => lvl n h s t y) a u o (y + 1) = true then 1 else 0), (0, ((y + 1 + 1 : Nat) : Int))], g2), ?_, ⟨_, rfl, fun _ => rfl⟩, FF, ⟨(F2 51 0 rfl).trans gW, (F2 51 1 rfl).trans gN⟩, V2p, fun _ => V2l⟩
      show px_R (mm_Tin_longest, 66, _, [], (K0, g)) = _
      rw [toG, if_pos c.1, if_neg (by omega), ex c.2, ← same, lgs]
      cases hdV W N (fun y => lvl n h s t y) a u o (y + 1)
      · simp only [px_rd_mk, px_wr_mk, Int.reduceToNat, Int.toNat_natCast, if_true, if_false, Option.bind_some, px_up_cell, px_up_slot, px_up_eq, ne_eq, Nat.reduceEqDiff, not_false_eq_true, Int.reduceEq, Int.reduceLT, Int.reduceLE, Int.reduceNeg, decide_true, decide_false, Bool.and_true, Bool.true_and, Bool.and_false, Bool.false_and, and_self, and_true, true_and, and_false, false_and, bi_T, bi_F, not_true_eq_false, Bool.false_eq_true, eq_self]
      · simp only [px_rd_mk, px_wr_mk, Int.reduceToNat, Int.toNat_natCast, if_true, if_false, Option.bind_some, px_up_cell, px_up_slot, px_up_eq, ne_eq, Nat.reduceEqDiff, not_false_eq_true, Int.reduceEq, Int.reduceLT, Int.reduceLE, Int.reduceNeg, decide_true, decide_false, Bool.and_true, Bool.true_and, Bool.and_false, Bool.false_and, and_self, and_true, true_and, and_false, false_and, bi_T, bi_F, not_true_eq_false, Bool.false_eq_true, eq_self]
    · obtain ⟨g3, r1, r2⟩ := go99 (fun z => by omega)
      refine ⟨([(2, 1), (0, (a : Int)), (0, u), (0, o), (0, lgV (hdV W N (fun y => lvl n h s t y) a u o) (y + 1)), (0, if hdV W N (fun y => lvl n h s t y) a u o (y + 1) = true then 1 else 0), (0, ((y + 1 + 1 : Nat) : Int))], g3), r1, ⟨_, rfl, fun _ => rfl⟩, Fr_sub (Fr_tr FF r2) rfl rfl, ⟨(r2 51 0 rfl).trans ((F2 51 0 rfl).trans gW), (r2 51 1 rfl).trans ((F2 51 1 rfl).trans gN)⟩, fun w b hw hb => ?_, fun _ w b hw hb => ?_⟩
      · show g3 (60 + w) b = _
        rw [Fr_rg r2 53 66 rfl (by omega) (by omega) b]
        exact V2p w b hw hb
      · show g3 (53 + w) b = _
        rw [Fr_rg r2 53 66 rfl (by omega) (by omega) b]
        exact V2l w b hw hb) 400 0
  obtain ⟨⟨ls, g⟩, f1, ⟨x5, f2, _⟩, F, _⟩ := lp ([(2, 1), (0, (a : Int)), (0, u), (0, o), (0, -1), (0, 0), (0, 1)], g0) rfl ⟨⟨0, rfl, fun z => absurd z (by omega)⟩, Fr_sub F0 rfl rfl, ⟨g0W, g0N⟩, g0P, fun z => absurd z (by omega)⟩
  simp only at f1 f2 F
  subst f2
  refine ⟨g, ?_, F⟩
  rw [f1, eq_Tin_longest_66, if_pos (by decide)]
theorem C_longest {h : hp} (C : CI h) (x u o : Int) : AL h mm_Tin_longest mm_Mod_longest [(2, 1), (0, x), (0, u), (0, o), (9, 0), (9, 0), (9, 0)] [(2, 123), (0, x), (0, u), (0, o), (9, 0)] := by
  have C2 := C
  obtain ⟨n, ⟨hn, h8, h9⟩, hI, hT, hK, hS, hL, hR, hC, hKs, hW, hB⟩ := C2
  have o2 := fun x => R_one hn h8 hI hS (y := 2) (k := 2) rfl (by decide) x
  have i2 := fun x => R_is hI hS (y := 2) (k := 2) rfl (by decide) x
  have c0 := ST_n hS (k := 0) (by decide)
  have c1 := ST_n hS (k := 1) (by decide)
  have c2 := ST_n hS (k := 2) (by decide)
  by_cases hx : 0 ≤ x ∧ x < h (n + 1) 2
  · by_cases hu : 0 ≤ u ∧ u ≤ 65536
    · by_cases ho : 1 ≤ o ∧ o ≤ 65536
      · by_cases hc : h (n + 1) 0 = 0 ∨ h (n + 1) 1 = 0
        · have hc2 : ¬ (0 < h (n + 1) 0 ∧ 0 < h (n + 1) 1) := by omega
          refine AL_same C (-4) ?_ ?_
          · rw [eq_Tin_longest_0]
            simp only [px_rd_mk, px_wr_mk, Int.reduceToNat, Int.toNat_natCast, if_true, if_false, Option.bind_some, px_up_cell, px_up_slot, px_up_eq, ne_eq, Nat.reduceEqDiff, not_false_eq_true, Int.reduceEq, Int.reduceLT, Int.reduceLE, Int.reduceNeg, decide_true, decide_false, Bool.and_true, Bool.true_and, Bool.and_false, Bool.false_and, and_self, and_true, true_and, and_false, false_and, bi_T, bi_F, not_true_eq_false, Bool.false_eq_true, kg_1, o2, bi_t hx, R_Tin_within, bi_t hu, bi_t ho, R_lineLacks hn h8 hI, bi_t hc]
          · rw [eq_Mod_longest_0]
            simp only [px_rd_mk, px_wr_mk, Int.reduceToNat, Int.toNat_natCast, if_true, if_false, Option.bind_some, px_up_cell, px_up_slot, px_up_eq, ne_eq, Nat.reduceEqDiff, not_false_eq_true, Int.reduceEq, Int.reduceLT, Int.reduceLE, Int.reduceNeg, decide_true, decide_false, Bool.and_true, Bool.true_and, Bool.and_false, Bool.false_and, and_self, and_true, true_and, and_false, false_and, bi_T, bi_F, not_true_eq_false, Bool.false_eq_true, kg_123, i2, bi_t hx, R_Mod_in, bi_t hu, bi_t ho, R_hasLine hI hS, bi_f hc2]
        · have hc2 : 0 < h (n + 1) 0 ∧ 0 < h (n + 1) 1 := by omega
          obtain ⟨a, rfl⟩ := Int.eq_ofNat_of_zero_le hx.1
          obtain ⟨W, hW2⟩ := Int.eq_ofNat_of_zero_le c2.2.1
          have c8 := hS.2.2.2.2.1
          obtain ⟨N, hN2⟩ := Int.eq_ofNat_of_zero_le c8.2.1
          obtain ⟨s, s1, s2, s3⟩ := LI_s hL hc2.1
          obtain ⟨t, t1, t2, t3⟩ := LI_t hL hc2.2
          have LC0 : LC n h := ⟨hn, hI, hS, LI_LB hL⟩
          have haW : a < W := by omega
          obtain ⟨g0, e0, F0, ⟨gW, gN⟩, P0⟩ := R_begin LC0 s1 s3 t1 t3 hW2 hN2
          obtain ⟨g, e1, F1⟩ := R_tlongest h8 LC0 s1 s3 t1 t3 hW2 hN2 haW hu (show 0 ≤ o ∧ o ≤ 65536 by omega) F0 gW gN P0
          have LCg := LC_F LC0 F1 (by decide) rfl rfl
          have f1 := Fr_st hn F1 rfl (n + 1) (by omega) (by omega)
          have f21 := Fr_st hn F1 rfl (n + 21) (by omega) (by omega)
          obtain ⟨k, m1, G1⟩ := R_mlongest LCg (s := s) (t := t) (W := W) (N := N) ((F1 123 24 rfl).trans s2) (by rw [f1]; exact s3) ((F1 123 25 rfl).trans t2) (by rw [f1]; exact t3) (by rw [f1]; exact hW2) (by rw [f21]; exact hN2) haW hu (show 0 ≤ o ∧ o ≤ 65536 by omega)
          rw [show (fun y => lvl n g s t y) = fun y => lvl n h s t y from funext fun y => lvl_48 hn F1 rfl s t y] at m1
          have hLg := R_hasLine LCg.2.1 LCg.2.2.1
          have i2g := fun x => R_is LCg.2.1 LCg.2.2.1 (y := 2) (k := 2) rfl (by decide) x
          rw [f1] at hLg i2g
          have F : Fr (xcs ++ [137, 138, 139]) [(51, 0), (51, 1), (51, 5)] h k := Fr_sub (Fr_tr F1 G1) rfl rfl
          refine ⟨lgV (hdV W N (fun y => lvl n h s t y) a u o) 400, g, k, ?_, ?_, ⟨n, SP_F F rfl ⟨hn, h8, h9⟩, IR_Fr hI F (by decide), TP_F F rfl hT, FK_F F rfl hK, ST_F hn F rfl hS, LI_F hn F rfl hL, RW_F F rfl hR, CR_F F rfl hC, KS_F F rfl hKs, WI_F hn F rfl hW, BK_F hn F rfl hB⟩⟩
          · rw [eq_Tin_longest_0]
            simp only [px_rd_mk, px_wr_mk, Int.reduceToNat, Int.toNat_natCast, if_true, if_false, Option.bind_some, px_up_cell, px_up_slot, px_up_eq, ne_eq, Nat.reduceEqDiff, not_false_eq_true, Int.reduceEq, Int.reduceLT, Int.reduceLE, Int.reduceNeg, decide_true, decide_false, Bool.and_true, Bool.true_and, Bool.and_false, Bool.false_and, and_self, and_true, true_and, and_false, false_and, bi_T, bi_F, not_true_eq_false, Bool.false_eq_true, kg_1, kg_48, kg_51, o2, bi_t hx, R_Tin_within, bi_t hu, bi_t ho, R_lineLacks hn h8 hI, bi_f hc, ir_1_0 hI, ir_1_1 hI, ir_1_2 hI, ir_1_3 hI, ir_1_4 hI, ir_1_5 hI, ir_1_6 hI, ir_1_7 hI, h8, e0, e1]
          · rw [eq_Mod_longest_0]
            simp only [px_rd_mk, px_wr_mk, Int.reduceToNat, Int.toNat_natCast, if_true, if_false, Option.bind_some, px_up_cell, px_up_slot, px_up_eq, ne_eq, Nat.reduceEqDiff, not_false_eq_true, Int.reduceEq, Int.reduceLT, Int.reduceLE, Int.reduceNeg, decide_true, decide_false, Bool.and_true, Bool.true_and, Bool.and_false, Bool.false_and, and_self, and_true, true_and, and_false, false_and, bi_T, bi_F, not_true_eq_false, Bool.false_eq_true, kg_123, i2g, bi_t hx, R_Mod_in, bi_t hu, bi_t ho, hLg, bi_t hc2, m1]
      · refine AL_same C (-2) ?_ ?_
        · rw [eq_Tin_longest_0]
          simp only [px_rd_mk, px_wr_mk, Int.reduceToNat, Int.toNat_natCast, if_true, if_false, Option.bind_some, px_up_cell, px_up_slot, px_up_eq, ne_eq, Nat.reduceEqDiff, not_false_eq_true, Int.reduceEq, Int.reduceLT, Int.reduceLE, Int.reduceNeg, decide_true, decide_false, Bool.and_true, Bool.true_and, Bool.and_false, Bool.false_and, and_self, and_true, true_and, and_false, false_and, bi_T, bi_F, not_true_eq_false, Bool.false_eq_true, kg_1, o2, bi_t hx, R_Tin_within, bi_t hu, bi_f ho]
        · rw [eq_Mod_longest_0]
          simp only [px_rd_mk, px_wr_mk, Int.reduceToNat, Int.toNat_natCast, if_true, if_false, Option.bind_some, px_up_cell, px_up_slot, px_up_eq, ne_eq, Nat.reduceEqDiff, not_false_eq_true, Int.reduceEq, Int.reduceLT, Int.reduceLE, Int.reduceNeg, decide_true, decide_false, Bool.and_true, Bool.true_and, Bool.and_false, Bool.false_and, and_self, and_true, true_and, and_false, false_and, bi_T, bi_F, not_true_eq_false, Bool.false_eq_true, kg_123, i2, bi_t hx, R_Mod_in, bi_t hu, bi_f ho]
    · refine AL_same C (-2) ?_ ?_
      · rw [eq_Tin_longest_0]
        simp only [px_rd_mk, px_wr_mk, Int.reduceToNat, Int.toNat_natCast, if_true, if_false, Option.bind_some, px_up_cell, px_up_slot, px_up_eq, ne_eq, Nat.reduceEqDiff, not_false_eq_true, Int.reduceEq, Int.reduceLT, Int.reduceLE, Int.reduceNeg, decide_true, decide_false, Bool.and_true, Bool.true_and, Bool.and_false, Bool.false_and, and_self, and_true, true_and, and_false, false_and, bi_T, bi_F, not_true_eq_false, Bool.false_eq_true, kg_1, o2, bi_t hx, R_Tin_within, bi_f hu]
      · rw [eq_Mod_longest_0]
        simp only [px_rd_mk, px_wr_mk, Int.reduceToNat, Int.toNat_natCast, if_true, if_false, Option.bind_some, px_up_cell, px_up_slot, px_up_eq, ne_eq, Nat.reduceEqDiff, not_false_eq_true, Int.reduceEq, Int.reduceLT, Int.reduceLE, Int.reduceNeg, decide_true, decide_false, Bool.and_true, Bool.true_and, Bool.and_false, Bool.false_and, and_self, and_true, true_and, and_false, false_and, bi_T, bi_F, not_true_eq_false, Bool.false_eq_true, kg_123, i2, bi_t hx, R_Mod_in, bi_f hu]
  · refine AL_same C (-2) ?_ ?_
    · rw [eq_Tin_longest_0]
      simp only [px_rd_mk, px_wr_mk, Int.reduceToNat, Int.toNat_natCast, if_true, if_false, Option.bind_some, px_up_cell, px_up_slot, px_up_eq, ne_eq, Nat.reduceEqDiff, not_false_eq_true, Int.reduceEq, Int.reduceLT, Int.reduceLE, Int.reduceNeg, decide_true, decide_false, Bool.and_true, Bool.true_and, Bool.and_false, Bool.false_and, and_self, and_true, true_and, and_false, false_and, bi_T, bi_F, not_true_eq_false, Bool.false_eq_true, kg_1, o2, bi_f hx]
    · rw [eq_Mod_longest_0]
      simp only [px_rd_mk, px_wr_mk, Int.reduceToNat, Int.toNat_natCast, if_true, if_false, Option.bind_some, px_up_cell, px_up_slot, px_up_eq, ne_eq, Nat.reduceEqDiff, not_false_eq_true, Int.reduceEq, Int.reduceLT, Int.reduceLE, Int.reduceNeg, decide_true, decide_false, Bool.and_true, Bool.true_and, Bool.and_false, Bool.false_and, and_self, and_true, true_and, and_false, false_and, bi_T, bi_F, not_true_eq_false, Bool.false_eq_true, kg_123, i2, bi_f hx]
