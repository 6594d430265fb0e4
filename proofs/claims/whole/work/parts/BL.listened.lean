/-! Who listened in. -/
theorem lis_rng {x p y : Int} (hx : 0 ≤ x ∧ x ≤ 99999) (hp : 0 ≤ p ∧ p ≤ 100) (hy : 0 ≤ y ∧ y ≤ 99999) : px_w (px_w (Int.tdiv (px_w (x * px_w (100 - p))) 100) - y) = Int.tdiv (x * (100 - p)) 100 - y ∧ -2147483648 < Int.tdiv (x * (100 - p)) 100 - y ∧ Int.tdiv (x * (100 - p)) 100 - y < 2147483648 := by
  have a1 : 0 ≤ x * (100 - p) := Int.mul_nonneg hx.1 (by omega)
  have a2 : x * (100 - p) ≤ x * 100 := Int.mul_le_mul_of_nonneg_left (by omega) hx.1
  have d : Int.tdiv (x * (100 - p)) 100 = (x * (100 - p)) / 100 := Int.tdiv_eq_ediv_of_nonneg a1
  have u1 : -2147483648 ≤ 100 - p ∧ 100 - p < 2147483648 := by omega
  have u2 : -2147483648 ≤ x * (100 - p) ∧ x * (100 - p) < 2147483648 := by omega
  have u3 : -2147483648 ≤ (x * (100 - p)) / 100 ∧ (x * (100 - p)) / 100 < 2147483648 := by omega
  have u4 : -2147483648 ≤ (x * (100 - p)) / 100 - y ∧ (x * (100 - p)) / 100 - y < 2147483648 := by omega
  refine ⟨?_, by omega, by omega⟩
  rw [px_w_n u1, px_w_n u2, d, px_w_n u3, px_w_n u4]
theorem fx_or4 : ∀ S : Fin 16, ∀ i : Fin 4, px_or (S.val : Int) (px_shl 1 (i.val : Int)) = ((S.val ||| 2 ^ i.val : Nat) : Int) ∧ S.val ||| 2 ^ i.val < 16 ∧ px_or (S.val : Int) 0 = (S.val : Int) := by decide +kernel
/-- the ends whose part is near enough -/
def lisV (A : Nat → Int) (x y z : Int) : Nat → Nat → Nat → Nat
  | 0, _, S => S
  | m + 1, i, S => lisV A x y z m (i + 1) (if z < ((Int.tdiv (x * (100 - A i)) 100 - y).natAbs : Int) then S else S ||| 2 ^ i)
theorem lis_C {x y z x4 : Int} (hx : 0 ≤ x ∧ x ≤ 99999) (hy : 0 ≤ y ∧ y ≤ 99999) {g : hp} (gI : IR g) (m : Nat) : ∀ i S : Nat, i + m = 4 → S < 16 → (∀ q, q < 4 → 0 ≤ g 122 q) → px_R (mm_Tin_listened, 64, [(2, 1), (0, x), (0, y), (0, z), (0, x4), (0, (S : Int)), (0, (i : Int))], [], (K0, g)) = some (if anf (fun q => decide (100 < g 122 q)) i m = true then -1 else (lisV (g 122) x y z m i S : Int), (K0, g)) := by
  induction m with
  | zero =>
    intro i S hi hS V
    have : i = 4 := hi
    subst this
    rw [eq_Tin_listened_64, if_neg (by decide)]
    rfl
  | succ m ih =>
    intro i S hi hS V
    have hlt : ((i : Int) < 4) = True := eq_true (by omega)
    have gi : (decide ((0 : Int) ≤ (i : Int)) && decide ((i : Int) < 16)) = true := gd_ok (by omega)
    rw [anf, lisV, eq_Tin_listened_64]
    by_cases c : 100 < g 122 i
    · have c1 := eq_true c
      rw [decide_eq_true c, Bool.true_or]
      simp only [px_rd_mk, px_wr_mk, Int.reduceToNat, Int.toNat_natCast, if_true, if_false, Option.bind_some, px_up_cell, px_up_slot, px_up_eq, ne_eq, Nat.reduceEqDiff, not_false_eq_true, Int.reduceEq, Int.reduceLT, Int.reduceLE, Int.reduceNeg, decide_true, decide_false, Bool.and_true, Bool.true_and, Bool.and_false, Bool.false_and, and_self, and_true, true_and, and_false, false_and, bi_T, bi_F, not_true_eq_false, Bool.false_eq_true, kg_1, ka_122, hlt, gi, ir_1_0 gI, ir_1_1 gI, ir_1_2 gI, ir_1_3 gI, ir_1_4 gI, ir_1_5 gI, ir_1_6 gI, ir_1_7 gI, c1]
    · have c1 := eq_false c
      have r := lis_rng hx (p := g 122 i) ⟨V i (by omega), by omega⟩ hy
      have ab := px_ab_nat r.2.1 r.2.2
      have f := fx_or4 ⟨S, hS⟩ ⟨i, by omega⟩
      simp only at f
      rw [decide_eq_false c, Bool.false_or]
      by_cases d : z < ((Int.tdiv (x * (100 - g 122 i)) 100 - y).natAbs : Int)
      · have i1 := ih (i + 1) S (by omega) hS V
        have d1 := eq_true d
        rw [if_pos d]
        simp only [px_rd_mk, px_wr_mk, Int.reduceToNat, Int.toNat_natCast, if_true, if_false, Option.bind_some, px_up_cell, px_up_slot, px_up_eq, ne_eq, Nat.reduceEqDiff, not_false_eq_true, Int.reduceEq, Int.reduceLT, Int.reduceLE, Int.reduceNeg, decide_true, decide_false, Bool.and_true, Bool.true_and, Bool.and_false, Bool.false_and, and_self, and_true, true_and, and_false, false_and, bi_T, bi_F, not_true_eq_false, Bool.false_eq_true, kg_1, ka_122, hlt, gi, ir_1_0 gI, ir_1_1 gI, ir_1_2 gI, ir_1_3 gI, ir_1_4 gI, ir_1_5 gI, ir_1_6 gI, ir_1_7 gI, c1, r.1, ab, d1, px_w_s (show i < 1000000 by omega)]
        exact i1
      · have i1 := ih (i + 1) (S ||| 2 ^ i) (by omega) f.2.1 V
        have d1 := eq_false d
        rw [if_neg d]
        simp only [px_rd_mk, px_wr_mk, Int.reduceToNat, Int.toNat_natCast, if_true, if_false, Option.bind_some, px_up_cell, px_up_slot, px_up_eq, ne_eq, Nat.reduceEqDiff, not_false_eq_true, Int.reduceEq, Int.reduceLT, Int.reduceLE, Int.reduceNeg, decide_true, decide_false, Bool.and_true, Bool.true_and, Bool.and_false, Bool.false_and, and_self, and_true, true_and, and_false, false_and, bi_T, bi_F, not_true_eq_false, Bool.false_eq_true, kg_1, ka_122, hlt, gi, ir_1_0 gI, ir_1_1 gI, ir_1_2 gI, ir_1_3 gI, ir_1_4 gI, ir_1_5 gI, ir_1_6 gI, ir_1_7 gI, c1, r.1, ab, d1, f.1, px_w_s (show i < 1000000 by omega)]
        exact i1
theorem lis_M {x y z x4 : Int} (hx : 0 ≤ x ∧ x ≤ 99999) (hy : 0 ≤ y ∧ y ≤ 99999) {g : hp} (gI : IR g) (m : Nat) : ∀ i S : Nat, i + m = 4 → S < 16 → (∀ q, q < 4 → 0 ≤ g 159 q ∧ g 159 q ≤ 100) → px_R (mm_Mod_listened, 63, [(2, 123), (0, x), (0, y), (0, z), (0, x4), (0, (S : Int)), (0, (i : Int))], [], (K0, g)) = some ((lisV (g 159) x y z m i S : Int), (K0, g)) := by
  induction m with
  | zero =>
    intro i S hi hS V
    have : i = 4 := hi
    subst this
    rw [eq_Mod_listened_63, if_neg (by decide)]
    rfl
  | succ m ih =>
    intro i S hi hS V
    have hlt : ((i : Int) < 4) = True := eq_true (by omega)
    have gi : (decide ((0 : Int) ≤ (i : Int)) && decide ((i : Int) < 4)) = true := gd_ok (by omega)
    rw [lisV, eq_Mod_listened_63]
    have r := lis_rng hx (V i (by omega)) hy
    have ab := R_Mod_plain r.2.1 r.2.2 (K0, g)
    have f := fx_or4 ⟨S, hS⟩ ⟨i, by omega⟩
    simp only at f
    by_cases d : z < ((Int.tdiv (x * (100 - g 159 i)) 100 - y).natAbs : Int)
    · have i1 := ih (i + 1) S (by omega) hS V
      have d1 := eq_true d
      rw [if_pos d]
      simp only [px_rd_mk, px_wr_mk, Int.reduceToNat, Int.toNat_natCast, if_true, if_false, Option.bind_some, px_up_cell, px_up_slot, px_up_eq, ne_eq, Nat.reduceEqDiff, not_false_eq_true, Int.reduceEq, Int.reduceLT, Int.reduceLE, Int.reduceNeg, decide_true, decide_false, Bool.and_true, Bool.true_and, Bool.and_false, Bool.false_and, and_self, and_true, true_and, and_false, false_and, bi_T, bi_F, not_true_eq_false, Bool.false_eq_true, kg_123, ka_159, hlt, Int.natCast_nonneg i, gi, ir_123_0 gI, ir_123_12 gI, ir_123_13 gI, ir_123_14 gI, ir_123_15 gI, ir_123_16 gI, ir_123_17 gI, ir_123_18 gI, ir_123_19 gI, ir_123_20 gI, ir_123_21 gI, ir_123_30 gI, ir_123_31 gI, ir_123_32 gI, ir_123_33 gI, ir_123_34 gI, ir_123_35 gI, ir_123_36 gI, ir_123_37 gI, ir_123_38 gI, ir_123_39 gI, ir_123_41 gI, ir_123_42 gI, ir_123_44 gI, ir_123_45 gI, ir_123_46 gI, ir_123_50 gI, ir_123_54 gI, ir_123_55 gI, ir_123_56 gI, ir_123_57 gI, ir_123_58 gI, ir_123_59 gI, ir_123_60 gI, ir_123_61 gI, ir_123_62 gI, r.1, ab, d1, f.2.2, px_w_s (show i < 1000000 by omega)]
      exact i1
    · have i1 := ih (i + 1) (S ||| 2 ^ i) (by omega) f.2.1 V
      have d1 := eq_false d
      rw [if_neg d]
      simp only [px_rd_mk, px_wr_mk, Int.reduceToNat, Int.toNat_natCast, if_true, if_false, Option.bind_some, px_up_cell, px_up_slot, px_up_eq, ne_eq, Nat.reduceEqDiff, not_false_eq_true, Int.reduceEq, Int.reduceLT, Int.reduceLE, Int.reduceNeg, decide_true, decide_false, Bool.and_true, Bool.true_and, Bool.and_false, Bool.false_and, and_self, and_true, true_and, and_false, false_and, bi_T, bi_F, not_true_eq_false, Bool.false_eq_true, kg_123, ka_159, hlt, Int.natCast_nonneg i, gi, ir_123_0 gI, ir_123_12 gI, ir_123_13 gI, ir_123_14 gI, ir_123_15 gI, ir_123_16 gI, ir_123_17 gI, ir_123_18 gI, ir_123_19 gI, ir_123_20 gI, ir_123_21 gI, ir_123_30 gI, ir_123_31 gI, ir_123_32 gI, ir_123_33 gI, ir_123_34 gI, ir_123_35 gI, ir_123_36 gI, ir_123_37 gI, ir_123_38 gI, ir_123_39 gI, ir_123_41 gI, ir_123_42 gI, ir_123_44 gI, ir_123_45 gI, ir_123_46 gI, ir_123_50 gI, ir_123_54 gI, ir_123_55 gI, ir_123_56 gI, ir_123_57 gI, ir_123_58 gI, ir_123_59 gI, ir_123_60 gI, ir_123_61 gI, ir_123_62 gI, r.1, ab, d1, f.1, px_w_s (show i < 1000000 by omega)]
      exact i1
theorem lisV_c {A B : Nat → Int} {x y z : Int} (m : Nat) : ∀ i S : Nat, (∀ q, i ≤ q → q < i + m → B q = A q) → lisV B x y z m i S = lisV A x y z m i S := by
  induction m with
  | zero => intro i S _; rfl
  | succ m ih =>
    intro i S e
    rw [lisV, lisV, e i (Nat.le_refl _) (by omega), ih (i + 1) _ (fun q h1 h2 => e q (by omega) (by omega))]
theorem C_listened {h : hp} (C : CI h) (x y z : Int) : AL h mm_Tin_listened mm_Mod_listened [(2, 1), (0, x), (0, y), (0, z), (9, 0), (9, 0), (9, 0)] [(2, 123), (0, x), (0, y), (0, z), (9, 0), (9, 0), (9, 0)] := by
  have C2 := C
  obtain ⟨n, ⟨hn, h8, h9⟩, hI, hT, hK, hS, hL, hR, hC, hKs, hW, hB⟩ := C2
  obtain ⟨v, v2, g, k, e1, e2, G1, G2, g1, k1, R⟩ := R_numbers_159 hI hT (cap := 4) (by decide) 100
  have F : Fr [122, 159] (nss ++ mss) h k := Fr_sub (Fr_tr G1 G2) rfl rfl
  have gI := IR_Fr hI G1 (by decide)
  have kI := IR_Fr hI F (by decide)
  have Ck : CI k := ⟨n, SP_F F rfl ⟨hn, h8, h9⟩, IR_Fr hI F (by decide), ⟨k1.trans ((G2 2 1 rfl).trans g1).symm, by rw [(G2 2 1 rfl).trans g1]; omega, fun i => by rw [F 124 i rfl, F 3 i rfl]; exact hT.2.2 i⟩, FK_F F rfl hK, ST_F hn F rfl hS, LI_F hn F rfl hL, RW_F F rfl hR, CR_F F rfl hC, KS_F F rfl hKs, WI_F hn F rfl hW, BK_F hn F rfl hB⟩
  have e1 : px_R (mm_Tape_readNumbers, 0, [(2, 2), (2, 122), (0, 4), (9, 0), (9, 0)], [], (K0, h)) = some (v, (K0, g)) := e1
  have e2 : px_R (mm_Mod_readNumbers, 0, [(2, 123), (2, 159), (0, 4), (0, 100), (9, 0)], [], (K0, g)) = some (v2, (K0, k)) := e2
  by_cases hx : 0 ≤ x ∧ x ≤ 99999
  · by_cases hy : 0 ≤ y ∧ y ≤ 99999
    · by_cases hz : 0 ≤ z ∧ z ≤ 99999
      · by_cases v4 : v = 4
        · have v41 := eq_true v4
          rcases R with ⟨r1, _⟩ | ⟨n, r1, r2, r3, r4⟩
          · omega
          · have n4 : n = 4 := by omega
            subst n4
            have lc := lis_C (z := z) (x4 := v) hx hy gI 4 0 0 rfl (by decide) (fun q hq => (r3 q hq).1)
            have lc : px_R (mm_Tin_listened, 64, [(2, 1), (0, x), (0, y), (0, z), (0, v), (0, 0), (0, 0)], [], (K0, g)) = _ := lc
            rcases r4 with ⟨r4, r5⟩ | ⟨r4, q, q1, q2⟩
            · have af : anf (fun q => decide (100 < g 122 q)) 0 4 = false := by
                rw [Bool.eq_false_iff]
                intro w
                obtain ⟨j, j1, j2, j3⟩ := (anf_iff _ 4 0).mp w
                have := of_decide_eq_true j3
                have := (r5 j (by omega)).1
                omega
              rw [af, if_neg (by decide)] at lc
              have lm := lis_M (z := z) (x4 := v2) hx hy kI 4 0 0 rfl (by decide) (fun q hq => by
                have a := r5 q hq
                have b := r3 q hq
                omega)
              have lm : px_R (mm_Mod_listened, 63, [(2, 123), (0, x), (0, y), (0, z), (0, v2), (0, 0), (0, 0)], [], (K0, k)) = _ := lm
              have lcc := lisV_c (x := x) (y := y) (z := z) 4 0 0 (fun q _ h2 => (r5 q (by omega)).2)
              rw [lcc] at lm
              have v42 : (v2 = 4) = True := eq_true (by omega)
              refine ⟨(lisV (g 122) x y z 4 0 0 : Int), g, k, ?_, ?_, Ck⟩
              · rw [eq_Tin_listened_0]
                simp only [px_rd_mk, px_wr_mk, Int.reduceToNat, Int.toNat_natCast, if_true, if_false, Option.bind_some, px_up_cell, px_up_slot, px_up_eq, ne_eq, Nat.reduceEqDiff, not_false_eq_true, Int.reduceEq, Int.reduceLT, Int.reduceLE, Int.reduceNeg, decide_true, decide_false, Bool.and_true, Bool.true_and, Bool.and_false, Bool.false_and, and_self, and_true, true_and, and_false, false_and, bi_T, bi_F, not_true_eq_false, Bool.false_eq_true, kg_1, kg_2, ir_1_0 hI, ir_1_1 hI, ir_1_2 hI, ir_1_3 hI, ir_1_4 hI, ir_1_5 hI, ir_1_6 hI, ir_1_7 hI, e1, R_Tin_within, bi_t hx, bi_t hy, bi_t hz, v41]
                exact lc
              · rw [eq_Mod_listened_0]
                simp only [px_rd_mk, px_wr_mk, Int.reduceToNat, Int.toNat_natCast, if_true, if_false, Option.bind_some, px_up_cell, px_up_slot, px_up_eq, ne_eq, Nat.reduceEqDiff, not_false_eq_true, Int.reduceEq, Int.reduceLT, Int.reduceLE, Int.reduceNeg, decide_true, decide_false, Bool.and_true, Bool.true_and, Bool.and_false, Bool.false_and, and_self, and_true, true_and, and_false, false_and, bi_T, bi_F, not_true_eq_false, Bool.false_eq_true, kg_123, ir_123_0 gI, ir_123_12 gI, ir_123_13 gI, ir_123_14 gI, ir_123_15 gI, ir_123_16 gI, ir_123_17 gI, ir_123_18 gI, ir_123_19 gI, ir_123_20 gI, ir_123_21 gI, ir_123_30 gI, ir_123_31 gI, ir_123_32 gI, ir_123_33 gI, ir_123_34 gI, ir_123_35 gI, ir_123_36 gI, ir_123_37 gI, ir_123_38 gI, ir_123_39 gI, ir_123_41 gI, ir_123_42 gI, ir_123_44 gI, ir_123_45 gI, ir_123_46 gI, ir_123_50 gI, ir_123_54 gI, ir_123_55 gI, ir_123_56 gI, ir_123_57 gI, ir_123_58 gI, ir_123_59 gI, ir_123_60 gI, ir_123_61 gI, ir_123_62 gI, e2, R_Mod_in, bi_t hx, bi_t hy, bi_t hz, v42]
                exact lm
            · have af : anf (fun q => decide (100 < g 122 q)) 0 4 = true := (anf_iff _ 4 0).mpr ⟨q, by omega, by omega, decide_eq_true q2⟩
              rw [af, if_pos rfl] at lc
              have v42 : (v2 = 4) = False := eq_false (by omega)
              refine ⟨-1, g, k, ?_, ?_, Ck⟩
              · rw [eq_Tin_listened_0]
                simp only [px_rd_mk, px_wr_mk, Int.reduceToNat, Int.toNat_natCast, if_true, if_false, Option.bind_some, px_up_cell, px_up_slot, px_up_eq, ne_eq, Nat.reduceEqDiff, not_false_eq_true, Int.reduceEq, Int.reduceLT, Int.reduceLE, Int.reduceNeg, decide_true, decide_false, Bool.and_true, Bool.true_and, Bool.and_false, Bool.false_and, and_self, and_true, true_and, and_false, false_and, bi_T, bi_F, not_true_eq_false, Bool.false_eq_true, kg_1, kg_2, ir_1_0 hI, ir_1_1 hI, ir_1_2 hI, ir_1_3 hI, ir_1_4 hI, ir_1_5 hI, ir_1_6 hI, ir_1_7 hI, e1, R_Tin_within, bi_t hx, bi_t hy, bi_t hz, v41]
                exact lc
              · rw [eq_Mod_listened_0]
                simp only [px_rd_mk, px_wr_mk, Int.reduceToNat, Int.toNat_natCast, if_true, if_false, Option.bind_some, px_up_cell, px_up_slot, px_up_eq, ne_eq, Nat.reduceEqDiff, not_false_eq_true, Int.reduceEq, Int.reduceLT, Int.reduceLE, Int.reduceNeg, decide_true, decide_false, Bool.and_true, Bool.true_and, Bool.and_false, Bool.false_and, and_self, and_true, true_and, and_false, false_and, bi_T, bi_F, not_true_eq_false, Bool.false_eq_true, kg_123, ir_123_0 gI, ir_123_12 gI, ir_123_13 gI, ir_123_14 gI, ir_123_15 gI, ir_123_16 gI, ir_123_17 gI, ir_123_18 gI, ir_123_19 gI, ir_123_20 gI, ir_123_21 gI, ir_123_30 gI, ir_123_31 gI, ir_123_32 gI, ir_123_33 gI, ir_123_34 gI, ir_123_35 gI, ir_123_36 gI, ir_123_37 gI, ir_123_38 gI, ir_123_39 gI, ir_123_41 gI, ir_123_42 gI, ir_123_44 gI, ir_123_45 gI, ir_123_46 gI, ir_123_50 gI, ir_123_54 gI, ir_123_55 gI, ir_123_56 gI, ir_123_57 gI, ir_123_58 gI, ir_123_59 gI, ir_123_60 gI, ir_123_61 gI, ir_123_62 gI, e2, R_Mod_in, bi_t hx, bi_t hy, bi_t hz, v42]
        · have v41 := eq_false v4
          have v42 : (v2 = 4) = False := eq_false (by
            rcases R with ⟨_, r1⟩ | ⟨n, r1, r2, r3, ⟨r4, _⟩ | ⟨r4, _⟩⟩ <;> omega)
          refine ⟨-1, g, k, ?_, ?_, Ck⟩
          · rw [eq_Tin_listened_0]
            simp only [px_rd_mk, px_wr_mk, Int.reduceToNat, Int.toNat_natCast, if_true, if_false, Option.bind_some, px_up_cell, px_up_slot, px_up_eq, ne_eq, Nat.reduceEqDiff, not_false_eq_true, Int.reduceEq, Int.reduceLT, Int.reduceLE, Int.reduceNeg, decide_true, decide_false, Bool.and_true, Bool.true_and, Bool.and_false, Bool.false_and, and_self, and_true, true_and, and_false, false_and, bi_T, bi_F, not_true_eq_false, Bool.false_eq_true, kg_1, kg_2, ir_1_0 hI, ir_1_1 hI, ir_1_2 hI, ir_1_3 hI, ir_1_4 hI, ir_1_5 hI, ir_1_6 hI, ir_1_7 hI, e1, R_Tin_within, bi_t hx, bi_t hy, bi_t hz, v41]
          · rw [eq_Mod_listened_0]
            simp only [px_rd_mk, px_wr_mk, Int.reduceToNat, Int.toNat_natCast, if_true, if_false, Option.bind_some, px_up_cell, px_up_slot, px_up_eq, ne_eq, Nat.reduceEqDiff, not_false_eq_true, Int.reduceEq, Int.reduceLT, Int.reduceLE, Int.reduceNeg, decide_true, decide_false, Bool.and_true, Bool.true_and, Bool.and_false, Bool.false_and, and_self, and_true, true_and, and_false, false_and, bi_T, bi_F, not_true_eq_false, Bool.false_eq_true, kg_123, ir_123_0 gI, ir_123_12 gI, ir_123_13 gI, ir_123_14 gI, ir_123_15 gI, ir_123_16 gI, ir_123_17 gI, ir_123_18 gI, ir_123_19 gI, ir_123_20 gI, ir_123_21 gI, ir_123_30 gI, ir_123_31 gI, ir_123_32 gI, ir_123_33 gI, ir_123_34 gI, ir_123_35 gI, ir_123_36 gI, ir_123_37 gI, ir_123_38 gI, ir_123_39 gI, ir_123_41 gI, ir_123_42 gI, ir_123_44 gI, ir_123_45 gI, ir_123_46 gI, ir_123_50 gI, ir_123_54 gI, ir_123_55 gI, ir_123_56 gI, ir_123_57 gI, ir_123_58 gI, ir_123_59 gI, ir_123_60 gI, ir_123_61 gI, ir_123_62 gI, e2, R_Mod_in, bi_t hx, bi_t hy, bi_t hz, v42]
      · refine ⟨-2, g, k, ?_, ?_, Ck⟩
        · rw [eq_Tin_listened_0]
          simp only [px_rd_mk, px_wr_mk, Int.reduceToNat, Int.toNat_natCast, if_true, if_false, Option.bind_some, px_up_cell, px_up_slot, px_up_eq, ne_eq, Nat.reduceEqDiff, not_false_eq_true, Int.reduceEq, Int.reduceLT, Int.reduceLE, Int.reduceNeg, decide_true, decide_false, Bool.and_true, Bool.true_and, Bool.and_false, Bool.false_and, and_self, and_true, true_and, and_false, false_and, bi_T, bi_F, not_true_eq_false, Bool.false_eq_true, kg_1, kg_2, ir_1_0 hI, ir_1_1 hI, ir_1_2 hI, ir_1_3 hI, ir_1_4 hI, ir_1_5 hI, ir_1_6 hI, ir_1_7 hI, e1, R_Tin_within, bi_t hx, bi_t hy, bi_f hz]
        · rw [eq_Mod_listened_0]
          simp only [px_rd_mk, px_wr_mk, Int.reduceToNat, Int.toNat_natCast, if_true, if_false, Option.bind_some, px_up_cell, px_up_slot, px_up_eq, ne_eq, Nat.reduceEqDiff, not_false_eq_true, Int.reduceEq, Int.reduceLT, Int.reduceLE, Int.reduceNeg, decide_true, decide_false, Bool.and_true, Bool.true_and, Bool.and_false, Bool.false_and, and_self, and_true, true_and, and_false, false_and, bi_T, bi_F, not_true_eq_false, Bool.false_eq_true, kg_123, ir_123_0 gI, ir_123_12 gI, ir_123_13 gI, ir_123_14 gI, ir_123_15 gI, ir_123_16 gI, ir_123_17 gI, ir_123_18 gI, ir_123_19 gI, ir_123_20 gI, ir_123_21 gI, ir_123_30 gI, ir_123_31 gI, ir_123_32 gI, ir_123_33 gI, ir_123_34 gI, ir_123_35 gI, ir_123_36 gI, ir_123_37 gI, ir_123_38 gI, ir_123_39 gI, ir_123_41 gI, ir_123_42 gI, ir_123_44 gI, ir_123_45 gI, ir_123_46 gI, ir_123_50 gI, ir_123_54 gI, ir_123_55 gI, ir_123_56 gI, ir_123_57 gI, ir_123_58 gI, ir_123_59 gI, ir_123_60 gI, ir_123_61 gI, ir_123_62 gI, e2, R_Mod_in, bi_t hx, bi_t hy, bi_f hz]
    · refine ⟨-2, g, k, ?_, ?_, Ck⟩
      · rw [eq_Tin_listened_0]
        simp only [px_rd_mk, px_wr_mk, Int.reduceToNat, Int.toNat_natCast, if_true, if_false, Option.bind_some, px_up_cell, px_up_slot, px_up_eq, ne_eq, Nat.reduceEqDiff, not_false_eq_true, Int.reduceEq, Int.reduceLT, Int.reduceLE, Int.reduceNeg, decide_true, decide_false, Bool.and_true, Bool.true_and, Bool.and_false, Bool.false_and, and_self, and_true, true_and, and_false, false_and, bi_T, bi_F, not_true_eq_false, Bool.false_eq_true, kg_1, kg_2, ir_1_0 hI, ir_1_1 hI, ir_1_2 hI, ir_1_3 hI, ir_1_4 hI, ir_1_5 hI, ir_1_6 hI, ir_1_7 hI, e1, R_Tin_within, bi_t hx, bi_f hy]
      · rw [eq_Mod_listened_0]
        simp only [px_rd_mk, px_wr_mk, Int.reduceToNat, Int.toNat_natCast, if_true, if_false, Option.bind_some, px_up_cell, px_up_slot, px_up_eq, ne_eq, Nat.reduceEqDiff, not_false_eq_true, Int.reduceEq, Int.reduceLT, Int.reduceLE, Int.reduceNeg, decide_true, decide_false, Bool.and_true, Bool.true_and, Bool.and_false, Bool.false_and, and_self, and_true, true_and, and_false, false_and, bi_T, bi_F, not_true_eq_false, Bool.false_eq_true, kg_123, ir_123_0 gI, ir_123_12 gI, ir_123_13 gI, ir_123_14 gI, ir_123_15 gI, ir_123_16 gI, ir_123_17 gI, ir_123_18 gI, ir_123_19 gI, ir_123_20 gI, ir_123_21 gI, ir_123_30 gI, ir_123_31 gI, ir_123_32 gI, ir_123_33 gI, ir_123_34 gI, ir_123_35 gI, ir_123_36 gI, ir_123_37 gI, ir_123_38 gI, ir_123_39 gI, ir_123_41 gI, ir_123_42 gI, ir_123_44 gI, ir_123_45 gI, ir_123_46 gI, ir_123_50 gI, ir_123_54 gI, ir_123_55 gI, ir_123_56 gI, ir_123_57 gI, ir_123_58 gI, ir_123_59 gI, ir_123_60 gI, ir_123_61 gI, ir_123_62 gI, e2, R_Mod_in, bi_t hx, bi_f hy]
  · refine ⟨-2, g, k, ?_, ?_, Ck⟩
    · rw [eq_Tin_listened_0]
      simp only [px_rd_mk, px_wr_mk, Int.reduceToNat, Int.toNat_natCast, if_true, if_false, Option.bind_some, px_up_cell, px_up_slot, px_up_eq, ne_eq, Nat.reduceEqDiff, not_false_eq_true, Int.reduceEq, Int.reduceLT, Int.reduceLE, Int.reduceNeg, decide_true, decide_false, Bool.and_true, Bool.true_and, Bool.and_false, Bool.false_and, and_self, and_true, true_and, and_false, false_and, bi_T, bi_F, not_true_eq_false, Bool.false_eq_true, kg_1, kg_2, ir_1_0 hI, ir_1_1 hI, ir_1_2 hI, ir_1_3 hI, ir_1_4 hI, ir_1_5 hI, ir_1_6 hI, ir_1_7 hI, e1, R_Tin_within, bi_f hx]
    · rw [eq_Mod_listened_0]
      simp only [px_rd_mk, px_wr_mk, Int.reduceToNat, Int.toNat_natCast, if_true, if_false, Option.bind_some, px_up_cell, px_up_slot, px_up_eq, ne_eq, Nat.reduceEqDiff, not_false_eq_true, Int.reduceEq, Int.reduceLT, Int.reduceLE, Int.reduceNeg, decide_true, decide_false, Bool.and_true, Bool.true_and, Bool.and_false, Bool.false_and, and_self, and_true, true_and, and_false, false_and, bi_T, bi_F, not_true_eq_false, Bool.false_eq_true, kg_123, ir_123_0 gI, ir_123_12 gI, ir_123_13 gI, ir_123_14 gI, ir_123_15 gI, ir_123_16 gI, ir_123_17 gI, ir_123_18 gI, ir_123_19 gI, ir_123_20 gI, ir_123_21 gI, ir_123_30 gI, ir_123_31 gI, ir_123_32 gI, ir_123_33 gI, ir_123_34 gI, ir_123_35 gI, ir_123_36 gI, ir_123_37 gI, ir_123_38 gI, ir_123_39 gI, ir_123_41 gI, ir_123_42 gI, ir_123_44 gI, ir_123_45 gI, ir_123_46 gI, ir_123_50 gI, ir_123_54 gI, ir_123_55 gI, ir_123_56 gI, ir_123_57 gI, ir_123_58 gI, ir_123_59 gI, ir_123_60 gI, ir_123_61 gI, ir_123_62 gI, e2, R_Mod_in, bi_f hx]
