/-! said. -/
def noO : Nat → Int → Int → Int → Option Int
  | 0, _, _, _ => none
  | f + 1, N, x2, x3 => if x3 < N then (if px_w (x2 - px_w (px_w (N + 1) - px_ab x3)) < 0 then some x3 else noO f N (px_w (x2 - px_w (px_w (N + 1) - px_ab x3))) (px_w (x3 + 1))) else some N
theorem noO_R {h : hp} {N : Int} (hN : h 51 1 = N) (x1 r : Int) : ∀ (f : Nat) (x2 x3 : Int), noO f N x2 x3 = some r → px_R (mm_Ear_noiseOf, 8, [(2, 51), (0, x1), (0, x2), (0, x3)], [], (K0, h)) = some (r, (K0, h))
  | 0, _, _, e => by cases e
  | f + 1, x2, x3, e => by
    rw [noO] at e
    rw [eq_Ear_noiseOf_8]
    simp only [px_rd_mk, px_wr_mk, Int.reduceToNat, Int.toNat_natCast, if_true, if_false, Option.bind_some, px_up_cell, px_up_slot, px_up_eq, ne_eq, Nat.reduceEqDiff, not_false_eq_true, Int.reduceEq, Int.reduceLT, Int.reduceLE, Int.reduceNeg, decide_true, decide_false, Bool.and_true, Bool.true_and, Bool.and_false, Bool.false_and, and_self, and_true, true_and, and_false, false_and, bi_T, bi_F, not_true_eq_false, Bool.false_eq_true, kg_51, hN]
    by_cases c1 : x3 < N
    · rw [if_pos c1] at e ⊢
      by_cases c2 : px_w (x2 - px_w (px_w (N + 1) - px_ab x3)) < 0
      · rw [if_pos c2] at e ⊢
        cases e
        rfl
      · rw [if_neg c2] at e ⊢
        exact noO_R hN x1 r f _ _ e
    · rw [if_neg c1] at e ⊢
      cases e
      rfl
def snO : Nat → Int → Int → Int → Option Int
  | 0, _, _, _ => none
  | f + 1, N, x7, x8 => if -2147483648 < x8 ∧ x8 < 2147483648 then (if x7 < px_w (px_w (N + 1) - (x8.natAbs : Int)) then some x8 else snO f N (px_w (x7 - px_w (px_w (N + 1) - (x8.natAbs : Int)))) (px_w (x8 + 1))) else none
def nzI (N d : Nat) : Nat := ((noO 8 (N : Int) (d : Int) (px_w (-(N : Int)))).getD 0 + (N : Int)).toNat
theorem fx_nz : ∀ N : Fin 4, ∀ d : Fin 16, d.val < (N.val + 1) * (N.val + 1) → noO 8 (N.val : Int) (d.val : Int) (px_w (-(N.val : Int))) = some ((nzI N.val d.val : Int) - (N.val : Int)) ∧ snO 8 (N.val : Int) (d.val : Int) (px_w (-(N.val : Int))) = some ((nzI N.val d.val : Int) - (N.val : Int)) ∧ nzI N.val d.val ≤ 2 * N.val := by decide +kernel
def nxS (s : Nat) : Nat := (1103515245 * s + 12345) % 2147483648
def drS (N s : Nat) : Nat := nxS s / 65536 % ((N + 1) * (N + 1))
def sqS (s : Nat) : Nat → Nat
  | 0 => s
  | b + 1 => nxS (sqS s b)
def viS (N s b : Nat) : Nat := nzI N (drS N (sqS s b))
theorem nx_w {s : Nat} (hs : s < 2147483648) : Int.tmod (px_wl (px_wl (1103515245 * (s : Int)) + 12345)) 2147483648 = ((nxS s : Nat) : Int) := by
  have v1 : -9223372036854775808 ≤ 1103515245 * (s : Int) ∧ 1103515245 * (s : Int) < 9223372036854775808 := by omega
  have v2 : -9223372036854775808 ≤ 1103515245 * (s : Int) + 12345 ∧ 1103515245 * (s : Int) + 12345 < 9223372036854775808 := by omega
  rw [px_wl_n v1, px_wl_n v2]
  have e : 1103515245 * (s : Int) + 12345 = ((1103515245 * s + 12345 : Nat) : Int) := by omega
  rw [e]
  exact tmod_n (1103515245 * s + 12345) 2147483648
theorem nxS_lt (s : Nat) : nxS s < 2147483648 := Nat.mod_lt _ (by decide)
theorem sqS_lt {s : Nat} (hs : s < 2147483648) : ∀ b, sqS s b < 2147483648
  | 0 => hs
  | b + 1 => nxS_lt _
theorem N1_w {N : Nat} (hN : N ≤ 3) : px_w (px_w ((N : Int) + 1) * px_w ((N : Int) + 1)) = (((N + 1) * (N + 1) : Nat) : Int) := by
  have q : N = 0 ∨ N = 1 ∨ N = 2 ∨ N = 3 := by omega
  rcases q with rfl | rfl | rfl | rfl <;> rfl
theorem dr_w {N s : Nat} (hN : N ≤ 3) : px_w (Int.tmod (px_wl (Int.tdiv ((nxS s : Nat) : Int) 65536)) (((N + 1) * (N + 1) : Nat) : Int)) = ((drS N s : Nat) : Int) ∧ drS N s < (N + 1) * (N + 1) := by
  have l := nxS_lt s
  have e1 : Int.tdiv ((nxS s : Nat) : Int) 65536 = ((nxS s / 65536 : Nat) : Int) := tdiv_n _ 65536
  have l2 : nxS s / 65536 < 2147483648 := Nat.lt_of_le_of_lt (Nat.div_le_self _ _) l
  have lt : drS N s < (N + 1) * (N + 1) := Nat.mod_lt _ (Nat.mul_pos (Nat.succ_pos N) (Nat.succ_pos N))
  have l3 : (N + 1) * (N + 1) ≤ 16 := Nat.mul_le_mul (show N + 1 ≤ 4 by omega) (show N + 1 ≤ 4 by omega)
  have v1 : -9223372036854775808 ≤ ((nxS s / 65536 : Nat) : Int) ∧ ((nxS s / 65536 : Nat) : Int) < 9223372036854775808 := ⟨Int.le_trans (by decide) (Int.natCast_nonneg _), Int.lt_trans (Int.ofNat_lt.mpr l2) (by decide)⟩
  have e2 : ((nxS s / 65536 % ((N + 1) * (N + 1)) : Nat) : Int) = ((drS N s : Nat) : Int) := rfl
  have lt2 : drS N s < 16 := Nat.lt_of_lt_of_le lt l3
  rw [e1, px_wl_n v1, tmod_n, e2]
  exact ⟨px_w_id (by omega) (by omega), lt⟩
theorem R_noiseOf {W N : Nat} {L : Nat → Nat → Int} {h : hp} (E : EC W N L h) {d : Nat} (hd : d < (N + 1) * (N + 1)) : px_R (mm_Ear_noiseOf, 0, [(2, 51), (0, (d : Int)), (9, 0), (9, 0)], [], (K0, h)) = some ((nzI N d : Int) - (N : Int), (K0, h)) := by
  have hN := E.2.1
  have l3 : (N + 1) * (N + 1) ≤ 16 := Nat.mul_le_mul (show N + 1 ≤ 4 by omega) (show N + 1 ≤ 4 by omega)
  have fx := fx_nz ⟨N, by omega⟩ ⟨d, by omega⟩ hd
  have r := noO_R E.2.2.2.2.1 (d : Int) _ 8 _ _ fx.1
  rw [eq_Ear_noiseOf_0]
  simp only [px_rd_mk, px_wr_mk, Int.reduceToNat, Int.toNat_natCast, if_true, if_false, Option.bind_some, px_up_cell, px_up_slot, px_up_eq, ne_eq, Nat.reduceEqDiff, not_false_eq_true, Int.reduceEq, Int.reduceLT, Int.reduceLE, Int.reduceNeg, decide_true, decide_false, Bool.and_true, Bool.true_and, Bool.and_false, Bool.false_and, and_self, and_true, true_and, and_false, false_and, bi_T, bi_F, not_true_eq_false, Bool.false_eq_true, kg_51, E.2.2.2.2.1]
  exact r
theorem R_hearOnce {W N : Nat} {L : Nat → Nat → Int} {h : hp} (E : EC W N L h) {a s : Nat} (ha : a < W) (hs : s < 2147483648) : ∃ g : hp, px_R (mm_Ear_hearOnce, 0, [(2, 51), (0, (a : Int)), (0, (s : Int)), (9, 0), (9, 0), (9, 0), (9, 0), (9, 0), (9, 0)], [], (K0, h)) = some (eaV W (2 ^ W - 1) (dst L (rwC L a N (viS N s 0) (viS N s 1) (viS N s 2) (viS N s 3))), (K0, g)) ∧ Fr [67] [(51, 5)] h g := by
  have hW := E.1
  have hN := E.2.1
  have T64 := all_lt hW
  obtain ⟨g1, m, t, e1, F1, m1, m2, TLt⟩ := R_thinkOf E (T := 2 ^ W - 1) (by omega)
  have inA := (fx_all ⟨W, by omega⟩).2 ⟨a, by omega⟩ ha
  obtain ⟨j, j1, _, _⟩ := TLt.2.2.2 a ha inA
  have E1 := EC_F E F1 (by decide) rfl
  have H1 : TC W N L m t g1 := ⟨E1, m1, ⟨by omega, by have := TLt.1; omega⟩, fun j hj => ⟨m2 j hj, (TLt.2.1 j hj).1⟩⟩
  have I1 := E1.2.2.1
  have n1 : -2147483648 ≤ (N : Int) + 1 ∧ (N : Int) + 1 < 2147483648 := by omega
  have nz : (!decide ((((N + 1) * (N + 1) : Nat) : Int) = 0)) = true := by
    have : 0 < (N + 1) * (N + 1) := Nat.mul_pos (Nat.succ_pos N) (Nat.succ_pos N)
    simp
    omega
  have ofr : ∀ b i : Nat, b < 4 → 0 ≤ ofV L m t N a b i ∧ ofV L m t N a b i < 1152921504606846976 := fun b i hb => ofV_rng H1 hb
  have stp : ∀ (b : Nat) (off : Int) (y8 : pv), b < 4 → (0 ≤ off ∧ off < 4611686018427387904) → ∃ z8 : pv, px_R (mm_Ear_hearOnce, 21, [(2, 51), (0, (a : Int)), (0, (s : Int)), (1, ((sqS s b : Nat) : Int)), (9, 0), (1, off), (9, 0), (0, (b : Int)), y8], [], (K0, g1)) = px_R (mm_Ear_hearOnce, 21, [(2, 51), (0, (a : Int)), (0, (s : Int)), (1, ((sqS s (b + 1) : Nat) : Int)), (9, 0), (1, off + ofV L m t N a b (viS N s b)), (9, 0), (0, ((b + 1 : Nat) : Int)), z8], [], (K0, g1)) := fun b off y8 hb ho => by
    have hl : (b : Int) < 4 := by omega
    have ss := sqS_lt hs b
    have nx := nx_w ss
    have dr := dr_w (s := sqS s b) hN
    have no := R_noiseOf E1 (d := drS N (sqS s b)) dr.2
    have l3 : (N + 1) * (N + 1) ≤ 16 := Nat.mul_le_mul (show N + 1 ≤ 4 by omega) (show N + 1 ≤ 4 by omega)
    have fx := fx_nz ⟨N, by omega⟩ ⟨drS N (sqS s b), by omega⟩ dr.2
    have fz : nzI N (drS N (sqS s b)) ≤ 2 * N := fx.2.2
    have hw := R_heardWith E1 ha hb (v := (nzI N (drS N (sqS s b)) : Int) - (N : Int)) (by omega)
    have c09 := clp_rng (lo := 0) (hi := 9) (by decide) (L a b + ((nzI N (drS N (sqS s b)) : Int) - (N : Int)))
    have of := R_offFrom H1 hb c09
    have oo := ofr b (viS N s b) hb
    have of : px_R (mm_Ear_offFrom, 0, [(2, 51), (0, (b : Int)), (0, clp 0 9 (L a b + ((nzI N (drS N (sqS s b)) : Int) - (N : Int)))), (9, 0), (9, 0), (9, 0), (9, 0)], [], (K0, g1)) = some (ofV L m t N a b (viS N s b), (K0, g1)) := of
    have v1 : -9223372036854775808 ≤ off + ofV L m t N a b (viS N s b) ∧ off + ofV L m t N a b (viS N s b) < 9223372036854775808 := by omega
    refine ⟨(0, ((drS N (sqS s b) : Nat) : Int)), ?_⟩
    rw [eq_Ear_hearOnce_21, if_pos hl]
    simp only [px_rd_mk, px_wr_mk, Int.reduceToNat, Int.toNat_natCast, if_true, if_false, Option.bind_some, px_up_cell, px_up_slot, px_up_eq, ne_eq, Nat.reduceEqDiff, not_false_eq_true, Int.reduceEq, Int.reduceLT, Int.reduceLE, Int.reduceNeg, decide_true, decide_false, Bool.and_true, Bool.true_and, Bool.and_false, Bool.false_and, and_self, and_true, true_and, and_false, false_and, bi_T, bi_F, not_true_eq_false, Bool.false_eq_true, kg_51, E1.2.2.2.2.1, N1_w hN, nz, nx, dr.1, no, hw, of, px_wl_n v1, px_w_s (show b < 1000000 by omega)]
    rfl
  have o0 := ofr 0 (viS N s 0) (by decide)
  have o1 := ofr 1 (viS N s 1) (by decide)
  have o2 := ofr 2 (viS N s 2) (by decide)
  have o3 := ofr 3 (viS N s 3) (by decide)
  obtain ⟨z0, s0⟩ := stp 0 0 (9, 0) (by decide) (by decide)
  obtain ⟨z1, s1⟩ := stp 1 (0 + ofV L m t N a 0 (viS N s 0)) z0 (by decide) (by omega)
  obtain ⟨z2, s2⟩ := stp 2 (0 + ofV L m t N a 0 (viS N s 0) + ofV L m t N a 1 (viS N s 1)) z1 (by decide) (by omega)
  obtain ⟨z3, s3⟩ := stp 3 (0 + ofV L m t N a 0 (viS N s 0) + ofV L m t N a 1 (viS N s 1) + ofV L m t N a 2 (viS N s 2)) z2 (by decide) (by omega)
  have nr := R_nearest H1 (off := 0 + ofV L m t N a 0 (viS N s 0) + ofV L m t N a 1 (viS N s 1) + ofV L m t N a 2 (viS N s 2) + ofV L m t N a 3 (viS N s 3)) (by omega)
  refine ⟨g1, ?_, F1⟩
  rw [eq_Ear_hearOnce_0]
  simp only [px_rd_mk, px_wr_mk, Int.reduceToNat, Int.toNat_natCast, if_true, if_false, Option.bind_some, px_up_cell, px_up_slot, px_up_eq, ne_eq, Nat.reduceEqDiff, not_false_eq_true, Int.reduceEq, Int.reduceLT, Int.reduceLE, Int.reduceNeg, decide_true, decide_false, Bool.and_true, Bool.true_and, Bool.and_false, Bool.false_and, and_self, and_true, true_and, and_false, false_and, bi_T, bi_F, not_true_eq_false, Bool.false_eq_true, kg_51, E.2.2.2.1, (fx_all ⟨W, by omega⟩).1, e1]
  refine s0.trans (s1.trans (s2.trans (s3.trans ?_)))
  rw [eq_Ear_hearOnce_21, if_neg (by decide)]
  simp only [px_rd_mk, px_wr_mk, Int.reduceToNat, Int.toNat_natCast, if_true, if_false, Option.bind_some, px_up_cell, px_up_slot, px_up_eq, ne_eq, Nat.reduceEqDiff, not_false_eq_true, Int.reduceEq, Int.reduceLT, Int.reduceLE, Int.reduceNeg, decide_true, decide_false, Bool.and_true, Bool.true_and, Bool.and_false, Bool.false_and, and_self, and_true, true_and, and_false, false_and, bi_T, bi_F, not_true_eq_false, Bool.false_eq_true, kg_51, nr]
  rw [nv_ear H1 TLt a (viS N s 0) (viS N s 1) (viS N s 2) (viS N s 3), Int.zero_add]
  rfl
theorem snO_R {W N : Nat} {L : Nat → Nat → Int} {h : hp} (M : MC W N L h) {a b : Nat} (ha : a < W) (hb : b < 4) (x2 x4 r : Int) (hr : -3 ≤ r ∧ r ≤ 3) : ∀ (f : Nat) (x7 x8 : Int), snO f (N : Int) x7 x8 = some r → ∃ x7' : Int, px_R (mm_Mod_said, 89, [(2, 123), (0, (a : Int)), (0, x2), (0, (N : Int)), (1, x4), (9, 0), (0, (b : Int)), (0, x7), (0, x8)], [], (K0, h)) = px_R (mm_Mod_said, 45, [(2, 123), (0, (a : Int)), (0, x2), (0, (N : Int)), (1, x4), (9, 0), (0, ((b + 1 : Nat) : Int)), (0, x7'), (0, r)], [], (K0, px_up h 138 b (clp 0 9 (L a b + r))))
  | 0, _, _, e => by cases e
  | f + 1, x7, x8, e => by
    obtain ⟨hW, hN, hI, e1, e2, e3⟩ := M
    have M : MC W N L h := ⟨hW, hN, hI, e1, e2, e3⟩
    rw [snO] at e
    by_cases c0 : -2147483648 < x8 ∧ x8 < 2147483648
    · rw [if_pos c0] at e
      have pl := R_Mod_plain c0.1 c0.2 (K0, h)
      by_cases c1 : x7 < px_w (px_w ((N : Int) + 1) - (x8.natAbs : Int))
      · rw [if_pos c1] at e
        cases e
        have lv := e3 a b ha hb
        have u1 : -2147483648 ≤ 4 * (a : Int) ∧ 4 * (a : Int) < 2147483648 := by omega
        have u3 : -2147483648 ≤ ((4 * a : Nat) : Int) + (b : Int) ∧ ((4 * a : Nat) : Int) + (b : Int) < 2147483648 := by omega
        have v1 : 4 * (a : Int) = ((4 * a : Nat) : Int) := by omega
        have v3 : ((4 * a : Nat) : Int) + (b : Int) = ((4 * a + b : Nat) : Int) := by omega
        have g4 : (((4 * a + b : Nat) : Int) < 24) = True := eq_true (by omega)
        have b4 : ((b : Int) < 4) = True := eq_true (by omega)
        have u5 : -2147483648 ≤ L a b + r ∧ L a b + r < 2147483648 := by omega
        refine ⟨x7, ?_⟩
        rw [eq_Mod_said_89, pl, Option.bind_some, if_pos c1]
        simp only [px_rd_mk, px_wr_mk, Int.reduceToNat, Int.toNat_natCast, if_true, if_false, Option.bind_some, px_up_cell, px_up_slot, px_up_eq, ne_eq, Nat.reduceEqDiff, not_false_eq_true, Int.reduceEq, Int.reduceLT, Int.reduceLE, Int.reduceNeg, decide_true, decide_false, Bool.and_true, Bool.true_and, Bool.and_false, Bool.false_and, and_self, and_true, true_and, and_false, false_and, bi_T, bi_F, not_true_eq_false, Bool.false_eq_true, kg_123, ka_137, ka_138, ir_123_0 hI, ir_123_12 hI, ir_123_13 hI, ir_123_14 hI, ir_123_15 hI, ir_123_16 hI, ir_123_17 hI, ir_123_18 hI, ir_123_19 hI, ir_123_20 hI, ir_123_21 hI, ir_123_30 hI, ir_123_31 hI, ir_123_32 hI, ir_123_33 hI, ir_123_34 hI, ir_123_35 hI, ir_123_36 hI, ir_123_37 hI, ir_123_38 hI, ir_123_39 hI, ir_123_41 hI, ir_123_42 hI, ir_123_44 hI, ir_123_45 hI, ir_123_46 hI, ir_123_50 hI, ir_123_54 hI, ir_123_55 hI, ir_123_56 hI, ir_123_57 hI, ir_123_58 hI, ir_123_59 hI, ir_123_60 hI, ir_123_61 hI, ir_123_62 hI, (px_w_n u1).trans v1, (px_w_n u3).trans v3, g4, b4, Int.natCast_nonneg, lv.1, px_w_n u5, R_Mod_heard, px_w_s (show b < 1000000 by omega)]
      · rw [if_neg c1] at e
        obtain ⟨x7', q⟩ := snO_R M ha hb x2 x4 r hr f _ _ e
        refine ⟨x7', ?_⟩
        rw [eq_Mod_said_89, pl, Option.bind_some, if_neg c1]
        simp only [px_rd_mk, px_wr_mk, Int.reduceToNat, Int.toNat_natCast, if_true, if_false, Option.bind_some, px_up_cell, px_up_slot, px_up_eq, ne_eq, Nat.reduceEqDiff, not_false_eq_true, Int.reduceEq, Int.reduceLT, Int.reduceLE, Int.reduceNeg, decide_true, decide_false, Bool.and_true, Bool.true_and, Bool.and_false, Bool.false_and, and_self, and_true, true_and, and_false, false_and, bi_T, bi_F, not_true_eq_false, Bool.false_eq_true, kg_123, pl]
        exact q
    · rw [if_neg c0] at e
      cases e
theorem R_msaid {W N : Nat} {L : Nat → Nat → Int} {h : hp} (M : MC W N L h) {a s : Nat} (ha : a < W) (hs : s < 2147483648) (x2 : Int) : ∃ g : hp, px_R (mm_Mod_said, 45, [(2, 123), (0, (a : Int)), (0, x2), (0, (N : Int)), (1, (s : Int)), (9, 0), (0, 0), (9, 0), (9, 0)], [], (K0, h)) = some (eaV W (2 ^ W - 1) (dst L (rwC L a N (viS N s 0) (viS N s 1) (viS N s 2) (viS N s 3))), (K0, g)) ∧ Fr [138] [] h g := by
  have hW := M.1
  have hN := M.2.1
  have T64 := all_lt hW
  have l3 : (N + 1) * (N + 1) ≤ 16 := Nat.mul_le_mul (show N + 1 ≤ 4 by omega) (show N + 1 ≤ 4 by omega)
  have nz : (!decide ((((N + 1) * (N + 1) : Nat) : Int) = 0)) = true := by
    have : 0 < (N + 1) * (N + 1) := Nat.mul_pos (Nat.succ_pos N) (Nat.succ_pos N)
    simp
    omega
  have stp : ∀ (b : Nat) (g : hp) (y7 y8 : pv), b < 4 → Fr [138] [] h g → ∃ z7 z8 : pv, px_R (mm_Mod_said, 45, [(2, 123), (0, (a : Int)), (0, x2), (0, (N : Int)), (1, ((sqS s b : Nat) : Int)), (9, 0), (0, (b : Int)), y7, y8], [], (K0, g)) = px_R (mm_Mod_said, 45, [(2, 123), (0, (a : Int)), (0, x2), (0, (N : Int)), (1, ((sqS s (b + 1) : Nat) : Int)), (9, 0), (0, ((b + 1 : Nat) : Int)), z7, z8], [], (K0, px_up g 138 b (clp 0 9 (L a b + ((viS N s b : Int) - (N : Int)))))) := fun b g y7 y8 hb F => by
    have Mg := MC_F M F (by decide) rfl
    have hl : (b : Int) < 4 := by omega
    have ss := sqS_lt hs b
    have nx := nx_w ss
    have dr := dr_w (s := sqS s b) hN
    have fx := fx_nz ⟨N, by omega⟩ ⟨drS N (sqS s b), by omega⟩ dr.2
    have fz : nzI N (drS N (sqS s b)) ≤ 2 * N := fx.2.2
    obtain ⟨x7', q⟩ := snO_R Mg ha hb x2 ((nxS (sqS s b) : Nat) : Int) ((nzI N (drS N (sqS s b)) : Int) - (N : Int)) (by omega) 8 ((drS N (sqS s b) : Nat) : Int) (px_w (-(N : Int))) fx.2.1
    refine ⟨_, _, Eq.trans ?_ q⟩
    rw [eq_Mod_said_45, if_pos hl]
    simp only [px_rd_mk, px_wr_mk, Int.reduceToNat, Int.toNat_natCast, if_true, if_false, Option.bind_some, px_up_cell, px_up_slot, px_up_eq, ne_eq, Nat.reduceEqDiff, not_false_eq_true, Int.reduceEq, Int.reduceLT, Int.reduceLE, Int.reduceNeg, decide_true, decide_false, Bool.and_true, Bool.true_and, Bool.and_false, Bool.false_and, and_self, and_true, true_and, and_false, false_and, bi_T, bi_F, not_true_eq_false, Bool.false_eq_true, N1_w hN, nz, nx, dr.1]
  have F : ∀ (g : hp) (b : Nat) (v : Int), Fr [138] [] g (px_up g 138 b v) := fun g b v => Fr_up (Fr_rf _ _ _) _ rfl
  obtain ⟨a0, b0, s0⟩ := stp 0 h (9, 0) (9, 0) (by decide) (Fr_rf _ _ _)
  have F0 := F h 0 (clp 0 9 (L a 0 + ((viS N s 0 : Int) - (N : Int))))
  obtain ⟨a1, b1, s1⟩ := stp 1 _ a0 b0 (by decide) F0
  have F1 := Fr_tr2 F0 (F _ 1 (clp 0 9 (L a 1 + ((viS N s 1 : Int) - (N : Int)))))
  obtain ⟨a2, b2, s2⟩ := stp 2 _ a1 b1 (by decide) F1
  have F2 := Fr_tr2 F1 (F _ 2 (clp 0 9 (L a 2 + ((viS N s 2 : Int) - (N : Int)))))
  obtain ⟨a3, b3, s3⟩ := stp 3 _ a2 b2 (by decide) F2
  have F3 := Fr_tr2 F2 (F _ 3 (clp 0 9 (L a 3 + ((viS N s 3 : Int) - (N : Int)))))
  have M3 := MC_F M F3 (by decide) rfl
  have er := R_mear M3 (T := 2 ^ W - 1) (by omega) (r := rwC L a N (viS N s 0) (viS N s 1) (viS N s 2) (viS N s 3)) fun b hb => ⟨by
    have q : b = 0 ∨ b = 1 ∨ b = 2 ∨ b = 3 := by omega
    rcases q with rfl | rfl | rfl | rfl <;> rfl, rwC_rng L a N _ _ _ _ b⟩
  have aw := R_mallWords M3.2.2.1 M3.2.2.2.1 hW
  refine ⟨_, ?_, F3⟩
  refine s0.trans (s1.trans (s2.trans (s3.trans ?_)))
  rw [eq_Mod_said_45, if_neg (by decide)]
  simp only [px_rd_mk, px_wr_mk, Int.reduceToNat, Int.toNat_natCast, if_true, if_false, Option.bind_some, px_up_cell, px_up_slot, px_up_eq, ne_eq, Nat.reduceEqDiff, not_false_eq_true, Int.reduceEq, Int.reduceLT, Int.reduceLE, Int.reduceNeg, decide_true, decide_false, Bool.and_true, Bool.true_and, Bool.and_false, Bool.false_and, and_self, and_true, true_and, and_false, false_and, bi_T, bi_F, not_true_eq_false, Bool.false_eq_true, kg_123]
  rw [aw, Option.bind_some]
  simp only [px_rd_mk, px_wr_mk, Int.reduceToNat, Int.toNat_natCast, if_true, if_false, Option.bind_some, px_up_cell, px_up_slot, px_up_eq, ne_eq, Nat.reduceEqDiff, not_false_eq_true, Int.reduceEq, Int.reduceLT, Int.reduceLE, Int.reduceNeg, decide_true, decide_false, Bool.and_true, Bool.true_and, Bool.and_false, Bool.false_and, and_self, and_true, true_and, and_false, false_and, bi_T, bi_F, not_true_eq_false, Bool.false_eq_true, kg_123]
  rw [er, Option.bind_some]
theorem C_said {h : hp} (C : CI h) (x y : Int) (hyr : -2147483648 ≤ y ∧ y < 2147483648) : AL h mm_Tin_said mm_Mod_said [(2, 1), (0, x), (0, y)] [(2, 123), (0, x), (0, y), (9, 0), (9, 0), (9, 0), (9, 0), (9, 0), (9, 0)] := by
  have C2 := C
  obtain ⟨n, ⟨hn, h8, h9⟩, hI, hT, hK, hS, hL, hR, hC, hKs, hW, hB⟩ := C2
  have o2 := fun x => R_one hn h8 hI hS (y := 2) (k := 2) rfl (by decide) x
  have c2 := ST_n hS (k := 2) (by decide)
  by_cases hx : 0 ≤ x ∧ x < h (n + 1) 2
  · by_cases hy : y < 0
    · refine AL_same C (-2) ?_ ?_
      · rw [eq_Tin_said_0]
        simp only [px_rd_mk, px_wr_mk, Int.reduceToNat, Int.toNat_natCast, if_true, if_false, Option.bind_some, px_up_cell, px_up_slot, px_up_eq, ne_eq, Nat.reduceEqDiff, not_false_eq_true, Int.reduceEq, Int.reduceLT, Int.reduceLE, Int.reduceNeg, decide_true, decide_false, Bool.and_true, Bool.true_and, Bool.and_false, Bool.false_and, and_self, and_true, true_and, and_false, false_and, bi_T, bi_F, not_true_eq_false, Bool.false_eq_true, kg_1, o2, bi_t hx, hy]
      · rw [eq_Mod_said_0]
        simp only [px_rd_mk, px_wr_mk, Int.reduceToNat, Int.toNat_natCast, if_true, if_false, Option.bind_some, px_up_cell, px_up_slot, px_up_eq, ne_eq, Nat.reduceEqDiff, not_false_eq_true, Int.reduceEq, Int.reduceLT, Int.reduceLE, Int.reduceNeg, decide_true, decide_false, Bool.and_true, Bool.true_and, Bool.and_false, Bool.false_and, and_self, and_true, true_and, and_false, false_and, bi_T, bi_F, not_true_eq_false, Bool.false_eq_true, kg_123, R_is hI hS (y := 2) (k := 2) rfl (by decide), bi_t hx, hy]
    · by_cases hc : h (n + 1) 0 = 0 ∨ h (n + 1) 1 = 0
      · have hc2 : ¬ (0 < h (n + 1) 0 ∧ 0 < h (n + 1) 1) := by omega
        refine AL_same C (-4) ?_ ?_
        · rw [eq_Tin_said_0]
          simp only [px_rd_mk, px_wr_mk, Int.reduceToNat, Int.toNat_natCast, if_true, if_false, Option.bind_some, px_up_cell, px_up_slot, px_up_eq, ne_eq, Nat.reduceEqDiff, not_false_eq_true, Int.reduceEq, Int.reduceLT, Int.reduceLE, Int.reduceNeg, decide_true, decide_false, Bool.and_true, Bool.true_and, Bool.and_false, Bool.false_and, and_self, and_true, true_and, and_false, false_and, bi_T, bi_F, not_true_eq_false, Bool.false_eq_true, kg_1, o2, bi_t hx, hy, R_lineLacks hn h8 hI, bi_t hc]
        · rw [eq_Mod_said_0]
          simp only [px_rd_mk, px_wr_mk, Int.reduceToNat, Int.toNat_natCast, if_true, if_false, Option.bind_some, px_up_cell, px_up_slot, px_up_eq, ne_eq, Nat.reduceEqDiff, not_false_eq_true, Int.reduceEq, Int.reduceLT, Int.reduceLE, Int.reduceNeg, decide_true, decide_false, Bool.and_true, Bool.true_and, Bool.and_false, Bool.false_and, and_self, and_true, true_and, and_false, false_and, bi_T, bi_F, not_true_eq_false, Bool.false_eq_true, kg_123, R_is hI hS (y := 2) (k := 2) rfl (by decide), bi_t hx, hy, R_hasLine hI hS, bi_f hc2]
      · obtain ⟨a, rfl⟩ := Int.eq_ofNat_of_zero_le hx.1
        obtain ⟨sd, rfl⟩ := Int.eq_ofNat_of_zero_le (show 0 ≤ y by omega)
        have c0 := ST_n hS (k := 0) (by decide)
        have c1 := ST_n hS (k := 1) (by decide)
        have hc2 : 0 < h (n + 1) 0 ∧ 0 < h (n + 1) 1 := by omega
        obtain ⟨W, hW2⟩ := Int.eq_ofNat_of_zero_le c2.2.1
        have c8 := hS.2.2.2.2.1
        obtain ⟨N, hN2⟩ := Int.eq_ofNat_of_zero_le c8.2.1
        obtain ⟨s, s1, s2, s3⟩ := LI_s hL hc2.1
        obtain ⟨t, t1, t2, t3⟩ := LI_t hL hc2.2
        obtain ⟨yy, y1, y2, y3, y4⟩ := LI_y hL
        have LC0 : LC n h := ⟨hn, hI, hS, LI_LB hL⟩
        have haW : a < W := by omega
        obtain ⟨v, g1, e1, F1, E1, _, _⟩ := R_learn LC0 s1 s3 t1 t3 y1 y3 hW2 hN2
        obtain ⟨g, e2, F2⟩ := R_hearOnce E1 haW (s := sd) (by omega)
        have F12 : Fr (67 :: ecs) [(51, 0), (51, 1), (51, 5)] h g := Fr_sub (Fr_tr F1 F2) rfl rfl
        have LCg := LC_F LC0 F12 (by decide) rfl rfl
        have g1' := Fr_st hn F12 rfl (n + 1) (by omega) (by omega)
        have g21 := Fr_st hn F12 rfl (n + 21) (by omega) (by omega)
        obtain ⟨k1, m1, G1, M1⟩ := R_makeMC (LC_LD LCg) (s := s) (t := t) (y := yy) (by rw [g1']; exact s3) (by rw [g1']; exact t3) y3 (W := W) (N := N) (by rw [g1']; exact hW2) (by rw [g21]; exact hN2)
        rw [lvl_48 hn F12 rfl] at M1
        obtain ⟨k2, m2, G2⟩ := R_msaid M1 haW (s := sd) (by omega) (sd : Int)
        have hLg := R_hasLine LCg.2.1 LCg.2.2.1
        have i2g := fun x => R_is LCg.2.1 LCg.2.2.1 (y := 2) (k := 2) rfl (by decide) x
        rw [g1'] at hLg i2g
        have F : Fr ((67 :: ecs) ++ [137, 138]) [(51, 0), (51, 1), (51, 5)] h k2 := Fr_sub (Fr_tr (Fr_tr F12 G1) G2) rfl rfl
        refine ⟨eaV W (2 ^ W - 1) (dst (lvl n h s t yy) (rwC (lvl n h s t yy) a N (viS N sd 0) (viS N sd 1) (viS N sd 2) (viS N sd 3))), g, k2, ?_, ?_, ⟨n, SP_F F rfl ⟨hn, h8, h9⟩, IR_Fr hI F (by decide), TP_F F rfl hT, FK_F F rfl hK, ST_F hn F rfl hS, LI_F hn F rfl hL, RW_F F rfl hR, CR_F F rfl hC, KS_F F rfl hKs, WI_F hn F rfl hW, BK_F hn F rfl hB⟩⟩
        · rw [eq_Tin_said_0]
          simp only [px_rd_mk, px_wr_mk, Int.reduceToNat, Int.toNat_natCast, if_true, if_false, Option.bind_some, px_up_cell, px_up_slot, px_up_eq, ne_eq, Nat.reduceEqDiff, not_false_eq_true, Int.reduceEq, Int.reduceLT, Int.reduceLE, Int.reduceNeg, decide_true, decide_false, Bool.and_true, Bool.true_and, Bool.and_false, Bool.false_and, and_self, and_true, true_and, and_false, false_and, bi_T, bi_F, not_true_eq_false, Bool.false_eq_true, kg_1, kg_48, kg_51, o2, bi_t hx, hy, R_lineLacks hn h8 hI, bi_f hc, ir_1_0 hI, ir_1_1 hI, ir_1_2 hI, ir_1_3 hI, ir_1_4 hI, ir_1_5 hI, ir_1_6 hI, ir_1_7 hI, h8, e1]
          simp only [px_rd_mk, px_wr_mk, Int.reduceToNat, Int.toNat_natCast, if_true, if_false, Option.bind_some, px_up_cell, px_up_slot, px_up_eq, ne_eq, Nat.reduceEqDiff, not_false_eq_true, Int.reduceEq, Int.reduceLT, Int.reduceLE, Int.reduceNeg, decide_true, decide_false, Bool.and_true, Bool.true_and, Bool.and_false, Bool.false_and, and_self, and_true, true_and, and_false, false_and, bi_T, bi_F, not_true_eq_false, Bool.false_eq_true, kg_1, kg_51, ir_1_0 E1.2.2.1, ir_1_1 E1.2.2.1, ir_1_2 E1.2.2.1, ir_1_3 E1.2.2.1, ir_1_4 E1.2.2.1, ir_1_5 E1.2.2.1, ir_1_6 E1.2.2.1, ir_1_7 E1.2.2.1, e2]
        · rw [eq_Mod_said_0]
          simp only [px_rd_mk, px_wr_mk, Int.reduceToNat, Int.toNat_natCast, if_true, if_false, Option.bind_some, px_up_cell, px_up_slot, px_up_eq, ne_eq, Nat.reduceEqDiff, not_false_eq_true, Int.reduceEq, Int.reduceLT, Int.reduceLE, Int.reduceNeg, decide_true, decide_false, Bool.and_true, Bool.true_and, Bool.and_false, Bool.false_and, and_self, and_true, true_and, and_false, false_and, bi_T, bi_F, not_true_eq_false, Bool.false_eq_true, kg_123, i2g, bi_t hx, hy, hLg, bi_t hc2, eq_Mod_makeOwn_0, (F12 123 24 rfl).trans s2, (F12 123 25 rfl).trans t2, (F12 123 26 rfl).trans y2, m1]
          simp only [px_rd_mk, px_wr_mk, Int.reduceToNat, Int.toNat_natCast, if_true, if_false, Option.bind_some, px_up_cell, px_up_slot, px_up_eq, ne_eq, Nat.reduceEqDiff, not_false_eq_true, Int.reduceEq, Int.reduceLT, Int.reduceLE, Int.reduceNeg, decide_true, decide_false, Bool.and_true, Bool.true_and, Bool.and_false, Bool.false_and, and_self, and_true, true_and, and_false, false_and, bi_T, bi_F, not_true_eq_false, Bool.false_eq_true, kg_123, ka_125, ir_123_0 M1.2.2.1, ir_123_12 M1.2.2.1, ir_123_13 M1.2.2.1, ir_123_14 M1.2.2.1, ir_123_15 M1.2.2.1, ir_123_16 M1.2.2.1, ir_123_17 M1.2.2.1, ir_123_18 M1.2.2.1, ir_123_19 M1.2.2.1, ir_123_20 M1.2.2.1, ir_123_21 M1.2.2.1, ir_123_30 M1.2.2.1, ir_123_31 M1.2.2.1, ir_123_32 M1.2.2.1, ir_123_33 M1.2.2.1, ir_123_34 M1.2.2.1, ir_123_35 M1.2.2.1, ir_123_36 M1.2.2.1, ir_123_37 M1.2.2.1, ir_123_38 M1.2.2.1, ir_123_39 M1.2.2.1, ir_123_41 M1.2.2.1, ir_123_42 M1.2.2.1, ir_123_44 M1.2.2.1, ir_123_45 M1.2.2.1, ir_123_46 M1.2.2.1, ir_123_50 M1.2.2.1, ir_123_54 M1.2.2.1, ir_123_55 M1.2.2.1, ir_123_56 M1.2.2.1, ir_123_57 M1.2.2.1, ir_123_58 M1.2.2.1, ir_123_59 M1.2.2.1, ir_123_60 M1.2.2.1, ir_123_61 M1.2.2.1, ir_123_62 M1.2.2.1, M1.2.2.2.2.1]
          exact m2
  · refine AL_same C (-2) ?_ ?_
    · rw [eq_Tin_said_0]
      simp only [px_rd_mk, px_wr_mk, Int.reduceToNat, Int.toNat_natCast, if_true, if_false, Option.bind_some, px_up_cell, px_up_slot, px_up_eq, ne_eq, Nat.reduceEqDiff, not_false_eq_true, Int.reduceEq, Int.reduceLT, Int.reduceLE, Int.reduceNeg, decide_true, decide_false, Bool.and_true, Bool.true_and, Bool.and_false, Bool.false_and, and_self, and_true, true_and, and_false, false_and, bi_T, bi_F, not_true_eq_false, Bool.false_eq_true, kg_1, o2, bi_f hx]
    · rw [eq_Mod_said_0]
      simp only [px_rd_mk, px_wr_mk, Int.reduceToNat, Int.toNat_natCast, if_true, if_false, Option.bind_some, px_up_cell, px_up_slot, px_up_eq, ne_eq, Nat.reduceEqDiff, not_false_eq_true, Int.reduceEq, Int.reduceLT, Int.reduceLE, Int.reduceNeg, decide_true, decide_false, Bool.and_true, Bool.true_and, Bool.and_false, Bool.false_and, and_self, and_true, true_and, and_false, false_and, bi_T, bi_F, not_true_eq_false, Bool.false_eq_true, kg_123, R_is hI hS (y := 2) (k := 2) rfl (by decide), bi_f hx]
