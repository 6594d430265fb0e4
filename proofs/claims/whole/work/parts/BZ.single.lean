/-! Clauses of single numbers, and all clauses, on both sides. -/
theorem spr_s {n k v2 B : Nat} {v : Int} {c m c' m' : hp} (hn : n = 4 ∨ n = 26) (S : SPR n c m) (hk : 6 ≤ k) (hk9 : k < 9) (hB : m 123 23 = (B : Int)) (h1 : c' (n + 1) k = 1) (h0 : c' (n + 13 + k) 0 = v) (hv : 0 ≤ v ∧ v ≤ higN k 0) (hc : ∀ a b : Nat, ¬ (a = 2 ∧ 2 ≤ b ∧ b ≤ 6) → ¬ (a = n + 13 + k ∧ b = 0) → ¬ (a = n + 1 ∧ b = k) → c' a b = c a b) (m5 : m' 125 (9 + k) = v) (m23 : m' 123 23 = ((B ||| 2 ^ k : Nat) : Int)) (hm : ∀ a b : Nat, ¬ (a = 123 ∧ ((3 ≤ b ∧ b ≤ 11) ∨ b = 23)) → ¬ (a = 125 ∧ b = 9 + k) → m' a b = m a b) : SPR n c' m' := by
  obtain ⟨S1, ⟨bb, e1, e2, e3⟩, S3, R0, R1, R2, R5, P3, P4⟩ := S
  have eb : bb = B := Int.ofNat.inj (e1.symm.trans hB)
  subst eb
  refine ⟨fun j hj => ?_, ⟨bb ||| 2 ^ k, m23, ?_, fun j h6 h9 => ?_⟩, fun j hj hj4 => nmS_keep (S3 j hj hj4) (hc _ _ (by omega) (by omega) (by omega)) (fun y => hc _ _ (by omega) (by omega) (by omega)) (fun z _ => hm _ _ (by omega) (by omega)), ?_, ?_, ?_, ?_, ?_, ?_⟩
  · rw [hm _ _ (by omega) (by omega), hc _ _ (by omega) (by omega) (by omega)]
    exact S1 j hj
  · have : bb ||| 2 ^ k < 2 ^ 9 := Nat.or_lt_two_pow e2 (Nat.pow_lt_pow_right (by decide) hk9)
    exact this
  · by_cases z : j = k
    · subst z
      rw [h1, h0, m5]
      refine ⟨?_, rfl, hv⟩
      rw [if_pos]
      rw [Nat.testBit_or, Nat.testBit_two_pow]
      simp
    · rw [hc (n + 1) j (by omega) (by omega) (by omega), hc (n + 13 + j) 0 (by omega) (by omega) (by omega), hm 125 _ (by omega) (by omega)]
      have e := e3 j h6 h9
      refine ⟨?_, e.2⟩
      have tb : (bb ||| 2 ^ k).testBit j = bb.testBit j := by
        rw [Nat.testBit_or, Nat.testBit_two_pow, decide_eq_false (fun y => z y.symm), Bool.or_false]
      rw [tb]
      exact e.1
  · exact rwS_keep R0 (hc _ _ (by omega) (by omega) (by omega)) (fun y => hc _ _ (by omega) (by omega) (by omega)) (fun y => hm _ _ (by omega) (by omega))
  · exact rwS_keep R1 (hc _ _ (by omega) (by omega) (by omega)) (fun y => hc _ _ (by omega) (by omega) (by omega)) (fun y => hm _ _ (by omega) (by omega))
  · exact rwS_keep R2 (hc _ _ (by omega) (by omega) (by omega)) (fun y => hc _ _ (by omega) (by omega) (by omega)) (fun y => hm _ _ (by omega) (by omega))
  · exact rwS_keep R5 (hc _ _ (by omega) (by omega) (by omega)) (fun y => hc _ _ (by omega) (by omega) (by omega)) (fun y => hm _ _ (by omega) (by omega))
  · exact plS_keep P3 (hc _ _ (by omega) (by omega) (by omega)) (fun y => hc _ _ (by omega) (by omega) (by omega)) (fun y => hm _ _ (by omega) (by omega)) (fun y => hm _ _ (by omega) (by omega))
  · exact plS_keep P4 (hc _ _ (by omega) (by omega) (by omega)) (fun y => hc _ _ (by omega) (by omega) (by omega)) (fun y => hm _ _ (by omega) (by omega)) (fun y => hm _ _ (by omega) (by omega))
theorem mS_6 {T : Nat → Int} {s e B : Nat} {m : hp} (sc : SC T s e 2 m) (ky : kyV T s (e - s) 0 9 = ((6 : Nat) : Int)) (hB : m 123 23 = (B : Int)) (B5 : B < 512) : (B.testBit 6 = true → px_R (mm_Mod_readClause, 0, [(2, 123), (9, 0)], [], (K0, m)) = some (0, (K0, flM 3 m))) ∧ (B.testBit 6 = false → ∀ m1 : hp, px_R (mm_Mod_scan, 0, [(2, 123), (9, 0), (9, 0), (9, 0)], [], (K0, px_up m 123 23 ((B ||| 2 ^ 6 : Nat) : Int))) = some (0, (K0, m1)) → px_R (mm_Mod_readClause, 0, [(2, 123), (9, 0)], [], (K0, m)) = px_R (mm_Mod_readClause, 102, [(2, 123), (0, 6)], [(0, 90), (0, 0), (2, 123)], (K0, m1))) := by
  obtain ⟨d3, d5, d6, d4, _, _⟩ := sc
  rw [if_pos rfl, ky] at d4
  have d4 : m 123 4 = 6 := d4
  have d3 : m 123 3 = 1 := d3
  have i5 : ¬ ((0 : Int) ≤ 6 ∧ (6 : Int) ≤ 5) := by decide
  have b1 := bit_1 (T := B) (a := 6) (by omega) (by decide)
  rw [inS_tb] at b1
  have sh : px_shl 1 6 = ((2 ^ 6 : Nat) : Int) := shl_g (w := 6) (by decide)
  have oo := or_n (a := B) (b := 2 ^ 6) (by omega) (by decide)
  have start : px_R (mm_Mod_readClause, 0, [(2, 123), (9, 0)], [], (K0, m)) = px_R (mm_Mod_readClause, 16, [(2, 123), (9, 0)], [(0, 6)], (K0, m)) := by
    rw [eq_Mod_readClause_0]
    simp only [px_rd_mk, px_wr_mk, Int.reduceToNat, Int.toNat_natCast, if_true, if_false, Option.bind_some, px_up_cell, px_up_slot, px_up_eq, ne_eq, Nat.reduceEqDiff, not_false_eq_true, Int.reduceEq, Int.reduceLT, Int.reduceLE, Int.reduceNeg, decide_true, decide_false, Bool.and_true, Bool.true_and, Bool.and_false, Bool.false_and, and_self, and_true, true_and, and_false, false_and, bi_T, bi_F, not_true_eq_false, Bool.false_eq_true, kg_123, d3, d4]
  constructor
  · intro z
    have b2 : (px_and (px_shr (B : Int) 6) 1 = 1) = True := b1.trans (eq_true z)
    rw [start, eq_Mod_readClause_16]
    simp only [px_rd_mk, px_wr_mk, Int.reduceToNat, Int.toNat_natCast, if_true, if_false, Option.bind_some, px_up_cell, px_up_slot, px_up_eq, ne_eq, Nat.reduceEqDiff, not_false_eq_true, Int.reduceEq, Int.reduceLT, Int.reduceLE, Int.reduceNeg, decide_true, decide_false, Bool.and_true, Bool.true_and, Bool.and_false, Bool.false_and, and_self, and_true, true_and, and_false, false_and, bi_T, bi_F, not_true_eq_false, Bool.false_eq_true, kg_123, R_Mod_in, bi_f i5, hB, b2, R_fails]
  · intro z m1 e1
    have b2 : (px_and (px_shr (B : Int) 6) 1 = 1) = False := b1.trans (eq_false (by rw [z]; decide))
    rw [start, eq_Mod_readClause_16]
    simp only [px_rd_mk, px_wr_mk, Int.reduceToNat, Int.toNat_natCast, if_true, if_false, Option.bind_some, px_up_cell, px_up_slot, px_up_eq, ne_eq, Nat.reduceEqDiff, not_false_eq_true, Int.reduceEq, Int.reduceLT, Int.reduceLE, Int.reduceNeg, decide_true, decide_false, Bool.and_true, Bool.true_and, Bool.and_false, Bool.false_and, and_self, and_true, true_and, and_false, false_and, bi_T, bi_F, not_true_eq_false, Bool.false_eq_true, kg_123, R_Mod_in, bi_f i5, hB, b2, sh, oo, e1]
theorem m102_6 {m1 m2 : hp} (I2 : IR m2) {v : Int} : (px_R (mm_Mod_readNumber, 0, [(2, 123), (0, 0), (0, 90)], [], (K0, m1)) = some (0, (K0, m2)) → px_R (mm_Mod_readClause, 102, [(2, 123), (0, 6)], [(0, 90), (0, 0), (2, 123)], (K0, m1)) = some (0, (K0, m2))) ∧ (px_R (mm_Mod_readNumber, 0, [(2, 123), (0, 0), (0, 90)], [], (K0, m1)) = some (1, (K0, m2)) → m2 123 11 = v → px_R (mm_Mod_readClause, 102, [(2, 123), (0, 6)], [(0, 90), (0, 0), (2, 123)], (K0, m1)) = some (1, (K0, px_up m2 125 (9 + 6) v))) := by
  have w9 : px_w (9 + 6) = 15 := rfl
  constructor
  · intro z
    rw [eq_Mod_readClause_102]
    simp only [px_rd_mk, px_wr_mk, Int.reduceToNat, Int.toNat_natCast, if_true, if_false, Option.bind_some, px_up_cell, px_up_slot, px_up_eq, ne_eq, Nat.reduceEqDiff, not_false_eq_true, Int.reduceEq, Int.reduceLT, Int.reduceLE, Int.reduceNeg, decide_true, decide_false, Bool.and_true, Bool.true_and, Bool.and_false, Bool.false_and, and_self, and_true, true_and, and_false, false_and, bi_T, bi_F, not_true_eq_false, Bool.false_eq_true, kg_123, z]
  · intro z y
    rw [eq_Mod_readClause_102]
    simp only [px_rd_mk, px_wr_mk, Int.reduceToNat, Int.toNat_natCast, if_true, if_false, Option.bind_some, px_up_cell, px_up_slot, px_up_eq, ne_eq, Nat.reduceEqDiff, not_false_eq_true, Int.reduceEq, Int.reduceLT, Int.reduceLE, Int.reduceNeg, decide_true, decide_false, Bool.and_true, Bool.true_and, Bool.and_false, Bool.false_and, and_self, and_true, true_and, and_false, false_and, bi_T, bi_F, not_true_eq_false, Bool.false_eq_true, kg_123, ka_125, z, y, w9, ir_123_12 I2]
theorem jT_6 {n : Nat} (hn : n = 4 ∨ n = 26) {T : Nat → Int} {N i s e cl : Nat} {c m : hp} (C : TC2 T N c) (M : TM T N m) (t : TK T N i s e 2) (ct : CT T s e 2 c) (sc : SC T s e 2 m) (S : SPR n c m) (ky : kyV T s (e - s) 0 9 = ((6 : Nat) : Int)) (hcl : cl < 100000) : clS n T N e cl c m (px_R (mm_Str_readClause, 0, [(2, (n : Int)), (2, 2), (9, 0), (9, 0), (9, 0)], [], (K0, c))) := by
  have le := TK_le t
  have h3 := SC_n4 sc
  have SS := S.2.1
  obtain ⟨B, hB, B5, bs⟩ := SS
  have b := bs 6 (by decide) (by decide)
  obtain ⟨y1, y2⟩ := mS_6 sc ky hB B5
  have gl := fx_gl1 ⟨6, by decide⟩
  have gl : px_gl (px_sar 1) ((6 : Nat) : Int) = true := gl
  have hc : px_lst (px_sar 1) 6 = 1 := rfl
  cases bit : B.testBit 6
  · have hq : c (n + 1) 6 = ((0 : Nat) : Int) := by rw [b.1, bit]; rfl
    obtain ⟨_, _, h2⟩ := cHead hn C t ct (by decide) ky hq
    have p := h2 (by decide) (by decide)
    have F0 : FMt m (px_up m 123 23 ((B ||| 2 ^ 6 : Nat) : Int)) := FMt_up (FMt_rf _) _ (by unfold fmt2; omega)
    obtain ⟨s1, e1, k1, m1, t1, q1, sc1, f1, _⟩ := scanT (FMt_TM M F0) le.2.2.1 ((px_up_slot _ _ _ _ (by decide)).trans sc.2.2.1)
    have r102 := y2 bit m1 q1
    have Fm1 := FMt_tr F0 (FTk_FMt f1)
    have M1 := FMt_TM M Fm1
    obtain ⟨s', e', k', c1, t', ct', F1, n1, n2, n3⟩ := sNum hn (kind := 6) (q := 0) (idx := 0) C le.2.2.1 ct.2.2.1 (by decide) hq (by decide) (by decide)
    obtain ⟨rfl, rfl, rfl⟩ := TK_u t1 t'
    have lo : lowN 6 0 = 0 ∧ higN 6 0 = 90 := by decide
    rw [lo.1, lo.2] at n2 n3
    obtain ⟨p1, p2, p3⟩ := mNum M1 t1 sc1 0 90
    have le1 := TK_le t1
    have bad : ∀ code : Int, 1 ≤ code → px_R (mm_Str_readNumber, 0, [(2, (n : Int)), (2, 2), (0, ((6 : Nat) : Int)), (0, ((0 : Nat) : Int)), (9, 0), (9, 0), (9, 0), (9, 0), (9, 0)], [], (K0, c)) = some (code, (K0, c1)) → px_R (mm_Mod_readNumber, 0, [(2, 123), (0, 0), (0, 90)], [], (K0, m1)) = some (0, (K0, flM code m1)) → clS n T N e cl c m (px_R (mm_Str_readClause, 0, [(2, (n : Int)), (2, 2), (9, 0), (9, 0), (9, 0)], [], (K0, c))) := fun code w1 w2 w3 => by
      have cb := cl_bad (n := n) (kind := 6) (j := 0 + 1) (r := code) (c := c1) (by decide) (by omega)
      have w2 : px_R (mm_Str_readNumber, 0, [(2, (n : Int)), (2, 2), (0, 6), (0, 0), (9, 0), (9, 0), (9, 0), (9, 0), (9, 0)], [], (K0, c)) = some (code, (K0, c1)) := w2
      have cb : px_R (mm_Str_readClause, 59, [(2, (n : Int)), (2, 2), (0, 6), (0, code), (0, 1)], [], (K0, c1)) = some (code, (K0, c1)) := cb
      have w01 : px_w (0 + 1) = 1 := rfl
      have pc : px_R (mm_Str_readClause, 59, [(2, (n : Int)), (2, 2), (0, 6), (0, 0), (0, 0)], [], (K0, c)) = some (code, (K0, c1)) := by
        have gl : px_gl (px_sar 1) 6 = true := gl
        rw [eq_Str_readClause_59]
        simp only [px_rd_mk, px_wr_mk, Int.reduceToNat, Int.toNat_natCast, if_true, if_false, Option.bind_some, px_up_cell, px_up_slot, px_up_eq, ne_eq, Nat.reduceEqDiff, not_false_eq_true, Int.reduceEq, Int.reduceLT, Int.reduceLE, Int.reduceNeg, decide_true, decide_false, Bool.and_true, Bool.true_and, Bool.and_false, Bool.false_and, and_self, and_true, true_and, and_false, false_and, bi_T, bi_F, not_true_eq_false, Bool.false_eq_true, gl, hc, sgo hn, w2, w01, cb]
      exact clF h3 (p.trans pc) (r102.trans ((m102_6 (v := 0) (FMt_IR M1.1 (FTw_FMt (flM_F code m1)))).1 w3)) w1 (FSt_tss F1) (FMt_tr Fm1 (FTw_FMt (flM_F _ _))) (flM_8 _ _).1 (by rw [(flM_8 _ _).2, sc1.2.1, ct'.2.1])
    by_cases k3 : k1 = 3
    · by_cases inr : 0 ≤ nvl T s1 (e1 - s1) ∧ nvl T s1 (e1 - s1) ≤ 90
      · have n4 := n3 k3 inr.1 inr.2
        rw [if_neg (fun z => absurd z.1.1 (by decide))] at n4
        obtain ⟨s2, e2, k2, m2, q1, q2, q3, q4, q5⟩ := p3 k3 inr.1 inr.2
        have w01 : px_w (0 + 1) = 1 := rfl
        have n4 : px_R (mm_Str_readNumber, 0, [(2, (n : Int)), (2, 2), (0, 6), (0, 0), (9, 0), (9, 0), (9, 0), (9, 0), (9, 0)], [], (K0, c)) = some (0, (K0, px_up c1 (n + 13 + 6) 0 (nvl T s1 (e1 - s1)))) := n4
        have pc : px_R (mm_Str_readClause, 59, [(2, (n : Int)), (2, 2), (0, 6), (0, 0), (0, 0)], [], (K0, c)) = px_R (mm_Str_readClause, 88, [(2, (n : Int)), (2, 2), (0, ((6 : Nat) : Int)), (0, 0), (0, ((1 : Nat) : Int))], [], (K0, px_up c1 (n + 13 + 6) 0 (nvl T s1 (e1 - s1)))) := by
          have gl : px_gl (px_sar 1) 6 = true := gl
          rw [eq_Str_readClause_59]
          simp only [px_rd_mk, px_wr_mk, Int.reduceToNat, Int.toNat_natCast, if_true, if_false, Option.bind_some, px_up_cell, px_up_slot, px_up_eq, ne_eq, Nat.reduceEqDiff, not_false_eq_true, Int.reduceEq, Int.reduceLT, Int.reduceLE, Int.reduceNeg, decide_true, decide_false, Bool.and_true, Bool.true_and, Bool.and_false, Bool.false_and, and_self, and_true, true_and, and_false, false_and, bi_T, bi_F, not_true_eq_false, Bool.false_eq_true, gl, hc, sgo hn, n4, w01]
          rw [eq_Str_readClause_59]
          simp only [px_rd_mk, px_wr_mk, Int.reduceToNat, Int.toNat_natCast, if_true, if_false, Option.bind_some, px_up_cell, px_up_slot, px_up_eq, ne_eq, Nat.reduceEqDiff, not_false_eq_true, Int.reduceEq, Int.reduceLT, Int.reduceLE, Int.reduceNeg, decide_true, decide_false, Bool.and_true, Bool.true_and, Bool.and_false, Bool.false_and, and_self, and_true, true_and, and_false, false_and, bi_T, bi_F, not_true_eq_false, Bool.false_eq_true, gl, hc]
          rfl
        have Fc2 : FSt n c (px_up c1 (n + 13 + 6) 0 (nvl T s1 (e1 - s1))) := FSt_up (FSt_tss F1) _ (by unfold fst2; clear p1 p2 p3 n1 n2 n3; omega)
        have Fm2 := FMt_tr Fm1 (FTk_FMt q4)
        have I2 := FMt_IR M.1 Fm2
        have Fm3 : FMt m (px_up m2 125 (9 + 6) (nvl T s1 (e1 - s1))) := FMt_up Fm2 _ (by unfold fmt2; decide)
        have ne2 : 2 ≠ n + 13 + 6 := by clear p1 p2 p3 n1 n2 n3; omega
        have ne1 : n + 1 ≠ n + 13 + 6 := by clear p1 p2 p3 n1 n2 n3; omega
        have ne3 : ¬ (n + 1 = 2 ∧ 2 ≤ 6 ∧ 6 ≤ 6) := by clear p1 p2 p3 n1 n2 n3; omega
        have ne4 : ¬ (n + 13 + 6 = 2 ∧ 2 ≤ 0 ∧ 0 ≤ 6) := by clear p1 p2 p3 n1 n2 n3; omega
        have ne5 : ¬ (n + 13 + 6 = n + 1 ∧ 0 = 6) := by clear p1 p2 p3 n1 n2 n3; omega
        refine clEnd hn (i := e1) (j := 1) h3 (FSt_TC hn C Fc2) le1.2.2.1 (Nat.le_trans le1.1 le1.2.1) ((px_up_cell _ _ _ _ ne2).trans ct'.2.2.1) (show 6 < 9 by decide) (q := 0) ((px_up_cell _ _ _ _ ne1).trans ((tss_o F1 _ _ ne3).trans hq)) (by decide) q1 (FMt_TM M Fm3) (SC_c q3 (fun b => px_up_cell _ _ _ _ (by decide))) hcl (p.trans pc) (r102.trans ((m102_6 I2).2 q2 q5)) Fc2 Fm3 ⟨(px_up_cell _ _ _ _ (by decide)).trans ((q4 123 8 (by decide)).trans ((f1 123 8 (by decide)).trans (px_up_slot _ _ _ _ (by decide)))), (px_up_cell _ _ _ _ (by decide)).trans ((q4 123 9 (by decide)).trans ((f1 123 9 (by decide)).trans (px_up_slot _ _ _ _ (by decide))))⟩ (fun c' m' w1 w2 w3 => ?_)
        refine spr_s (v2 := 0) (v := nvl T s1 (e1 - s1)) hn S (show 6 ≤ 6 by decide) (show 6 < 9 by decide) hB w1 ?_ (by rw [lo.2]; exact inr) (fun a b v1 v3 v4 => ?_) ?_ ?_ (fun a b v1 v4 => ?_)
        · rw [w2 _ _ ne4 ne5, px_up_eq]
        · rw [w2 a b v1 v4]
          unfold px_up
          rw [if_neg v3]
          exact tss_o F1 a b v1
        · rw [w3 _ _ (fun z => absurd z.1 (by decide)), px_up_eq]
        · rw [w3 _ _ (fun z => absurd z.2.2 (by decide)), px_up_cell _ _ _ _ (by decide), q4 _ _ (fun z => absurd z.2.2 (by decide)), f1 _ _ (fun z => absurd z.2.2 (by decide)), px_up_eq]
        · have v5 : ¬ (a = 123 ∧ 3 ≤ b ∧ b ≤ 11 ∧ ¬ b = 8 ∧ ¬ b = 9) := fun z => v1 ⟨z.1, Or.inl ⟨z.2.1, z.2.2.1⟩⟩
          rw [w3 a b v5]
          unfold px_up
          rw [if_neg v4, q4 a b v5, f1 a b v5]
          unfold px_up
          rw [if_neg (fun z => v1 ⟨z.1, Or.inr z.2⟩)]
      · refine bad 2 (by decide) (n2 k3 ?_) (p2 k3 ?_) <;>
        · rcases Int.lt_or_le (nvl T s1 (e1 - s1)) 0 with z | z
          · exact Or.inl z
          · exact Or.inr (Int.lt_of_not_ge fun y => inr ⟨z, y⟩)
    · exact bad 1 (by decide) (n1 k3) (p1 k3)
  · have hq : c (n + 1) 6 = ((1 : Nat) : Int) := by rw [b.1, bit]; rfl
    obtain ⟨h1, _, _⟩ := cHead hn C t ct (by decide) ky hq
    have p := h1 (by decide)
    exact clF h3 p (y1 bit) (by decide) (FSt_rf _ _) (FTw_FMt (flM_F _ _)) (flM_8 _ _).1 (by rw [(flM_8 _ _).2, sc.2.1, ct.2.1])
theorem mS_7 {T : Nat → Int} {s e B : Nat} {m : hp} (sc : SC T s e 2 m) (ky : kyV T s (e - s) 0 9 = ((7 : Nat) : Int)) (hB : m 123 23 = (B : Int)) (B5 : B < 512) : (B.testBit 7 = true → px_R (mm_Mod_readClause, 0, [(2, 123), (9, 0)], [], (K0, m)) = some (0, (K0, flM 3 m))) ∧ (B.testBit 7 = false → ∀ m1 : hp, px_R (mm_Mod_scan, 0, [(2, 123), (9, 0), (9, 0), (9, 0)], [], (K0, px_up m 123 23 ((B ||| 2 ^ 7 : Nat) : Int))) = some (0, (K0, m1)) → px_R (mm_Mod_readClause, 0, [(2, 123), (9, 0)], [], (K0, m)) = px_R (mm_Mod_readClause, 102, [(2, 123), (0, 7)], [(0, 50), (0, 0), (2, 123)], (K0, m1))) := by
  obtain ⟨d3, d5, d6, d4, _, _⟩ := sc
  rw [if_pos rfl, ky] at d4
  have d4 : m 123 4 = 7 := d4
  have d3 : m 123 3 = 1 := d3
  have i5 : ¬ ((0 : Int) ≤ 7 ∧ (7 : Int) ≤ 5) := by decide
  have b1 := bit_1 (T := B) (a := 7) (by omega) (by decide)
  rw [inS_tb] at b1
  have sh : px_shl 1 7 = ((2 ^ 7 : Nat) : Int) := shl_g (w := 7) (by decide)
  have oo := or_n (a := B) (b := 2 ^ 7) (by omega) (by decide)
  have start : px_R (mm_Mod_readClause, 0, [(2, 123), (9, 0)], [], (K0, m)) = px_R (mm_Mod_readClause, 16, [(2, 123), (9, 0)], [(0, 7)], (K0, m)) := by
    rw [eq_Mod_readClause_0]
    simp only [px_rd_mk, px_wr_mk, Int.reduceToNat, Int.toNat_natCast, if_true, if_false, Option.bind_some, px_up_cell, px_up_slot, px_up_eq, ne_eq, Nat.reduceEqDiff, not_false_eq_true, Int.reduceEq, Int.reduceLT, Int.reduceLE, Int.reduceNeg, decide_true, decide_false, Bool.and_true, Bool.true_and, Bool.and_false, Bool.false_and, and_self, and_true, true_and, and_false, false_and, bi_T, bi_F, not_true_eq_false, Bool.false_eq_true, kg_123, d3, d4]
  constructor
  · intro z
    have b2 : (px_and (px_shr (B : Int) 7) 1 = 1) = True := b1.trans (eq_true z)
    rw [start, eq_Mod_readClause_16]
    simp only [px_rd_mk, px_wr_mk, Int.reduceToNat, Int.toNat_natCast, if_true, if_false, Option.bind_some, px_up_cell, px_up_slot, px_up_eq, ne_eq, Nat.reduceEqDiff, not_false_eq_true, Int.reduceEq, Int.reduceLT, Int.reduceLE, Int.reduceNeg, decide_true, decide_false, Bool.and_true, Bool.true_and, Bool.and_false, Bool.false_and, and_self, and_true, true_and, and_false, false_and, bi_T, bi_F, not_true_eq_false, Bool.false_eq_true, kg_123, R_Mod_in, bi_f i5, hB, b2, R_fails]
  · intro z m1 e1
    have b2 : (px_and (px_shr (B : Int) 7) 1 = 1) = False := b1.trans (eq_false (by rw [z]; decide))
    rw [start, eq_Mod_readClause_16]
    simp only [px_rd_mk, px_wr_mk, Int.reduceToNat, Int.toNat_natCast, if_true, if_false, Option.bind_some, px_up_cell, px_up_slot, px_up_eq, ne_eq, Nat.reduceEqDiff, not_false_eq_true, Int.reduceEq, Int.reduceLT, Int.reduceLE, Int.reduceNeg, decide_true, decide_false, Bool.and_true, Bool.true_and, Bool.and_false, Bool.false_and, and_self, and_true, true_and, and_false, false_and, bi_T, bi_F, not_true_eq_false, Bool.false_eq_true, kg_123, R_Mod_in, bi_f i5, hB, b2, sh, oo, e1]
theorem m102_7 {m1 m2 : hp} (I2 : IR m2) {v : Int} : (px_R (mm_Mod_readNumber, 0, [(2, 123), (0, 0), (0, 50)], [], (K0, m1)) = some (0, (K0, m2)) → px_R (mm_Mod_readClause, 102, [(2, 123), (0, 7)], [(0, 50), (0, 0), (2, 123)], (K0, m1)) = some (0, (K0, m2))) ∧ (px_R (mm_Mod_readNumber, 0, [(2, 123), (0, 0), (0, 50)], [], (K0, m1)) = some (1, (K0, m2)) → m2 123 11 = v → px_R (mm_Mod_readClause, 102, [(2, 123), (0, 7)], [(0, 50), (0, 0), (2, 123)], (K0, m1)) = some (1, (K0, px_up m2 125 (9 + 7) v))) := by
  have w9 : px_w (9 + 7) = 16 := rfl
  constructor
  · intro z
    rw [eq_Mod_readClause_102]
    simp only [px_rd_mk, px_wr_mk, Int.reduceToNat, Int.toNat_natCast, if_true, if_false, Option.bind_some, px_up_cell, px_up_slot, px_up_eq, ne_eq, Nat.reduceEqDiff, not_false_eq_true, Int.reduceEq, Int.reduceLT, Int.reduceLE, Int.reduceNeg, decide_true, decide_false, Bool.and_true, Bool.true_and, Bool.and_false, Bool.false_and, and_self, and_true, true_and, and_false, false_and, bi_T, bi_F, not_true_eq_false, Bool.false_eq_true, kg_123, z]
  · intro z y
    rw [eq_Mod_readClause_102]
    simp only [px_rd_mk, px_wr_mk, Int.reduceToNat, Int.toNat_natCast, if_true, if_false, Option.bind_some, px_up_cell, px_up_slot, px_up_eq, ne_eq, Nat.reduceEqDiff, not_false_eq_true, Int.reduceEq, Int.reduceLT, Int.reduceLE, Int.reduceNeg, decide_true, decide_false, Bool.and_true, Bool.true_and, Bool.and_false, Bool.false_and, and_self, and_true, true_and, and_false, false_and, bi_T, bi_F, not_true_eq_false, Bool.false_eq_true, kg_123, ka_125, z, y, w9, ir_123_12 I2]
theorem jT_7 {n : Nat} (hn : n = 4 ∨ n = 26) {T : Nat → Int} {N i s e cl : Nat} {c m : hp} (C : TC2 T N c) (M : TM T N m) (t : TK T N i s e 2) (ct : CT T s e 2 c) (sc : SC T s e 2 m) (S : SPR n c m) (ky : kyV T s (e - s) 0 9 = ((7 : Nat) : Int)) (hcl : cl < 100000) : clS n T N e cl c m (px_R (mm_Str_readClause, 0, [(2, (n : Int)), (2, 2), (9, 0), (9, 0), (9, 0)], [], (K0, c))) := by
  have le := TK_le t
  have h3 := SC_n4 sc
  have SS := S.2.1
  obtain ⟨B, hB, B5, bs⟩ := SS
  have b := bs 7 (by decide) (by decide)
  obtain ⟨y1, y2⟩ := mS_7 sc ky hB B5
  have gl := fx_gl1 ⟨7, by decide⟩
  have gl : px_gl (px_sar 1) ((7 : Nat) : Int) = true := gl
  have hc : px_lst (px_sar 1) 7 = 1 := rfl
  cases bit : B.testBit 7
  · have hq : c (n + 1) 7 = ((0 : Nat) : Int) := by rw [b.1, bit]; rfl
    obtain ⟨_, _, h2⟩ := cHead hn C t ct (by decide) ky hq
    have p := h2 (by decide) (by decide)
    have F0 : FMt m (px_up m 123 23 ((B ||| 2 ^ 7 : Nat) : Int)) := FMt_up (FMt_rf _) _ (by unfold fmt2; omega)
    obtain ⟨s1, e1, k1, m1, t1, q1, sc1, f1, _⟩ := scanT (FMt_TM M F0) le.2.2.1 ((px_up_slot _ _ _ _ (by decide)).trans sc.2.2.1)
    have r102 := y2 bit m1 q1
    have Fm1 := FMt_tr F0 (FTk_FMt f1)
    have M1 := FMt_TM M Fm1
    obtain ⟨s', e', k', c1, t', ct', F1, n1, n2, n3⟩ := sNum hn (kind := 7) (q := 0) (idx := 0) C le.2.2.1 ct.2.2.1 (by decide) hq (by decide) (by decide)
    obtain ⟨rfl, rfl, rfl⟩ := TK_u t1 t'
    have lo : lowN 7 0 = 0 ∧ higN 7 0 = 50 := by decide
    rw [lo.1, lo.2] at n2 n3
    obtain ⟨p1, p2, p3⟩ := mNum M1 t1 sc1 0 50
    have le1 := TK_le t1
    have bad : ∀ code : Int, 1 ≤ code → px_R (mm_Str_readNumber, 0, [(2, (n : Int)), (2, 2), (0, ((7 : Nat) : Int)), (0, ((0 : Nat) : Int)), (9, 0), (9, 0), (9, 0), (9, 0), (9, 0)], [], (K0, c)) = some (code, (K0, c1)) → px_R (mm_Mod_readNumber, 0, [(2, 123), (0, 0), (0, 50)], [], (K0, m1)) = some (0, (K0, flM code m1)) → clS n T N e cl c m (px_R (mm_Str_readClause, 0, [(2, (n : Int)), (2, 2), (9, 0), (9, 0), (9, 0)], [], (K0, c))) := fun code w1 w2 w3 => by
      have cb := cl_bad (n := n) (kind := 7) (j := 0 + 1) (r := code) (c := c1) (by decide) (by omega)
      have w2 : px_R (mm_Str_readNumber, 0, [(2, (n : Int)), (2, 2), (0, 7), (0, 0), (9, 0), (9, 0), (9, 0), (9, 0), (9, 0)], [], (K0, c)) = some (code, (K0, c1)) := w2
      have cb : px_R (mm_Str_readClause, 59, [(2, (n : Int)), (2, 2), (0, 7), (0, code), (0, 1)], [], (K0, c1)) = some (code, (K0, c1)) := cb
      have w01 : px_w (0 + 1) = 1 := rfl
      have pc : px_R (mm_Str_readClause, 59, [(2, (n : Int)), (2, 2), (0, 7), (0, 0), (0, 0)], [], (K0, c)) = some (code, (K0, c1)) := by
        have gl : px_gl (px_sar 1) 7 = true := gl
        rw [eq_Str_readClause_59]
        simp only [px_rd_mk, px_wr_mk, Int.reduceToNat, Int.toNat_natCast, if_true, if_false, Option.bind_some, px_up_cell, px_up_slot, px_up_eq, ne_eq, Nat.reduceEqDiff, not_false_eq_true, Int.reduceEq, Int.reduceLT, Int.reduceLE, Int.reduceNeg, decide_true, decide_false, Bool.and_true, Bool.true_and, Bool.and_false, Bool.false_and, and_self, and_true, true_and, and_false, false_and, bi_T, bi_F, not_true_eq_false, Bool.false_eq_true, gl, hc, sgo hn, w2, w01, cb]
      exact clF h3 (p.trans pc) (r102.trans ((m102_7 (v := 0) (FMt_IR M1.1 (FTw_FMt (flM_F code m1)))).1 w3)) w1 (FSt_tss F1) (FMt_tr Fm1 (FTw_FMt (flM_F _ _))) (flM_8 _ _).1 (by rw [(flM_8 _ _).2, sc1.2.1, ct'.2.1])
    by_cases k3 : k1 = 3
    · by_cases inr : 0 ≤ nvl T s1 (e1 - s1) ∧ nvl T s1 (e1 - s1) ≤ 50
      · have n4 := n3 k3 inr.1 inr.2
        rw [if_neg (fun z => absurd z.1.1 (by decide))] at n4
        obtain ⟨s2, e2, k2, m2, q1, q2, q3, q4, q5⟩ := p3 k3 inr.1 inr.2
        have w01 : px_w (0 + 1) = 1 := rfl
        have n4 : px_R (mm_Str_readNumber, 0, [(2, (n : Int)), (2, 2), (0, 7), (0, 0), (9, 0), (9, 0), (9, 0), (9, 0), (9, 0)], [], (K0, c)) = some (0, (K0, px_up c1 (n + 13 + 7) 0 (nvl T s1 (e1 - s1)))) := n4
        have pc : px_R (mm_Str_readClause, 59, [(2, (n : Int)), (2, 2), (0, 7), (0, 0), (0, 0)], [], (K0, c)) = px_R (mm_Str_readClause, 88, [(2, (n : Int)), (2, 2), (0, ((7 : Nat) : Int)), (0, 0), (0, ((1 : Nat) : Int))], [], (K0, px_up c1 (n + 13 + 7) 0 (nvl T s1 (e1 - s1)))) := by
          have gl : px_gl (px_sar 1) 7 = true := gl
          rw [eq_Str_readClause_59]
          simp only [px_rd_mk, px_wr_mk, Int.reduceToNat, Int.toNat_natCast, if_true, if_false, Option.bind_some, px_up_cell, px_up_slot, px_up_eq, ne_eq, Nat.reduceEqDiff, not_false_eq_true, Int.reduceEq, Int.reduceLT, Int.reduceLE, Int.reduceNeg, decide_true, decide_false, Bool.and_true, Bool.true_and, Bool.and_false, Bool.false_and, and_self, and_true, true_and, and_false, false_and, bi_T, bi_F, not_true_eq_false, Bool.false_eq_true, gl, hc, sgo hn, n4, w01]
          rw [eq_Str_readClause_59]
          simp only [px_rd_mk, px_wr_mk, Int.reduceToNat, Int.toNat_natCast, if_true, if_false, Option.bind_some, px_up_cell, px_up_slot, px_up_eq, ne_eq, Nat.reduceEqDiff, not_false_eq_true, Int.reduceEq, Int.reduceLT, Int.reduceLE, Int.reduceNeg, decide_true, decide_false, Bool.and_true, Bool.true_and, Bool.and_false, Bool.false_and, and_self, and_true, true_and, and_false, false_and, bi_T, bi_F, not_true_eq_false, Bool.false_eq_true, gl, hc]
          rfl
        have Fc2 : FSt n c (px_up c1 (n + 13 + 7) 0 (nvl T s1 (e1 - s1))) := FSt_up (FSt_tss F1) _ (by unfold fst2; clear p1 p2 p3 n1 n2 n3; omega)
        have Fm2 := FMt_tr Fm1 (FTk_FMt q4)
        have I2 := FMt_IR M.1 Fm2
        have Fm3 : FMt m (px_up m2 125 (9 + 7) (nvl T s1 (e1 - s1))) := FMt_up Fm2 _ (by unfold fmt2; decide)
        have ne2 : 2 ≠ n + 13 + 7 := by clear p1 p2 p3 n1 n2 n3; omega
        have ne1 : n + 1 ≠ n + 13 + 7 := by clear p1 p2 p3 n1 n2 n3; omega
        have ne3 : ¬ (n + 1 = 2 ∧ 2 ≤ 7 ∧ 7 ≤ 6) := by clear p1 p2 p3 n1 n2 n3; omega
        have ne4 : ¬ (n + 13 + 7 = 2 ∧ 2 ≤ 0 ∧ 0 ≤ 6) := by clear p1 p2 p3 n1 n2 n3; omega
        have ne5 : ¬ (n + 13 + 7 = n + 1 ∧ 0 = 7) := by clear p1 p2 p3 n1 n2 n3; omega
        refine clEnd hn (i := e1) (j := 1) h3 (FSt_TC hn C Fc2) le1.2.2.1 (Nat.le_trans le1.1 le1.2.1) ((px_up_cell _ _ _ _ ne2).trans ct'.2.2.1) (show 7 < 9 by decide) (q := 0) ((px_up_cell _ _ _ _ ne1).trans ((tss_o F1 _ _ ne3).trans hq)) (by decide) q1 (FMt_TM M Fm3) (SC_c q3 (fun b => px_up_cell _ _ _ _ (by decide))) hcl (p.trans pc) (r102.trans ((m102_7 I2).2 q2 q5)) Fc2 Fm3 ⟨(px_up_cell _ _ _ _ (by decide)).trans ((q4 123 8 (by decide)).trans ((f1 123 8 (by decide)).trans (px_up_slot _ _ _ _ (by decide)))), (px_up_cell _ _ _ _ (by decide)).trans ((q4 123 9 (by decide)).trans ((f1 123 9 (by decide)).trans (px_up_slot _ _ _ _ (by decide))))⟩ (fun c' m' w1 w2 w3 => ?_)
        refine spr_s (v2 := 0) (v := nvl T s1 (e1 - s1)) hn S (show 6 ≤ 7 by decide) (show 7 < 9 by decide) hB w1 ?_ (by rw [lo.2]; exact inr) (fun a b v1 v3 v4 => ?_) ?_ ?_ (fun a b v1 v4 => ?_)
        · rw [w2 _ _ ne4 ne5, px_up_eq]
        · rw [w2 a b v1 v4]
          unfold px_up
          rw [if_neg v3]
          exact tss_o F1 a b v1
        · rw [w3 _ _ (fun z => absurd z.1 (by decide)), px_up_eq]
        · rw [w3 _ _ (fun z => absurd z.2.2 (by decide)), px_up_cell _ _ _ _ (by decide), q4 _ _ (fun z => absurd z.2.2 (by decide)), f1 _ _ (fun z => absurd z.2.2 (by decide)), px_up_eq]
        · have v5 : ¬ (a = 123 ∧ 3 ≤ b ∧ b ≤ 11 ∧ ¬ b = 8 ∧ ¬ b = 9) := fun z => v1 ⟨z.1, Or.inl ⟨z.2.1, z.2.2.1⟩⟩
          rw [w3 a b v5]
          unfold px_up
          rw [if_neg v4, q4 a b v5, f1 a b v5]
          unfold px_up
          rw [if_neg (fun z => v1 ⟨z.1, Or.inr z.2⟩)]
      · refine bad 2 (by decide) (n2 k3 ?_) (p2 k3 ?_) <;>
        · rcases Int.lt_or_le (nvl T s1 (e1 - s1)) 0 with z | z
          · exact Or.inl z
          · exact Or.inr (Int.lt_of_not_ge fun y => inr ⟨z, y⟩)
    · exact bad 1 (by decide) (n1 k3) (p1 k3)
  · have hq : c (n + 1) 7 = ((1 : Nat) : Int) := by rw [b.1, bit]; rfl
    obtain ⟨h1, _, _⟩ := cHead hn C t ct (by decide) ky hq
    have p := h1 (by decide)
    exact clF h3 p (y1 bit) (by decide) (FSt_rf _ _) (FTw_FMt (flM_F _ _)) (flM_8 _ _).1 (by rw [(flM_8 _ _).2, sc.2.1, ct.2.1])
theorem mS_8 {T : Nat → Int} {s e B : Nat} {m : hp} (sc : SC T s e 2 m) (ky : kyV T s (e - s) 0 9 = ((8 : Nat) : Int)) (hB : m 123 23 = (B : Int)) (B5 : B < 512) : (B.testBit 8 = true → px_R (mm_Mod_readClause, 0, [(2, 123), (9, 0)], [], (K0, m)) = some (0, (K0, flM 3 m))) ∧ (B.testBit 8 = false → ∀ m1 : hp, px_R (mm_Mod_scan, 0, [(2, 123), (9, 0), (9, 0), (9, 0)], [], (K0, px_up m 123 23 ((B ||| 2 ^ 8 : Nat) : Int))) = some (0, (K0, m1)) → px_R (mm_Mod_readClause, 0, [(2, 123), (9, 0)], [], (K0, m)) = px_R (mm_Mod_readClause, 102, [(2, 123), (0, 8)], [(0, 3), (0, 0), (2, 123)], (K0, m1))) := by
  obtain ⟨d3, d5, d6, d4, _, _⟩ := sc
  rw [if_pos rfl, ky] at d4
  have d4 : m 123 4 = 8 := d4
  have d3 : m 123 3 = 1 := d3
  have i5 : ¬ ((0 : Int) ≤ 8 ∧ (8 : Int) ≤ 5) := by decide
  have b1 := bit_1 (T := B) (a := 8) (by omega) (by decide)
  rw [inS_tb] at b1
  have sh : px_shl 1 8 = ((2 ^ 8 : Nat) : Int) := shl_g (w := 8) (by decide)
  have oo := or_n (a := B) (b := 2 ^ 8) (by omega) (by decide)
  have start : px_R (mm_Mod_readClause, 0, [(2, 123), (9, 0)], [], (K0, m)) = px_R (mm_Mod_readClause, 16, [(2, 123), (9, 0)], [(0, 8)], (K0, m)) := by
    rw [eq_Mod_readClause_0]
    simp only [px_rd_mk, px_wr_mk, Int.reduceToNat, Int.toNat_natCast, if_true, if_false, Option.bind_some, px_up_cell, px_up_slot, px_up_eq, ne_eq, Nat.reduceEqDiff, not_false_eq_true, Int.reduceEq, Int.reduceLT, Int.reduceLE, Int.reduceNeg, decide_true, decide_false, Bool.and_true, Bool.true_and, Bool.and_false, Bool.false_and, and_self, and_true, true_and, and_false, false_and, bi_T, bi_F, not_true_eq_false, Bool.false_eq_true, kg_123, d3, d4]
  constructor
  · intro z
    have b2 : (px_and (px_shr (B : Int) 8) 1 = 1) = True := b1.trans (eq_true z)
    rw [start, eq_Mod_readClause_16]
    simp only [px_rd_mk, px_wr_mk, Int.reduceToNat, Int.toNat_natCast, if_true, if_false, Option.bind_some, px_up_cell, px_up_slot, px_up_eq, ne_eq, Nat.reduceEqDiff, not_false_eq_true, Int.reduceEq, Int.reduceLT, Int.reduceLE, Int.reduceNeg, decide_true, decide_false, Bool.and_true, Bool.true_and, Bool.and_false, Bool.false_and, and_self, and_true, true_and, and_false, false_and, bi_T, bi_F, not_true_eq_false, Bool.false_eq_true, kg_123, R_Mod_in, bi_f i5, hB, b2, R_fails]
  · intro z m1 e1
    have b2 : (px_and (px_shr (B : Int) 8) 1 = 1) = False := b1.trans (eq_false (by rw [z]; decide))
    rw [start, eq_Mod_readClause_16]
    simp only [px_rd_mk, px_wr_mk, Int.reduceToNat, Int.toNat_natCast, if_true, if_false, Option.bind_some, px_up_cell, px_up_slot, px_up_eq, ne_eq, Nat.reduceEqDiff, not_false_eq_true, Int.reduceEq, Int.reduceLT, Int.reduceLE, Int.reduceNeg, decide_true, decide_false, Bool.and_true, Bool.true_and, Bool.and_false, Bool.false_and, and_self, and_true, true_and, and_false, false_and, bi_T, bi_F, not_true_eq_false, Bool.false_eq_true, kg_123, R_Mod_in, bi_f i5, hB, b2, sh, oo, e1]
theorem m102_8 {m1 m2 : hp} (I2 : IR m2) {v : Int} : (px_R (mm_Mod_readNumber, 0, [(2, 123), (0, 0), (0, 3)], [], (K0, m1)) = some (0, (K0, m2)) → px_R (mm_Mod_readClause, 102, [(2, 123), (0, 8)], [(0, 3), (0, 0), (2, 123)], (K0, m1)) = some (0, (K0, m2))) ∧ (px_R (mm_Mod_readNumber, 0, [(2, 123), (0, 0), (0, 3)], [], (K0, m1)) = some (1, (K0, m2)) → m2 123 11 = v → px_R (mm_Mod_readClause, 102, [(2, 123), (0, 8)], [(0, 3), (0, 0), (2, 123)], (K0, m1)) = some (1, (K0, px_up m2 125 (9 + 8) v))) := by
  have w9 : px_w (9 + 8) = 17 := rfl
  constructor
  · intro z
    rw [eq_Mod_readClause_102]
    simp only [px_rd_mk, px_wr_mk, Int.reduceToNat, Int.toNat_natCast, if_true, if_false, Option.bind_some, px_up_cell, px_up_slot, px_up_eq, ne_eq, Nat.reduceEqDiff, not_false_eq_true, Int.reduceEq, Int.reduceLT, Int.reduceLE, Int.reduceNeg, decide_true, decide_false, Bool.and_true, Bool.true_and, Bool.and_false, Bool.false_and, and_self, and_true, true_and, and_false, false_and, bi_T, bi_F, not_true_eq_false, Bool.false_eq_true, kg_123, z]
  · intro z y
    rw [eq_Mod_readClause_102]
    simp only [px_rd_mk, px_wr_mk, Int.reduceToNat, Int.toNat_natCast, if_true, if_false, Option.bind_some, px_up_cell, px_up_slot, px_up_eq, ne_eq, Nat.reduceEqDiff, not_false_eq_true, Int.reduceEq, Int.reduceLT, Int.reduceLE, Int.reduceNeg, decide_true, decide_false, Bool.and_true, Bool.true_and, Bool.and_false, Bool.false_and, and_self, and_true, true_and, and_false, false_and, bi_T, bi_F, not_true_eq_false, Bool.false_eq_true, kg_123, ka_125, z, y, w9, ir_123_12 I2]
theorem jT_8 {n : Nat} (hn : n = 4 ∨ n = 26) {T : Nat → Int} {N i s e cl : Nat} {c m : hp} (C : TC2 T N c) (M : TM T N m) (t : TK T N i s e 2) (ct : CT T s e 2 c) (sc : SC T s e 2 m) (S : SPR n c m) (ky : kyV T s (e - s) 0 9 = ((8 : Nat) : Int)) (hcl : cl < 100000) : clS n T N e cl c m (px_R (mm_Str_readClause, 0, [(2, (n : Int)), (2, 2), (9, 0), (9, 0), (9, 0)], [], (K0, c))) := by
  have le := TK_le t
  have h3 := SC_n4 sc
  have SS := S.2.1
  obtain ⟨B, hB, B5, bs⟩ := SS
  have b := bs 8 (by decide) (by decide)
  obtain ⟨y1, y2⟩ := mS_8 sc ky hB B5
  have gl := fx_gl1 ⟨8, by decide⟩
  have gl : px_gl (px_sar 1) ((8 : Nat) : Int) = true := gl
  have hc : px_lst (px_sar 1) 8 = 1 := rfl
  cases bit : B.testBit 8
  · have hq : c (n + 1) 8 = ((0 : Nat) : Int) := by rw [b.1, bit]; rfl
    obtain ⟨_, _, h2⟩ := cHead hn C t ct (by decide) ky hq
    have p := h2 (by decide) (by decide)
    have F0 : FMt m (px_up m 123 23 ((B ||| 2 ^ 8 : Nat) : Int)) := FMt_up (FMt_rf _) _ (by unfold fmt2; omega)
    obtain ⟨s1, e1, k1, m1, t1, q1, sc1, f1, _⟩ := scanT (FMt_TM M F0) le.2.2.1 ((px_up_slot _ _ _ _ (by decide)).trans sc.2.2.1)
    have r102 := y2 bit m1 q1
    have Fm1 := FMt_tr F0 (FTk_FMt f1)
    have M1 := FMt_TM M Fm1
    obtain ⟨s', e', k', c1, t', ct', F1, n1, n2, n3⟩ := sNum hn (kind := 8) (q := 0) (idx := 0) C le.2.2.1 ct.2.2.1 (by decide) hq (by decide) (by decide)
    obtain ⟨rfl, rfl, rfl⟩ := TK_u t1 t'
    have lo : lowN 8 0 = 0 ∧ higN 8 0 = 3 := by decide
    rw [lo.1, lo.2] at n2 n3
    obtain ⟨p1, p2, p3⟩ := mNum M1 t1 sc1 0 3
    have le1 := TK_le t1
    have bad : ∀ code : Int, 1 ≤ code → px_R (mm_Str_readNumber, 0, [(2, (n : Int)), (2, 2), (0, ((8 : Nat) : Int)), (0, ((0 : Nat) : Int)), (9, 0), (9, 0), (9, 0), (9, 0), (9, 0)], [], (K0, c)) = some (code, (K0, c1)) → px_R (mm_Mod_readNumber, 0, [(2, 123), (0, 0), (0, 3)], [], (K0, m1)) = some (0, (K0, flM code m1)) → clS n T N e cl c m (px_R (mm_Str_readClause, 0, [(2, (n : Int)), (2, 2), (9, 0), (9, 0), (9, 0)], [], (K0, c))) := fun code w1 w2 w3 => by
      have cb := cl_bad (n := n) (kind := 8) (j := 0 + 1) (r := code) (c := c1) (by decide) (by omega)
      have w2 : px_R (mm_Str_readNumber, 0, [(2, (n : Int)), (2, 2), (0, 8), (0, 0), (9, 0), (9, 0), (9, 0), (9, 0), (9, 0)], [], (K0, c)) = some (code, (K0, c1)) := w2
      have cb : px_R (mm_Str_readClause, 59, [(2, (n : Int)), (2, 2), (0, 8), (0, code), (0, 1)], [], (K0, c1)) = some (code, (K0, c1)) := cb
      have w01 : px_w (0 + 1) = 1 := rfl
      have pc : px_R (mm_Str_readClause, 59, [(2, (n : Int)), (2, 2), (0, 8), (0, 0), (0, 0)], [], (K0, c)) = some (code, (K0, c1)) := by
        have gl : px_gl (px_sar 1) 8 = true := gl
        rw [eq_Str_readClause_59]
        simp only [px_rd_mk, px_wr_mk, Int.reduceToNat, Int.toNat_natCast, if_true, if_false, Option.bind_some, px_up_cell, px_up_slot, px_up_eq, ne_eq, Nat.reduceEqDiff, not_false_eq_true, Int.reduceEq, Int.reduceLT, Int.reduceLE, Int.reduceNeg, decide_true, decide_false, Bool.and_true, Bool.true_and, Bool.and_false, Bool.false_and, and_self, and_true, true_and, and_false, false_and, bi_T, bi_F, not_true_eq_false, Bool.false_eq_true, gl, hc, sgo hn, w2, w01, cb]
      exact clF h3 (p.trans pc) (r102.trans ((m102_8 (v := 0) (FMt_IR M1.1 (FTw_FMt (flM_F code m1)))).1 w3)) w1 (FSt_tss F1) (FMt_tr Fm1 (FTw_FMt (flM_F _ _))) (flM_8 _ _).1 (by rw [(flM_8 _ _).2, sc1.2.1, ct'.2.1])
    by_cases k3 : k1 = 3
    · by_cases inr : 0 ≤ nvl T s1 (e1 - s1) ∧ nvl T s1 (e1 - s1) ≤ 3
      · have n4 := n3 k3 inr.1 inr.2
        rw [if_neg (fun z => absurd z.1.1 (by decide))] at n4
        obtain ⟨s2, e2, k2, m2, q1, q2, q3, q4, q5⟩ := p3 k3 inr.1 inr.2
        have w01 : px_w (0 + 1) = 1 := rfl
        have n4 : px_R (mm_Str_readNumber, 0, [(2, (n : Int)), (2, 2), (0, 8), (0, 0), (9, 0), (9, 0), (9, 0), (9, 0), (9, 0)], [], (K0, c)) = some (0, (K0, px_up c1 (n + 13 + 8) 0 (nvl T s1 (e1 - s1)))) := n4
        have pc : px_R (mm_Str_readClause, 59, [(2, (n : Int)), (2, 2), (0, 8), (0, 0), (0, 0)], [], (K0, c)) = px_R (mm_Str_readClause, 88, [(2, (n : Int)), (2, 2), (0, ((8 : Nat) : Int)), (0, 0), (0, ((1 : Nat) : Int))], [], (K0, px_up c1 (n + 13 + 8) 0 (nvl T s1 (e1 - s1)))) := by
          have gl : px_gl (px_sar 1) 8 = true := gl
          rw [eq_Str_readClause_59]
          simp only [px_rd_mk, px_wr_mk, Int.reduceToNat, Int.toNat_natCast, if_true, if_false, Option.bind_some, px_up_cell, px_up_slot, px_up_eq, ne_eq, Nat.reduceEqDiff, not_false_eq_true, Int.reduceEq, Int.reduceLT, Int.reduceLE, Int.reduceNeg, decide_true, decide_false, Bool.and_true, Bool.true_and, Bool.and_false, Bool.false_and, and_self, and_true, true_and, and_false, false_and, bi_T, bi_F, not_true_eq_false, Bool.false_eq_true, gl, hc, sgo hn, n4, w01]
          rw [eq_Str_readClause_59]
          simp only [px_rd_mk, px_wr_mk, Int.reduceToNat, Int.toNat_natCast, if_true, if_false, Option.bind_some, px_up_cell, px_up_slot, px_up_eq, ne_eq, Nat.reduceEqDiff, not_false_eq_true, Int.reduceEq, Int.reduceLT, Int.reduceLE, Int.reduceNeg, decide_true, decide_false, Bool.and_true, Bool.true_and, Bool.and_false, Bool.false_and, and_self, and_true, true_and, and_false, false_and, bi_T, bi_F, not_true_eq_false, Bool.false_eq_true, gl, hc]
          rfl
        have Fc2 : FSt n c (px_up c1 (n + 13 + 8) 0 (nvl T s1 (e1 - s1))) := FSt_up (FSt_tss F1) _ (by unfold fst2; clear p1 p2 p3 n1 n2 n3; omega)
        have Fm2 := FMt_tr Fm1 (FTk_FMt q4)
        have I2 := FMt_IR M.1 Fm2
        have Fm3 : FMt m (px_up m2 125 (9 + 8) (nvl T s1 (e1 - s1))) := FMt_up Fm2 _ (by unfold fmt2; decide)
        have ne2 : 2 ≠ n + 13 + 8 := by clear p1 p2 p3 n1 n2 n3; omega
        have ne1 : n + 1 ≠ n + 13 + 8 := by clear p1 p2 p3 n1 n2 n3; omega
        have ne3 : ¬ (n + 1 = 2 ∧ 2 ≤ 8 ∧ 8 ≤ 6) := by clear p1 p2 p3 n1 n2 n3; omega
        have ne4 : ¬ (n + 13 + 8 = 2 ∧ 2 ≤ 0 ∧ 0 ≤ 6) := by clear p1 p2 p3 n1 n2 n3; omega
        have ne5 : ¬ (n + 13 + 8 = n + 1 ∧ 0 = 8) := by clear p1 p2 p3 n1 n2 n3; omega
        refine clEnd hn (i := e1) (j := 1) h3 (FSt_TC hn C Fc2) le1.2.2.1 (Nat.le_trans le1.1 le1.2.1) ((px_up_cell _ _ _ _ ne2).trans ct'.2.2.1) (show 8 < 9 by decide) (q := 0) ((px_up_cell _ _ _ _ ne1).trans ((tss_o F1 _ _ ne3).trans hq)) (by decide) q1 (FMt_TM M Fm3) (SC_c q3 (fun b => px_up_cell _ _ _ _ (by decide))) hcl (p.trans pc) (r102.trans ((m102_8 I2).2 q2 q5)) Fc2 Fm3 ⟨(px_up_cell _ _ _ _ (by decide)).trans ((q4 123 8 (by decide)).trans ((f1 123 8 (by decide)).trans (px_up_slot _ _ _ _ (by decide)))), (px_up_cell _ _ _ _ (by decide)).trans ((q4 123 9 (by decide)).trans ((f1 123 9 (by decide)).trans (px_up_slot _ _ _ _ (by decide))))⟩ (fun c' m' w1 w2 w3 => ?_)
        refine spr_s (v2 := 0) (v := nvl T s1 (e1 - s1)) hn S (show 6 ≤ 8 by decide) (show 8 < 9 by decide) hB w1 ?_ (by rw [lo.2]; exact inr) (fun a b v1 v3 v4 => ?_) ?_ ?_ (fun a b v1 v4 => ?_)
        · rw [w2 _ _ ne4 ne5, px_up_eq]
        · rw [w2 a b v1 v4]
          unfold px_up
          rw [if_neg v3]
          exact tss_o F1 a b v1
        · rw [w3 _ _ (fun z => absurd z.1 (by decide)), px_up_eq]
        · rw [w3 _ _ (fun z => absurd z.2.2 (by decide)), px_up_cell _ _ _ _ (by decide), q4 _ _ (fun z => absurd z.2.2 (by decide)), f1 _ _ (fun z => absurd z.2.2 (by decide)), px_up_eq]
        · have v5 : ¬ (a = 123 ∧ 3 ≤ b ∧ b ≤ 11 ∧ ¬ b = 8 ∧ ¬ b = 9) := fun z => v1 ⟨z.1, Or.inl ⟨z.2.1, z.2.2.1⟩⟩
          rw [w3 a b v5]
          unfold px_up
          rw [if_neg v4, q4 a b v5, f1 a b v5]
          unfold px_up
          rw [if_neg (fun z => v1 ⟨z.1, Or.inr z.2⟩)]
      · refine bad 2 (by decide) (n2 k3 ?_) (p2 k3 ?_) <;>
        · rcases Int.lt_or_le (nvl T s1 (e1 - s1)) 0 with z | z
          · exact Or.inl z
          · exact Or.inr (Int.lt_of_not_ge fun y => inr ⟨z, y⟩)
    · exact bad 1 (by decide) (n1 k3) (p1 k3)
  · have hq : c (n + 1) 8 = ((1 : Nat) : Int) := by rw [b.1, bit]; rfl
    obtain ⟨h1, _, _⟩ := cHead hn C t ct (by decide) ky hq
    have p := h1 (by decide)
    exact clF h3 p (y1 bit) (by decide) (FSt_rf _ _) (FTw_FMt (flM_F _ _)) (flM_8 _ _).1 (by rw [(flM_8 _ _).2, sc.2.1, ct.2.1])
